set_option maxRecDepth 20000 in
theorem ggX0_manyAt_X0_slotOf : GoodIn wsX0_manyAt wsX0_slotOf := goodIn_r _ [5] (by decide +kernel) (by decide +kernel)
set_option maxRecDepth 20000 in
theorem gX0_manyAt_X0_slotOf : GoodIn wsX0_manyAt (va_wsS RX0 15 yX0_slotOf wsX0_slotOf) := goodIn_app (goodIn_of _ (by decide +kernel)) ggX0_manyAt_X0_slotOf
set_option maxRecDepth 20000 in
theorem ggX0_add_X0_slotOf : GoodIn wsX0_add wsX0_slotOf := goodIn_r _ [5] (by decide +kernel) (by decide +kernel)
set_option maxRecDepth 20000 in
theorem gX0_add_X0_slotOf : GoodIn wsX0_add (va_wsS RX0 15 yX0_slotOf wsX0_slotOf) := goodIn_app (goodIn_of _ (by decide +kernel)) ggX0_add_X0_slotOf
set_option maxRecDepth 20000 in
theorem ggX0_takeAll_X0_slotOf : GoodIn wsX0_takeAll wsX0_slotOf := goodIn_r _ [5] (by decide +kernel) (by decide +kernel)
set_option maxRecDepth 20000 in
theorem gX0_takeAll_X0_slotOf : GoodIn wsX0_takeAll (va_wsS RX0 15 yX0_slotOf wsX0_slotOf) := goodIn_app (goodIn_of _ (by decide +kernel)) ggX0_takeAll_X0_slotOf
set_option maxRecDepth 20000 in
theorem ggX0_letFall_X0_takeAll : GoodIn wsX0_letFall wsX0_takeAll := goodIn_r _ [5, 6, 7, 8, 4, 9, 22] (by decide +kernel) (by decide +kernel)
set_option maxRecDepth 20000 in
theorem gX0_letFall_X0_takeAll : GoodIn wsX0_letFall (wsV RX0 19 RX0 yX0_takeAll wsX0_takeAll) := goodIn_app (goodIn_of _ (by decide +kernel)) ggX0_letFall_X0_takeAll
set_option maxRecDepth 20000 in
theorem ggX0_letFall_X5_fallOf : GoodIn wsX0_letFall wsX5_fallOf := goodIn_r _ [12, 13, 14, 11, 15] (by decide +kernel) (by decide +kernel)
set_option maxRecDepth 20000 in
theorem gX0_letFall_X5_fallOf_n22 : GoodIn wsX0_letFall (wsX5_fallOf) := ggX0_letFall_X5_fallOf
set_option maxRecDepth 20000 in
theorem ggX0_letFall_X5_waterOf : GoodIn wsX0_letFall wsX5_waterOf := goodIn_r _ [17] (by decide +kernel) (by decide +kernel)
set_option maxRecDepth 20000 in
theorem gX0_letFall_X5_waterOf_n25 : GoodIn wsX0_letFall (wsX5_waterOf) := ggX0_letFall_X5_waterOf
set_option maxRecDepth 20000 in
theorem ggX0_letFall_X0_add : GoodIn wsX0_letFall wsX0_add := goodIn_r _ [21, 6, 7, 8, 4, 9, 22] (by decide +kernel) (by decide +kernel)
set_option maxRecDepth 20000 in
theorem gX0_letFall_X0_add : GoodIn wsX0_letFall (wsV RX0 29 RX0 yX0_add wsX0_add) := goodIn_app (goodIn_of _ (by decide +kernel)) ggX0_letFall_X0_add
set_option maxRecDepth 20000 in
theorem ggX0_moveAll_X0_moveFrom : GoodIn wsX0_moveAll wsX0_moveFrom := goodIn_r _ [5, 6, 7, 8, 4, 9, 10, 11, 12, 13, 14, 15, 16, 17, 18, 19, 20, 21] (by decide +kernel) (by decide +kernel)
set_option maxRecDepth 20000 in
theorem gX0_moveAll_X0_moveFrom : GoodIn wsX0_moveAll (wsV RX0 33 RX0 yX0_moveFrom wsX0_moveFrom) := goodIn_app (goodIn_of _ (by decide +kernel)) ggX0_moveAll_X0_moveFrom
set_option maxRecDepth 20000 in
theorem ggX0_moveFrom_X0_takeAll : GoodIn wsX0_moveFrom wsX0_takeAll := goodIn_r _ [5, 6, 7, 8, 4, 9, 17] (by decide +kernel) (by decide +kernel)
set_option maxRecDepth 20000 in
theorem gX0_moveFrom_X0_takeAll : GoodIn wsX0_moveFrom (wsV RX0 19 RX0 yX0_takeAll wsX0_takeAll) := goodIn_app (goodIn_of _ (by decide +kernel)) ggX0_moveFrom_X0_takeAll
set_option maxRecDepth 20000 in
theorem ggX0_moveFrom_X5_waterOf : GoodIn wsX0_moveFrom wsX5_waterOf := goodIn_r _ [12] (by decide +kernel) (by decide +kernel)
set_option maxRecDepth 20000 in
theorem gX0_moveFrom_X5_waterOf_n25 : GoodIn wsX0_moveFrom (wsX5_waterOf) := ggX0_moveFrom_X5_waterOf
set_option maxRecDepth 20000 in
theorem ggX0_moveFrom_X0_add : GoodIn wsX0_moveFrom wsX0_add := goodIn_r _ [16, 6, 7, 8, 4, 9, 17] (by decide +kernel) (by decide +kernel)
set_option maxRecDepth 20000 in
theorem gX0_moveFrom_X0_add : GoodIn wsX0_moveFrom (wsV RX0 29 RX0 yX0_add wsX0_add) := goodIn_app (goodIn_of _ (by decide +kernel)) ggX0_moveFrom_X0_add
set_option maxRecDepth 20000 in
theorem ggX0_plainEcho_X0_manyAt : GoodIn wsX0_plainEcho wsX0_manyAt := goodIn_r _ [5, 6, 7, 8, 4, 9, 10] (by decide +kernel) (by decide +kernel)
set_option maxRecDepth 20000 in
theorem gX0_plainEcho_X0_manyAt : GoodIn wsX0_plainEcho (wsV RX0 36 RX0 yX0_manyAt wsX0_manyAt) := goodIn_app (goodIn_of _ (by decide +kernel)) ggX0_plainEcho_X0_manyAt
set_option maxRecDepth 20000 in
theorem ggX0_allWater_X0_manyAt : GoodIn wsX0_allWater wsX0_manyAt := goodIn_r _ [5, 6, 7, 8, 4, 9, 13] (by decide +kernel) (by decide +kernel)
set_option maxRecDepth 20000 in
theorem gX0_allWater_X0_manyAt : GoodIn wsX0_allWater (wsV RX0 36 RX0 yX0_manyAt wsX0_manyAt) := goodIn_app (goodIn_of _ (by decide +kernel)) ggX0_allWater_X0_manyAt
set_option maxRecDepth 20000 in
theorem ggX0_allWater_X5_waterOf : GoodIn wsX0_allWater wsX5_waterOf := goodIn_r _ [12] (by decide +kernel) (by decide +kernel)
set_option maxRecDepth 20000 in
theorem gX0_allWater_X5_waterOf_n25 : GoodIn wsX0_allWater (wsX5_waterOf) := ggX0_allWater_X5_waterOf
set_option maxRecDepth 20000 in
theorem ggX1_isUp_X1_isKilometre : GoodIn wsX1_isUp wsX1_isKilometre := goodIn_r _ [5] (by decide +kernel) (by decide +kernel)
set_option maxRecDepth 20000 in
theorem gX1_isUp_X1_isKilometre : GoodIn wsX1_isUp (va_wsS RX1 22 yX1_isKilometre wsX1_isKilometre) := goodIn_app (goodIn_of _ (by decide +kernel)) ggX1_isUp_X1_isKilometre
set_option maxRecDepth 20000 in
theorem ggX1_isClogged_X1_isKilometre : GoodIn wsX1_isClogged wsX1_isKilometre := goodIn_r _ [5] (by decide +kernel) (by decide +kernel)
set_option maxRecDepth 20000 in
theorem gX1_isClogged_X1_isKilometre : GoodIn wsX1_isClogged (va_wsS RX1 22 yX1_isKilometre wsX1_isKilometre) := goodIn_app (goodIn_of _ (by decide +kernel)) ggX1_isClogged_X1_isKilometre
set_option maxRecDepth 20000 in
theorem ggX1_contentOf_X1_isKilometre : GoodIn wsX1_contentOf wsX1_isKilometre := goodIn_r _ [5] (by decide +kernel) (by decide +kernel)
set_option maxRecDepth 20000 in
theorem gX1_contentOf_X1_isKilometre : GoodIn wsX1_contentOf (va_wsS RX1 22 yX1_isKilometre wsX1_isKilometre) := goodIn_app (goodIn_of _ (by decide +kernel)) ggX1_contentOf_X1_isKilometre
set_option maxRecDepth 20000 in
theorem ggX1_change_X1_isKilometre : GoodIn wsX1_change wsX1_isKilometre := goodIn_r _ [7] (by decide +kernel) (by decide +kernel)
set_option maxRecDepth 20000 in
theorem gX1_change_X1_isKilometre : GoodIn wsX1_change (va_wsS RX1 22 yX1_isKilometre wsX1_isKilometre) := goodIn_app (goodIn_of _ (by decide +kernel)) ggX1_change_X1_isKilometre
set_option maxRecDepth 20000 in
theorem ggX1_setClogged_X1_isKilometre : GoodIn wsX1_setClogged wsX1_isKilometre := goodIn_r _ [5] (by decide +kernel) (by decide +kernel)
set_option maxRecDepth 20000 in
theorem gX1_setClogged_X1_isKilometre : GoodIn wsX1_setClogged (va_wsS RX1 22 yX1_isKilometre wsX1_isKilometre) := goodIn_app (goodIn_of _ (by decide +kernel)) ggX1_setClogged_X1_isKilometre
set_option maxRecDepth 20000 in
theorem ggX1_collect_X1_isUp : GoodIn wsX1_collect wsX1_isUp := goodIn_r _ [7, 8, 9, 10, 6, 11, 17, 18, 19] (by decide +kernel) (by decide +kernel)
set_option maxRecDepth 20000 in
theorem gX1_collect_X1_isUp : GoodIn wsX1_collect (wsV RX1 26 RX1 yX1_isUp wsX1_isUp) := goodIn_app (goodIn_of _ (by decide +kernel)) ggX1_collect_X1_isUp
set_option maxRecDepth 20000 in
theorem ggX1_collect_X1_isClogged : GoodIn wsX1_collect wsX1_isClogged := goodIn_r _ [15, 16, 9, 10, 6, 11, 17, 18, 19] (by decide +kernel) (by decide +kernel)
set_option maxRecDepth 20000 in
theorem gX1_collect_X1_isClogged : GoodIn wsX1_collect (wsV RX1 29 RX1 yX1_isClogged wsX1_isClogged) := goodIn_app (goodIn_of _ (by decide +kernel)) ggX1_collect_X1_isClogged
set_option maxRecDepth 20000 in
theorem ggX2_keep_X2_isMinute : GoodIn wsX2_keep wsX2_isMinute := goodIn_r _ [6] (by decide +kernel) (by decide +kernel)
set_option maxRecDepth 20000 in
theorem gX2_keep_X2_isMinute : GoodIn wsX2_keep (va_wsS RX2 18 yX2_isMinute wsX2_isMinute) := goodIn_app (goodIn_of _ (by decide +kernel)) ggX2_keep_X2_isMinute
set_option maxRecDepth 20000 in
theorem ggX2_meltingIn_X2_isMinute : GoodIn wsX2_meltingIn wsX2_isMinute := goodIn_r _ [5] (by decide +kernel) (by decide +kernel)
set_option maxRecDepth 20000 in
theorem gX2_meltingIn_X2_isMinute : GoodIn wsX2_meltingIn (va_wsS RX2 18 yX2_isMinute wsX2_isMinute) := goodIn_app (goodIn_of _ (by decide +kernel)) ggX2_meltingIn_X2_isMinute
set_option maxRecDepth 20000 in
theorem ggX2_stepIn_X2_isMinute : GoodIn wsX2_stepIn wsX2_isMinute := goodIn_r _ [5] (by decide +kernel) (by decide +kernel)
set_option maxRecDepth 20000 in
theorem gX2_stepIn_X2_isMinute : GoodIn wsX2_stepIn (va_wsS RX2 18 yX2_isMinute wsX2_isMinute) := goodIn_app (goodIn_of _ (by decide +kernel)) ggX2_stepIn_X2_isMinute
set_option maxRecDepth 20000 in
theorem ggX3_kilometreAt_X3_has : GoodIn wsX3_kilometreAt wsX3_has := goodIn_r _ [6, 7, 8, 9, 10, 11, 12, 13] (by decide +kernel) (by decide +kernel)
set_option maxRecDepth 20000 in
theorem gX3_kilometreAt_X3_has : GoodIn wsX3_kilometreAt (wsV RX3 31 RX3 yX3_has wsX3_has) := goodIn_app (goodIn_of _ (by decide +kernel)) ggX3_kilometreAt_X3_has
set_option maxRecDepth 20000 in
theorem ggX3_layerAt_X3_has : GoodIn wsX3_layerAt wsX3_has := goodIn_r _ [6, 7, 8, 9, 10, 11, 12, 13] (by decide +kernel) (by decide +kernel)
set_option maxRecDepth 20000 in
theorem gX3_layerAt_X3_has : GoodIn wsX3_layerAt (wsV RX3 31 RX3 yX3_has wsX3_has) := goodIn_app (goodIn_of _ (by decide +kernel)) ggX3_layerAt_X3_has
set_option maxRecDepth 20000 in
theorem ggX3_sizeAt_X3_has : GoodIn wsX3_sizeAt wsX3_has := goodIn_r _ [6, 7, 8, 9, 10, 11, 12, 13] (by decide +kernel) (by decide +kernel)
set_option maxRecDepth 20000 in
theorem gX3_sizeAt_X3_has : GoodIn wsX3_sizeAt (wsV RX3 31 RX3 yX3_has wsX3_has) := goodIn_app (goodIn_of _ (by decide +kernel)) ggX3_sizeAt_X3_has
set_option maxRecDepth 20000 in
theorem ggX3_minuteAt_X3_has : GoodIn wsX3_minuteAt wsX3_has := goodIn_r _ [6, 7, 8, 9, 10, 11, 12, 13] (by decide +kernel) (by decide +kernel)
set_option maxRecDepth 20000 in
theorem gX3_minuteAt_X3_has : GoodIn wsX3_minuteAt (wsV RX3 31 RX3 yX3_has wsX3_has) := goodIn_app (goodIn_of _ (by decide +kernel)) ggX3_minuteAt_X3_has
set_option maxRecDepth 20000 in
theorem ggX3_waterAt_X3_has : GoodIn wsX3_waterAt wsX3_has := goodIn_r _ [7, 8, 12, 13, 14, 15, 16, 17] (by decide +kernel) (by decide +kernel)
set_option maxRecDepth 20000 in
theorem gX3_waterAt_X3_has : GoodIn wsX3_waterAt (wsV RX3 31 RX3 yX3_has wsX3_has) := goodIn_app (goodIn_of _ (by decide +kernel)) ggX3_waterAt_X3_has
set_option maxRecDepth 20000 in
theorem ggX3_waterAt_X5_waterOf : GoodIn wsX3_waterAt wsX5_waterOf := goodIn_r _ [11] (by decide +kernel) (by decide +kernel)
set_option maxRecDepth 20000 in
theorem gX3_waterAt_X5_waterOf_n35 : GoodIn wsX3_waterAt (wsX5_waterOf) := ggX3_waterAt_X5_waterOf
set_option maxRecDepth 20000 in
theorem ggX4_setLatest_X4_slotOf : GoodIn wsX4_setLatest wsX4_slotOf := goodIn_r _ [7, 1, 8, 9, 10] (by decide +kernel) (by decide +kernel)
set_option maxRecDepth 20000 in
theorem gX4_setLatest_X4_slotOf : GoodIn wsX4_setLatest (wsV RX4 23 RX4 yX4_slotOf wsX4_slotOf) := goodIn_app (goodIn_of _ (by decide +kernel)) ggX4_setLatest_X4_slotOf
set_option maxRecDepth 20000 in
theorem ggX4_echoAt_X4_slotOf : GoodIn wsX4_echoAt wsX4_slotOf := goodIn_r _ [6, 7, 8, 9, 10] (by decide +kernel) (by decide +kernel)
set_option maxRecDepth 20000 in
theorem gX4_echoAt_X4_slotOf : GoodIn wsX4_echoAt (wsV RX4 23 RX4 yX4_slotOf wsX4_slotOf) := goodIn_app (goodIn_of _ (by decide +kernel)) ggX4_echoAt_X4_slotOf
set_option maxRecDepth 20000 in
theorem ggX4_differenceBy_X4_echoAt : GoodIn wsX4_differenceBy wsX4_echoAt := goodIn_r _ [10, 11, 12, 13, 14, 9, 15, 1, 16, 17, 18] (by decide +kernel) (by decide +kernel)
set_option maxRecDepth 20000 in
theorem gX4_differenceBy_X4_echoAt : GoodIn wsX4_differenceBy (wsV RX4 27 RX4 yX4_echoAt wsX4_echoAt) := goodIn_app (goodIn_of _ (by decide +kernel)) ggX4_differenceBy_X4_echoAt
set_option maxRecDepth 20000 in
theorem ggX5_init_X0_init : GoodIn wsX5_init wsX0_init := goodIn_r _ [36, 37, 2, 3, 24, 38, 66] (by decide +kernel) (by decide +kernel)
set_option maxRecDepth 20000 in
theorem gX5_init_X0_init_n11 : GoodIn wsX5_init (wsX0_init) := ggX5_init_X0_init
set_option maxRecDepth 20000 in
theorem ggX5_init_X3_init : GoodIn wsX5_init wsX3_init := goodIn_r _ [40, 41, 2, 3, 24, 42, 43, 44, 45, 46, 47, 81, 82, 83, 84, 85, 86] (by decide +kernel) (by decide +kernel)
set_option maxRecDepth 20000 in
theorem gX5_init_X3_init_n18 : GoodIn wsX5_init (wsX3_init) := ggX5_init_X3_init
set_option maxRecDepth 20000 in
theorem ggX5_init_X2_init : GoodIn wsX5_init wsX2_init := goodIn_r _ [49, 50, 2, 3, 24, 51, 52, 87, 88] (by decide +kernel) (by decide +kernel)
set_option maxRecDepth 20000 in
theorem gX5_init_X2_init_n25 : GoodIn wsX5_init (wsX2_init) := ggX5_init_X2_init
set_option maxRecDepth 20000 in
theorem ggX5_init_X1_init : GoodIn wsX5_init wsX1_init := goodIn_r _ [54, 55, 2, 3, 56, 57, 58, 26, 59, 89, 90, 91] (by decide +kernel) (by decide +kernel)
set_option maxRecDepth 20000 in
theorem gX5_init_X1_init_n32 : GoodIn wsX5_init (wsX1_init) := ggX5_init_X1_init
set_option maxRecDepth 20000 in
theorem ggX5_init_X4_init : GoodIn wsX5_init wsX4_init := goodIn_r _ [61, 62, 2, 3, 26, 63, 24, 64, 65, 92, 93, 94] (by decide +kernel) (by decide +kernel)
set_option maxRecDepth 20000 in
theorem gX5_init_X4_init_n39 : GoodIn wsX5_init (wsX4_init) := ggX5_init_X4_init
set_option maxRecDepth 20000 in
theorem ggX5_drops_X5_requireKilometre : GoodIn wsX5_drops wsX5_requireKilometre := goodIn_ca (goodIn_r _ [10, 11, 12] (by decide +kernel) (by decide +kernel)) (goodIn_sub (fun _ h => List.mem_cons_of_mem _ (List.mem_append_left _ (List.mem_append_right _ h))) (by decide +kernel))
set_option maxRecDepth 20000 in
theorem gX5_drops_X5_requireKilometre : GoodIn wsX5_drops (va_wsS RX5 76 yX5_requireKilometre wsX5_requireKilometre) := goodIn_app (goodIn_of _ (by decide +kernel)) ggX5_drops_X5_requireKilometre
set_option maxRecDepth 20000 in
theorem ggX5_drops_X5_requireLayer : GoodIn wsX5_drops wsX5_requireLayer := goodIn_ca (goodIn_r _ [15, 11, 12] (by decide +kernel) (by decide +kernel)) (goodIn_sub (fun _ h => List.mem_cons_of_mem _ (List.mem_append_left _ (List.mem_append_right _ h))) (by decide +kernel))
set_option maxRecDepth 20000 in
theorem gX5_drops_X5_requireLayer : GoodIn wsX5_drops (va_wsS RX5 80 yX5_requireLayer wsX5_requireLayer) := goodIn_app (goodIn_of _ (by decide +kernel)) ggX5_drops_X5_requireLayer
set_option maxRecDepth 20000 in
theorem ggX5_drops_X5_requireRange : GoodIn wsX5_drops wsX5_requireRange := goodIn_ca (goodIn_r _ [18, 19, 20] (by decide +kernel) (by decide +kernel)) (goodIn_sub (fun _ h => List.mem_cons_of_mem _ (List.mem_append_right _ h)) (by decide +kernel))
set_option maxRecDepth 20000 in
theorem gX5_drops_X5_requireRange : GoodIn wsX5_drops (va_wsS RX5 83 yX5_requireRange wsX5_requireRange) := goodIn_app (goodIn_of _ (by decide +kernel)) ggX5_drops_X5_requireRange
set_option maxRecDepth 20000 in
theorem ggX5_drops_X0_add : GoodIn wsX5_drops wsX0_add := goodIn_r _ [25, 26, 27, 28, 24, 29, 68] (by decide +kernel) (by decide +kernel)
set_option maxRecDepth 20000 in
theorem gX5_drops_X0_add : GoodIn wsX5_drops (wsV RX5 97 RX0 yX0_add wsX0_add) := goodIn_app (goodIn_of _ (by decide +kernel)) ggX5_drops_X0_add
set_option maxRecDepth 20000 in
theorem ggX5_drops_X3_keep : GoodIn wsX5_drops wsX3_keep := goodIn_r _ [34, 35, 36, 37, 38, 39, 40, 62, 63, 64, 65, 66, 67] (by decide +kernel) (by decide +kernel)
set_option maxRecDepth 20000 in
theorem gX5_drops_X3_keep : GoodIn wsX5_drops (wsV RX5 101 RX3 yX3_keep wsX3_keep) := goodIn_app (goodIn_of _ (by decide +kernel)) ggX5_drops_X3_keep
set_option maxRecDepth 20000 in
theorem ggX5_drops_X5_waterOf : GoodIn wsX5_drops wsX5_waterOf := goodIn_r _ [43] (by decide +kernel) (by decide +kernel)
set_option maxRecDepth 20000 in
theorem gX5_drops_X5_waterOf : GoodIn wsX5_drops (va_wsS RX5 105 yX5_waterOf wsX5_waterOf) := goodIn_app (goodIn_of _ (by decide +kernel)) ggX5_drops_X5_waterOf
set_option maxRecDepth 20000 in
theorem ggX5_drops_X0_manyAt : GoodIn wsX5_drops wsX0_manyAt := goodIn_r _ [47, 26, 27, 28, 24, 29, 68] (by decide +kernel) (by decide +kernel)
set_option maxRecDepth 20000 in
theorem gX5_drops_X0_manyAt : GoodIn wsX5_drops (wsV RX5 109 RX0 yX0_manyAt wsX0_manyAt) := goodIn_app (goodIn_of _ (by decide +kernel)) ggX5_drops_X0_manyAt
set_option maxRecDepth 20000 in
theorem ggX5_melt_X5_requireLayer : GoodIn wsX5_melt wsX5_requireLayer := goodIn_ca (goodIn_r _ [5, 6, 7] (by decide +kernel) (by decide +kernel)) (goodIn_sub (fun _ h => List.mem_cons_of_mem _ (List.mem_append_right _ h)) (by decide +kernel))
set_option maxRecDepth 20000 in
theorem gX5_melt_X5_requireLayer : GoodIn wsX5_melt (va_wsS RX5 80 yX5_requireLayer wsX5_requireLayer) := goodIn_app (goodIn_of _ (by decide +kernel)) ggX5_melt_X5_requireLayer
set_option maxRecDepth 20000 in
theorem ggX5_hill_X5_requireKilometre : GoodIn wsX5_hill wsX5_requireKilometre := goodIn_ca (goodIn_r _ [5, 6, 7] (by decide +kernel) (by decide +kernel)) (goodIn_sub (fun _ h => List.mem_cons_of_mem _ (List.mem_append_left _ (List.mem_append_right _ h))) (by decide +kernel))
set_option maxRecDepth 20000 in
theorem gX5_hill_X5_requireKilometre : GoodIn wsX5_hill (va_wsS RX5 76 yX5_requireKilometre wsX5_requireKilometre) := goodIn_app (goodIn_of _ (by decide +kernel)) ggX5_hill_X5_requireKilometre
set_option maxRecDepth 20000 in
theorem ggX5_hill_X5_requireRange : GoodIn wsX5_hill wsX5_requireRange := goodIn_ca (goodIn_r _ [10, 11, 12] (by decide +kernel) (by decide +kernel)) (goodIn_sub (fun _ h => List.mem_cons_of_mem _ (List.mem_append_right _ h)) (by decide +kernel))
set_option maxRecDepth 20000 in
theorem gX5_hill_X5_requireRange : GoodIn wsX5_hill (va_wsS RX5 83 yX5_requireRange wsX5_requireRange) := goodIn_app (goodIn_of _ (by decide +kernel)) ggX5_hill_X5_requireRange
set_option maxRecDepth 20000 in
theorem ggX5_drift_X5_requireRange : GoodIn wsX5_drift wsX5_requireRange := goodIn_ca (goodIn_r _ [6, 7, 8] (by decide +kernel) (by decide +kernel)) (goodIn_sub (fun _ h => List.mem_cons_of_mem _ (List.mem_append_right _ h)) (by decide +kernel))
set_option maxRecDepth 20000 in
theorem gX5_drift_X5_requireRange : GoodIn wsX5_drift (va_wsS RX5 83 yX5_requireRange wsX5_requireRange) := goodIn_app (goodIn_of _ (by decide +kernel)) ggX5_drift_X5_requireRange
set_option maxRecDepth 20000 in
theorem ggX5_gauge_X5_requireKilometre : GoodIn wsX5_gauge wsX5_requireKilometre := goodIn_ca (goodIn_r _ [5, 6, 7] (by decide +kernel) (by decide +kernel)) (goodIn_sub (fun _ h => List.mem_cons_of_mem _ (List.mem_append_right _ h)) (by decide +kernel))
set_option maxRecDepth 20000 in
theorem gX5_gauge_X5_requireKilometre : GoodIn wsX5_gauge (va_wsS RX5 76 yX5_requireKilometre wsX5_requireKilometre) := goodIn_app (goodIn_of _ (by decide +kernel)) ggX5_gauge_X5_requireKilometre
set_option maxRecDepth 20000 in
theorem ggX5_gauge_X1_isUp : GoodIn wsX5_gauge wsX1_isUp := goodIn_r _ [12, 13, 14, 15, 11, 16, 37, 38, 39] (by decide +kernel) (by decide +kernel)
set_option maxRecDepth 20000 in
theorem gX5_gauge_X1_isUp : GoodIn wsX5_gauge (wsV RX5 113 RX1 yX1_isUp wsX1_isUp) := goodIn_app (goodIn_of _ (by decide +kernel)) ggX5_gauge_X1_isUp
set_option maxRecDepth 20000 in
theorem ggX5_gauge_X1_change : GoodIn wsX5_gauge wsX1_change := goodIn_r _ [20, 13, 21, 22, 14, 15, 11, 16, 37, 38, 39] (by decide +kernel) (by decide +kernel)
set_option maxRecDepth 20000 in
theorem gX5_gauge_X1_change : GoodIn wsX5_gauge (wsV RX5 117 RX1 yX1_change wsX1_change) := goodIn_app (goodIn_of _ (by decide +kernel)) ggX5_gauge_X1_change
set_option maxRecDepth 20000 in
theorem ggX5_clog_X5_requireKilometre : GoodIn wsX5_clog wsX5_requireKilometre := goodIn_ca (goodIn_r _ [5, 6, 7] (by decide +kernel) (by decide +kernel)) (goodIn_sub (fun _ h => List.mem_cons_of_mem _ (List.mem_append_right _ h)) (by decide +kernel))
set_option maxRecDepth 20000 in
theorem gX5_clog_X5_requireKilometre : GoodIn wsX5_clog (va_wsS RX5 76 yX5_requireKilometre wsX5_requireKilometre) := goodIn_app (goodIn_of _ (by decide +kernel)) ggX5_clog_X5_requireKilometre
set_option maxRecDepth 20000 in
theorem ggX5_clog_X5_requireGauge : GoodIn wsX5_clog wsX5_requireGauge := goodIn_ca (goodIn_r _ [11, 6, 7, 1, 12, 13, 14, 15, 16, 17, 18, 19, 20, 30, 31, 32, 33, 34, 35, 36, 37, 38, 39, 40, 41, 42, 43, 44, 45, 46] (by decide +kernel) (by decide +kernel)) (goodIn_sub (fun _ h => List.mem_cons_of_mem _ (List.mem_append_right _ h)) (by decide +kernel))
set_option maxRecDepth 20000 in
theorem gX5_clog_X5_requireGauge : GoodIn wsX5_clog (wsV RX5 121 RX5 yX5_requireGauge wsX5_requireGauge) := goodIn_app (goodIn_of _ (by decide +kernel)) ggX5_clog_X5_requireGauge
set_option maxRecDepth 20000 in
theorem ggX5_clog_X1_isClogged : GoodIn wsX5_clog wsX1_isClogged := goodIn_r _ [24, 25, 18, 19, 15, 20, 44, 45, 46] (by decide +kernel) (by decide +kernel)
set_option maxRecDepth 20000 in
theorem gX5_clog_X1_isClogged : GoodIn wsX5_clog (wsV RX5 124 RX1 yX1_isClogged wsX1_isClogged) := goodIn_app (goodIn_of _ (by decide +kernel)) ggX5_clog_X1_isClogged
set_option maxRecDepth 20000 in
theorem ggX5_clog_X1_setClogged : GoodIn wsX5_clog wsX1_setClogged := goodIn_r _ [29, 25, 18, 19, 15, 20, 44, 45, 46] (by decide +kernel) (by decide +kernel)
set_option maxRecDepth 20000 in
theorem gX5_clog_X1_setClogged : GoodIn wsX5_clog (wsV RX5 127 RX1 yX1_setClogged wsX1_setClogged) := goodIn_app (goodIn_of _ (by decide +kernel)) ggX5_clog_X1_setClogged
set_option maxRecDepth 20000 in
theorem ggX5_pass_X5_requireRange : GoodIn wsX5_pass wsX5_requireRange := goodIn_ca (goodIn_r _ [7, 8, 9] (by decide +kernel) (by decide +kernel)) (goodIn_sub (fun _ h => List.mem_cons_of_mem _ (List.mem_append_right _ h)) (by decide +kernel))
set_option maxRecDepth 20000 in
theorem gX5_pass_X5_requireRange : GoodIn wsX5_pass (va_wsS RX5 83 yX5_requireRange wsX5_requireRange) := goodIn_app (goodIn_of _ (by decide +kernel)) ggX5_pass_X5_requireRange
set_option maxRecDepth 20000 in
theorem ggX5_pass_X5_passOne : GoodIn wsX5_pass wsX5_passOne := goodIn_r _ [13, 3, 14, 15, 16, 17, 18, 19, 20, 21, 22, 6, 23, 24, 25, 26, 27, 28, 29, 30, 31, 32, 33, 34, 35, 36, 37, 38, 39, 40, 41, 42, 43, 44, 45, 46, 47, 48, 49, 50, 51, 52, 53, 54, 55, 56, 57, 58, 59, 60, 61, 62, 63, 64, 65, 66, 67, 68, 69, 70, 71, 72, 73, 74, 75, 76, 77, 78, 79, 80, 81, 82, 83, 84, 85, 86, 87, 88, 89, 90, 91, 92, 93, 94, 95, 96, 97, 98, 99, 100, 101, 102, 103, 104, 105, 106, 107] (by decide +kernel) (by decide +kernel)
set_option maxRecDepth 20000 in
theorem gX5_pass_X5_passOne : GoodIn wsX5_pass (wsV RX5 132 RX5 yX5_passOne wsX5_passOne) := goodIn_app (goodIn_of _ (by decide +kernel)) ggX5_pass_X5_passOne
set_option maxRecDepth 20000 in
theorem ggX5_scan_X5_requireRange : GoodIn wsX5_scan wsX5_requireRange := goodIn_ca (goodIn_r _ [8, 9, 10] (by decide +kernel) (by decide +kernel)) (goodIn_sub (fun _ h => List.mem_cons_of_mem _ (List.mem_append_right _ h)) (by decide +kernel))
set_option maxRecDepth 20000 in
theorem gX5_scan_X5_requireRange : GoodIn wsX5_scan (va_wsS RX5 83 yX5_requireRange wsX5_requireRange) := goodIn_app (goodIn_of _ (by decide +kernel)) ggX5_scan_X5_requireRange
set_option maxRecDepth 20000 in
theorem ggX5_scan_X5_reachOf : GoodIn wsX5_scan wsX5_reachOf := goodIn_r _ [14, 15, 16, 17, 7, 18, 59, 60, 61, 62, 63, 64, 65, 66, 67, 68, 69, 70, 71, 72] (by decide +kernel) (by decide +kernel)
set_option maxRecDepth 20000 in
theorem gX5_scan_X5_reachOf : GoodIn wsX5_scan (wsV RX5 138 RX5 yX5_reachOf wsX5_reachOf) := goodIn_app (goodIn_of _ (by decide +kernel)) ggX5_scan_X5_reachOf
set_option maxRecDepth 20000 in
theorem ggX5_scan_X4_begin : GoodIn wsX5_scan wsX4_begin := goodIn_r _ [23, 24, 25, 73, 74, 75] (by decide +kernel) (by decide +kernel)
set_option maxRecDepth 20000 in
theorem gX5_scan_X4_begin : GoodIn wsX5_scan (wsV RX5 142 RX4 yX4_begin wsX4_begin) := goodIn_app (goodIn_of _ (by decide +kernel)) ggX5_scan_X4_begin
set_option maxRecDepth 20000 in
theorem ggX5_scan_X5_echoInBeam : GoodIn wsX5_scan wsX5_echoInBeam := goodIn_r _ [29, 30, 31, 32, 33, 16, 17, 7, 18, 34, 35, 36, 37, 38, 39, 40, 41, 42, 43, 44, 45, 46, 47, 48, 49, 59, 60, 61, 62, 63, 64, 65, 66, 67, 68, 69, 70, 71, 72, 76] (by decide +kernel) (by decide +kernel)
set_option maxRecDepth 20000 in
theorem gX5_scan_X5_echoInBeam : GoodIn wsX5_scan (wsV RX5 145 RX5 yX5_echoInBeam wsX5_echoInBeam) := goodIn_app (goodIn_of _ (by decide +kernel)) ggX5_scan_X5_echoInBeam
set_option maxRecDepth 20000 in
theorem ggX5_scan_X4_setLatest : GoodIn wsX5_scan wsX4_setLatest := goodIn_r _ [53, 24, 54, 55, 56, 57, 22, 58, 73, 74, 75] (by decide +kernel) (by decide +kernel)
set_option maxRecDepth 20000 in
theorem gX5_scan_X4_setLatest : GoodIn wsX5_scan (wsV RX5 148 RX4 yX4_setLatest wsX4_setLatest) := goodIn_app (goodIn_of _ (by decide +kernel)) ggX5_scan_X4_setLatest
set_option maxRecDepth 20000 in
theorem ggX5_rule_X5_requireRange : GoodIn wsX5_rule wsX5_requireRange := goodIn_ca (goodIn_r _ [5, 6, 7] (by decide +kernel) (by decide +kernel)) (goodIn_sub (fun _ h => List.mem_cons_of_mem _ (List.mem_append_right _ h)) (by decide +kernel))
set_option maxRecDepth 20000 in
theorem gX5_rule_X5_requireRange : GoodIn wsX5_rule (va_wsS RX5 83 yX5_requireRange wsX5_requireRange) := goodIn_app (goodIn_of _ (by decide +kernel)) ggX5_rule_X5_requireRange
set_option maxRecDepth 20000 in
theorem ggX5_count_X5_requireKilometre : GoodIn wsX5_count wsX5_requireKilometre := goodIn_ca (goodIn_r _ [5, 6, 7] (by decide +kernel) (by decide +kernel)) (goodIn_sub (fun _ h => List.mem_cons_of_mem _ (List.mem_append_left _ (List.mem_append_right _ h))) (by decide +kernel))
set_option maxRecDepth 20000 in
theorem gX5_count_X5_requireKilometre : GoodIn wsX5_count (va_wsS RX5 76 yX5_requireKilometre wsX5_requireKilometre) := goodIn_app (goodIn_of _ (by decide +kernel)) ggX5_count_X5_requireKilometre
set_option maxRecDepth 20000 in
theorem ggX5_count_X5_requireLayer : GoodIn wsX5_count wsX5_requireLayer := goodIn_ca (goodIn_r _ [10, 6, 7] (by decide +kernel) (by decide +kernel)) (goodIn_sub (fun _ h => List.mem_cons_of_mem _ (List.mem_append_left _ (List.mem_append_right _ h))) (by decide +kernel))
set_option maxRecDepth 20000 in
theorem gX5_count_X5_requireLayer : GoodIn wsX5_count (va_wsS RX5 80 yX5_requireLayer wsX5_requireLayer) := goodIn_app (goodIn_of _ (by decide +kernel)) ggX5_count_X5_requireLayer
set_option maxRecDepth 20000 in
theorem ggX5_count_X5_requireRange : GoodIn wsX5_count wsX5_requireRange := goodIn_ca (goodIn_r _ [13, 14, 15] (by decide +kernel) (by decide +kernel)) (goodIn_sub (fun _ h => List.mem_cons_of_mem _ (List.mem_append_right _ h)) (by decide +kernel))
set_option maxRecDepth 20000 in
theorem gX5_count_X5_requireRange : GoodIn wsX5_count (va_wsS RX5 83 yX5_requireRange wsX5_requireRange) := goodIn_app (goodIn_of _ (by decide +kernel)) ggX5_count_X5_requireRange
set_option maxRecDepth 20000 in
theorem ggX5_count_X0_manyAt : GoodIn wsX5_count wsX0_manyAt := goodIn_r _ [20, 21, 22, 23, 19, 24, 39] (by decide +kernel) (by decide +kernel)
set_option maxRecDepth 20000 in
theorem gX5_count_X0_manyAt : GoodIn wsX5_count (wsV RX5 109 RX0 yX0_manyAt wsX0_manyAt) := goodIn_app (goodIn_of _ (by decide +kernel)) ggX5_count_X0_manyAt
set_option maxRecDepth 20000 in
theorem ggX5_phase_X5_requireLayer : GoodIn wsX5_phase wsX5_requireLayer := goodIn_ca (goodIn_r _ [5, 6, 7] (by decide +kernel) (by decide +kernel)) (goodIn_sub (fun _ h => List.mem_cons_of_mem _ (List.mem_append_right _ h)) (by decide +kernel))
set_option maxRecDepth 20000 in
theorem gX5_phase_X5_requireLayer : GoodIn wsX5_phase (va_wsS RX5 80 yX5_requireLayer wsX5_requireLayer) := goodIn_app (goodIn_of _ (by decide +kernel)) ggX5_phase_X5_requireLayer
set_option maxRecDepth 20000 in
theorem ggX5_phase_X5_phaseIn : GoodIn wsX5_phase wsX5_phaseIn := goodIn_r _ [10] (by decide +kernel) (by decide +kernel)
set_option maxRecDepth 20000 in
theorem gX5_phase_X5_phaseIn : GoodIn wsX5_phase (va_wsS RX5 152 yX5_phaseIn wsX5_phaseIn) := goodIn_app (goodIn_of _ (by decide +kernel)) ggX5_phase_X5_phaseIn
set_option maxRecDepth 20000 in
theorem ggX5_echo_X5_requireKilometre : GoodIn wsX5_echo wsX5_requireKilometre := goodIn_ca (goodIn_r _ [5, 6, 7] (by decide +kernel) (by decide +kernel)) (goodIn_sub (fun _ h => List.mem_cons_of_mem _ (List.mem_append_left _ (List.mem_append_right _ h))) (by decide +kernel))
set_option maxRecDepth 20000 in
theorem gX5_echo_X5_requireKilometre : GoodIn wsX5_echo (va_wsS RX5 76 yX5_requireKilometre wsX5_requireKilometre) := goodIn_app (goodIn_of _ (by decide +kernel)) ggX5_echo_X5_requireKilometre
set_option maxRecDepth 20000 in
theorem ggX5_echo_X5_requireRange : GoodIn wsX5_echo wsX5_requireRange := goodIn_ca (goodIn_r _ [10, 11, 12] (by decide +kernel) (by decide +kernel)) (goodIn_sub (fun _ h => List.mem_cons_of_mem _ (List.mem_append_right _ h)) (by decide +kernel))
set_option maxRecDepth 20000 in
theorem gX5_echo_X5_requireRange : GoodIn wsX5_echo (va_wsS RX5 83 yX5_requireRange wsX5_requireRange) := goodIn_app (goodIn_of _ (by decide +kernel)) ggX5_echo_X5_requireRange
set_option maxRecDepth 20000 in
theorem ggX5_echo_X5_reachOf : GoodIn wsX5_echo wsX5_reachOf := goodIn_r _ [16, 17, 18, 19, 4, 20, 45, 46, 47, 48, 49, 50, 51, 52, 53, 54, 55, 56, 57, 58] (by decide +kernel) (by decide +kernel)
set_option maxRecDepth 20000 in
theorem gX5_echo_X5_reachOf : GoodIn wsX5_echo (wsV RX5 138 RX5 yX5_reachOf wsX5_reachOf) := goodIn_app (goodIn_of _ (by decide +kernel)) ggX5_echo_X5_reachOf
set_option maxRecDepth 20000 in
theorem ggX5_echo_X5_echoInBeam : GoodIn wsX5_echo wsX5_echoInBeam := goodIn_r _ [24, 25, 26, 27, 28, 18, 19, 4, 20, 29, 30, 31, 32, 33, 34, 35, 36, 37, 38, 39, 40, 41, 42, 43, 44, 45, 46, 47, 48, 49, 50, 51, 52, 53, 54, 55, 56, 57, 58, 59] (by decide +kernel) (by decide +kernel)
set_option maxRecDepth 20000 in
theorem gX5_echo_X5_echoInBeam : GoodIn wsX5_echo (wsV RX5 145 RX5 yX5_echoInBeam wsX5_echoInBeam) := goodIn_app (goodIn_of _ (by decide +kernel)) ggX5_echo_X5_echoInBeam
set_option maxRecDepth 20000 in
theorem ggX5_seen_X5_requireKilometre : GoodIn wsX5_seen wsX5_requireKilometre := goodIn_ca (goodIn_r _ [5, 6, 7] (by decide +kernel) (by decide +kernel)) (goodIn_sub (fun _ h => List.mem_cons_of_mem _ (List.mem_append_left _ (List.mem_append_right _ h))) (by decide +kernel))
set_option maxRecDepth 20000 in
theorem gX5_seen_X5_requireKilometre : GoodIn wsX5_seen (va_wsS RX5 76 yX5_requireKilometre wsX5_requireKilometre) := goodIn_app (goodIn_of _ (by decide +kernel)) ggX5_seen_X5_requireKilometre
set_option maxRecDepth 20000 in
theorem ggX5_seen_X5_requireRange : GoodIn wsX5_seen wsX5_requireRange := goodIn_ca (goodIn_r _ [10, 11, 12] (by decide +kernel) (by decide +kernel)) (goodIn_sub (fun _ h => List.mem_cons_of_mem _ (List.mem_append_right _ h)) (by decide +kernel))
set_option maxRecDepth 20000 in
theorem gX5_seen_X5_requireRange : GoodIn wsX5_seen (va_wsS RX5 83 yX5_requireRange wsX5_requireRange) := goodIn_app (goodIn_of _ (by decide +kernel)) ggX5_seen_X5_requireRange
set_option maxRecDepth 20000 in
theorem ggX5_seen_X5_reachOf : GoodIn wsX5_seen wsX5_reachOf := goodIn_r _ [16, 17, 18, 19, 4, 20, 60, 61, 62, 63, 64, 65, 66, 67, 68, 69, 70, 71, 72, 73] (by decide +kernel) (by decide +kernel)
set_option maxRecDepth 20000 in
theorem gX5_seen_X5_reachOf : GoodIn wsX5_seen (wsV RX5 138 RX5 yX5_reachOf wsX5_reachOf) := goodIn_app (goodIn_of _ (by decide +kernel)) ggX5_seen_X5_reachOf
set_option maxRecDepth 20000 in
theorem ggX5_seen_X5_weakenedEcho : GoodIn wsX5_seen wsX5_weakenedEcho := goodIn_r _ [24, 25, 26, 27, 28, 29, 30, 31, 4, 32, 33, 34, 35, 36, 18, 19, 20, 37, 38, 39, 40, 41, 42, 43, 44, 45, 46, 47, 48, 49, 50, 51, 52, 60, 61, 62, 63, 64, 65, 66, 67, 68, 69, 70, 71, 72, 73, 74] (by decide +kernel) (by decide +kernel)
set_option maxRecDepth 20000 in
theorem gX5_seen_X5_weakenedEcho : GoodIn wsX5_seen (wsV RX5 158 RX5 yX5_weakenedEcho wsX5_weakenedEcho) := goodIn_app (goodIn_of _ (by decide +kernel)) ggX5_seen_X5_weakenedEcho
set_option maxRecDepth 20000 in
theorem ggX5_seen_X5_bitsOf : GoodIn wsX5_seen wsX5_bitsOf := goodIn_r _ [55, 56, 57, 58, 59] (by decide +kernel) (by decide +kernel)
set_option maxRecDepth 20000 in
theorem gX5_seen_X5_bitsOf : GoodIn wsX5_seen (va_wsS RX5 162 yX5_bitsOf wsX5_bitsOf) := goodIn_app (goodIn_of _ (by decide +kernel)) ggX5_seen_X5_bitsOf
set_option maxRecDepth 20000 in
theorem ggX5_rain_X5_requireKilometre : GoodIn wsX5_rain wsX5_requireKilometre := goodIn_ca (goodIn_r _ [5, 6, 7] (by decide +kernel) (by decide +kernel)) (goodIn_sub (fun _ h => List.mem_cons_of_mem _ (List.mem_append_right _ h)) (by decide +kernel))
set_option maxRecDepth 20000 in
theorem gX5_rain_X5_requireKilometre : GoodIn wsX5_rain (va_wsS RX5 76 yX5_requireKilometre wsX5_requireKilometre) := goodIn_app (goodIn_of _ (by decide +kernel)) ggX5_rain_X5_requireKilometre
set_option maxRecDepth 20000 in
theorem ggX5_rain_X4_echoAt : GoodIn wsX5_rain wsX4_echoAt := goodIn_r _ [12, 13, 14, 15, 16, 11, 17, 18, 41, 42, 43] (by decide +kernel) (by decide +kernel)
set_option maxRecDepth 20000 in
theorem gX5_rain_X4_echoAt : GoodIn wsX5_rain (wsV RX5 166 RX4 yX4_echoAt wsX4_echoAt) := goodIn_app (goodIn_of _ (by decide +kernel)) ggX5_rain_X4_echoAt
set_option maxRecDepth 20000 in
theorem ggX5_rain_X4_ruleAt : GoodIn wsX5_rain wsX4_ruleAt := goodIn_r _ [22, 18, 23, 41, 42, 43] (by decide +kernel) (by decide +kernel)
set_option maxRecDepth 20000 in
theorem gX5_rain_X4_ruleAt : GoodIn wsX5_rain (wsV RX5 169 RX4 yX4_ruleAt wsX4_ruleAt) := goodIn_app (goodIn_of _ (by decide +kernel)) ggX5_rain_X4_ruleAt
set_option maxRecDepth 20000 in
theorem ggX5_rain_X5_rainOf : GoodIn wsX5_rain wsX5_rainOf := goodIn_r _ [26] (by decide +kernel) (by decide +kernel)
set_option maxRecDepth 20000 in
theorem gX5_rain_X5_rainOf : GoodIn wsX5_rain (va_wsS RX5 172 yX5_rainOf wsX5_rainOf) := goodIn_app (goodIn_of _ (by decide +kernel)) ggX5_rain_X5_rainOf
set_option maxRecDepth 20000 in
theorem ggX5_rainBy_X5_requireKilometre : GoodIn wsX5_rainBy wsX5_requireKilometre := goodIn_ca (goodIn_r _ [5, 6, 7] (by decide +kernel) (by decide +kernel)) (goodIn_sub (fun _ h => List.mem_cons_of_mem _ (List.mem_append_left _ (List.mem_append_right _ h))) (by decide +kernel))
set_option maxRecDepth 20000 in
theorem gX5_rainBy_X5_requireKilometre : GoodIn wsX5_rainBy (va_wsS RX5 76 yX5_requireKilometre wsX5_requireKilometre) := goodIn_app (goodIn_of _ (by decide +kernel)) ggX5_rainBy_X5_requireKilometre
set_option maxRecDepth 20000 in
theorem ggX5_rainBy_X5_requireRange : GoodIn wsX5_rainBy wsX5_requireRange := goodIn_ca (goodIn_r _ [10, 11, 12] (by decide +kernel) (by decide +kernel)) (goodIn_sub (fun _ h => List.mem_cons_of_mem _ (List.mem_append_right _ h)) (by decide +kernel))
set_option maxRecDepth 20000 in
theorem gX5_rainBy_X5_requireRange : GoodIn wsX5_rainBy (va_wsS RX5 83 yX5_requireRange wsX5_requireRange) := goodIn_app (goodIn_of _ (by decide +kernel)) ggX5_rainBy_X5_requireRange
set_option maxRecDepth 20000 in
theorem ggX5_rainBy_X4_echoAt : GoodIn wsX5_rainBy wsX4_echoAt := goodIn_r _ [17, 18, 19, 20, 21, 16, 22, 23, 41, 42, 43] (by decide +kernel) (by decide +kernel)
set_option maxRecDepth 20000 in
theorem gX5_rainBy_X4_echoAt : GoodIn wsX5_rainBy (wsV RX5 166 RX4 yX4_echoAt wsX4_echoAt) := goodIn_app (goodIn_of _ (by decide +kernel)) ggX5_rainBy_X4_echoAt
set_option maxRecDepth 20000 in
theorem ggX5_rainBy_X5_rainOf : GoodIn wsX5_rainBy wsX5_rainOf := goodIn_r _ [26] (by decide +kernel) (by decide +kernel)
set_option maxRecDepth 20000 in
theorem gX5_rainBy_X5_rainOf : GoodIn wsX5_rainBy (va_wsS RX5 172 yX5_rainOf wsX5_rainOf) := goodIn_app (goodIn_of _ (by decide +kernel)) ggX5_rainBy_X5_rainOf
set_option maxRecDepth 20000 in
theorem ggX5_motion_X4_differenceBy : GoodIn wsX5_motion wsX4_differenceBy := goodIn_r _ [8, 9, 10, 11, 12, 13, 14, 15, 16, 7, 17, 18, 19, 20, 21, 22, 37, 38, 39] (by decide +kernel) (by decide +kernel)
set_option maxRecDepth 20000 in
theorem gX5_motion_X4_differenceBy : GoodIn wsX5_motion (wsV RX5 178 RX4 yX4_differenceBy wsX4_differenceBy) := goodIn_app (goodIn_of _ (by decide +kernel)) ggX5_motion_X4_differenceBy
set_option maxRecDepth 20000 in
theorem ggX5_collected_X5_requireKilometre : GoodIn wsX5_collected wsX5_requireKilometre := goodIn_ca (goodIn_r _ [5, 6, 7] (by decide +kernel) (by decide +kernel)) (goodIn_sub (fun _ h => List.mem_cons_of_mem _ (List.mem_append_right _ h)) (by decide +kernel))
set_option maxRecDepth 20000 in
theorem gX5_collected_X5_requireKilometre : GoodIn wsX5_collected (va_wsS RX5 76 yX5_requireKilometre wsX5_requireKilometre) := goodIn_app (goodIn_of _ (by decide +kernel)) ggX5_collected_X5_requireKilometre
set_option maxRecDepth 20000 in
theorem ggX5_collected_X5_requireGauge : GoodIn wsX5_collected wsX5_requireGauge := goodIn_ca (goodIn_r _ [11, 6, 7, 1, 12, 13, 14, 15, 16, 17, 18, 19, 20, 26, 27, 28, 29, 30, 31, 32, 33, 34, 35, 36, 37, 38, 39, 40, 41, 42] (by decide +kernel) (by decide +kernel)) (goodIn_sub (fun _ h => List.mem_cons_of_mem _ (List.mem_append_right _ h)) (by decide +kernel))
set_option maxRecDepth 20000 in
theorem gX5_collected_X5_requireGauge : GoodIn wsX5_collected (wsV RX5 121 RX5 yX5_requireGauge wsX5_requireGauge) := goodIn_app (goodIn_of _ (by decide +kernel)) ggX5_collected_X5_requireGauge
set_option maxRecDepth 20000 in
theorem ggX5_collected_X1_contentOf : GoodIn wsX5_collected wsX1_contentOf := goodIn_r _ [24, 25, 18, 19, 15, 20, 40, 41, 42] (by decide +kernel) (by decide +kernel)
set_option maxRecDepth 20000 in
theorem gX5_collected_X1_contentOf : GoodIn wsX5_collected (wsV RX5 182 RX1 yX1_contentOf wsX1_contentOf) := goodIn_app (goodIn_of _ (by decide +kernel)) ggX5_collected_X1_contentOf
set_option maxRecDepth 20000 in
theorem ggX5_ground_X5_requireKilometre : GoodIn wsX5_ground wsX5_requireKilometre := goodIn_ca (goodIn_r _ [5, 6, 7] (by decide +kernel) (by decide +kernel)) (goodIn_sub (fun _ h => List.mem_cons_of_mem _ (List.mem_append_right _ h)) (by decide +kernel))
set_option maxRecDepth 20000 in
theorem gX5_ground_X5_requireKilometre : GoodIn wsX5_ground (va_wsS RX5 76 yX5_requireKilometre wsX5_requireKilometre) := goodIn_app (goodIn_of _ (by decide +kernel)) ggX5_ground_X5_requireKilometre
set_option maxRecDepth 20000 in
theorem ggX5_groundAnew_X5_requireKilometre : GoodIn wsX5_groundAnew wsX5_requireKilometre := goodIn_ca (goodIn_r _ [5, 6, 7] (by decide +kernel) (by decide +kernel)) (goodIn_sub (fun _ h => List.mem_cons_of_mem _ (List.mem_append_right _ h)) (by decide +kernel))
set_option maxRecDepth 20000 in
theorem gX5_groundAnew_X5_requireKilometre : GoodIn wsX5_groundAnew (va_wsS RX5 76 yX5_requireKilometre wsX5_requireKilometre) := goodIn_app (goodIn_of _ (by decide +kernel)) ggX5_groundAnew_X5_requireKilometre
set_option maxRecDepth 20000 in
theorem ggX5_groundAnew_X5_landingOf : GoodIn wsX5_groundAnew wsX5_landingOf := goodIn_r _ [11, 1, 12, 13, 14, 15, 16, 17, 18, 19, 20, 21, 22, 23, 24, 25, 26, 27, 28, 29, 30, 31, 32, 33, 34, 35, 36, 37, 38, 39, 40, 41, 42, 43, 44, 45, 46, 47, 48, 49, 50, 4, 51, 52, 53, 54, 55, 56, 57, 58, 59, 67, 68, 69, 70, 71, 72, 73, 74, 75, 76, 77, 78, 79, 80, 81, 82, 83, 84, 85, 86, 87, 88] (by decide +kernel) (by decide +kernel)
set_option maxRecDepth 20000 in
theorem gX5_groundAnew_X5_landingOf : GoodIn wsX5_groundAnew (wsV RX5 185 RX5 yX5_landingOf wsX5_landingOf) := goodIn_app (goodIn_of _ (by decide +kernel)) ggX5_groundAnew_X5_landingOf
set_option maxRecDepth 20000 in
theorem ggX5_groundAnew_X3_waterAt : GoodIn wsX5_groundAnew wsX3_waterAt := goodIn_r _ [63, 34, 64, 20, 21, 22, 17, 23, 24, 65, 4, 66, 81, 82, 83, 84, 85, 86] (by decide +kernel) (by decide +kernel)
set_option maxRecDepth 20000 in
theorem gX5_groundAnew_X3_waterAt : GoodIn wsX5_groundAnew (wsV RX5 188 RX3 yX3_waterAt wsX3_waterAt) := goodIn_app (goodIn_of _ (by decide +kernel)) ggX5_groundAnew_X3_waterAt
set_option maxRecDepth 20000 in
theorem ggX5_water_X5_requireRange : GoodIn wsX5_water wsX5_requireRange := goodIn_ca (goodIn_r _ [7, 8, 9] (by decide +kernel) (by decide +kernel)) (goodIn_sub (fun _ h => List.mem_cons_of_mem _ (List.mem_append_right _ h)) (by decide +kernel))
set_option maxRecDepth 20000 in
theorem gX5_water_X5_requireRange : GoodIn wsX5_water (va_wsS RX5 83 yX5_requireRange wsX5_requireRange) := goodIn_app (goodIn_of _ (by decide +kernel)) ggX5_water_X5_requireRange
set_option maxRecDepth 20000 in
theorem ggX5_water_X0_allWater : GoodIn wsX5_water wsX0_allWater := goodIn_r _ [14, 15, 16, 17, 13, 18, 19, 20, 21, 22, 23, 6, 24, 44] (by decide +kernel) (by decide +kernel)
set_option maxRecDepth 20000 in
theorem gX5_water_X0_allWater : GoodIn wsX5_water (wsV RX5 191 RX0 yX0_allWater wsX0_allWater) := goodIn_app (goodIn_of _ (by decide +kernel)) ggX5_water_X0_allWater
set_option maxRecDepth 20000 in
theorem ggX5_water_X5_waterOnGround : GoodIn wsX5_water wsX5_waterOnGround := goodIn_r _ [28, 29, 30, 31, 32, 33, 34, 35, 36, 37, 38, 39, 40, 41, 42, 43] (by decide +kernel) (by decide +kernel)
set_option maxRecDepth 20000 in
theorem gX5_water_X5_waterOnGround : GoodIn wsX5_water (wsV RX5 195 RX5 yX5_waterOnGround wsX5_waterOnGround) := goodIn_app (goodIn_of _ (by decide +kernel)) ggX5_water_X5_waterOnGround
set_option maxRecDepth 20000 in
theorem ggX5_requireGauge_X1_isUp : GoodIn wsX5_requireGauge wsX1_isUp := goodIn_r _ [8, 9, 10, 11, 7, 12, 27, 28, 29] (by decide +kernel) (by decide +kernel)
set_option maxRecDepth 20000 in
theorem gX5_requireGauge_X1_isUp : GoodIn wsX5_requireGauge (wsV RX5 113 RX1 yX1_isUp wsX1_isUp) := goodIn_app (goodIn_of _ (by decide +kernel)) ggX5_requireGauge_X1_isUp
set_option maxRecDepth 20000 in
theorem ggX5_fallOf_X5_phaseIn : GoodIn wsX5_fallOf wsX5_phaseIn := goodIn_r _ [4] (by decide +kernel) (by decide +kernel)
set_option maxRecDepth 20000 in
theorem gX5_fallOf_X5_phaseIn : GoodIn wsX5_fallOf (va_wsS RX5 152 yX5_phaseIn wsX5_phaseIn) := goodIn_app (goodIn_of _ (by decide +kernel)) ggX5_fallOf_X5_phaseIn
set_option maxRecDepth 20000 in
theorem ggX5_passOne_X5_stepOf : GoodIn wsX5_passOne wsX5_stepOf := goodIn_r _ [12, 13, 14, 77, 78, 79, 80, 81, 82, 83, 84, 85, 86, 87, 88, 89, 90] (by decide +kernel) (by decide +kernel)
set_option maxRecDepth 20000 in
theorem gX5_passOne_X5_stepOf : GoodIn wsX5_passOne (wsV RX5 212 RX5 yX5_stepOf wsX5_stepOf) := goodIn_app (goodIn_of _ (by decide +kernel)) ggX5_passOne_X5_stepOf
set_option maxRecDepth 20000 in
theorem ggX5_passOne_X2_keep : GoodIn wsX5_passOne wsX2_keep := goodIn_r _ [19, 20, 21, 22, 23, 18, 24, 91, 92] (by decide +kernel) (by decide +kernel)
set_option maxRecDepth 20000 in
theorem gX5_passOne_X2_keep : GoodIn wsX5_passOne (wsV RX5 215 RX2 yX2_keep wsX2_keep) := goodIn_app (goodIn_of _ (by decide +kernel)) ggX5_passOne_X2_keep
set_option maxRecDepth 20000 in
theorem ggX5_passOne_X0_letFall : GoodIn wsX5_passOne wsX0_letFall := goodIn_r _ [29, 30, 31, 32, 28, 33, 34, 35, 36, 37, 38, 11, 39, 40, 41, 42, 43, 44, 45, 46, 47, 48, 93] (by decide +kernel) (by decide +kernel)
set_option maxRecDepth 20000 in
theorem gX5_passOne_X0_letFall : GoodIn wsX5_passOne (wsV RX5 217 RX0 yX0_letFall wsX0_letFall) := goodIn_app (goodIn_of _ (by decide +kernel)) ggX5_passOne_X0_letFall
set_option maxRecDepth 20000 in
theorem ggX5_passOne_X1_collect : GoodIn wsX5_passOne wsX1_collect := goodIn_r _ [53, 54, 55, 56, 57, 58, 52, 59, 60, 61, 62, 63, 64, 65, 66, 67, 68, 94, 95, 96] (by decide +kernel) (by decide +kernel)
set_option maxRecDepth 20000 in
theorem gX5_passOne_X1_collect : GoodIn wsX5_passOne (wsV RX5 220 RX1 yX1_collect wsX1_collect) := goodIn_app (goodIn_of _ (by decide +kernel)) ggX5_passOne_X1_collect
set_option maxRecDepth 20000 in
theorem ggX5_passOne_X0_moveAll : GoodIn wsX5_passOne wsX0_moveAll := goodIn_r _ [72, 73, 74, 75, 28, 76, 30, 31, 32, 33, 34, 35, 36, 37, 43, 11, 44, 45, 46, 47, 48, 93] (by decide +kernel) (by decide +kernel)
set_option maxRecDepth 20000 in
theorem gX5_passOne_X0_moveAll : GoodIn wsX5_passOne (wsV RX5 223 RX0 yX0_moveAll wsX0_moveAll) := goodIn_app (goodIn_of _ (by decide +kernel)) ggX5_passOne_X0_moveAll
set_option maxRecDepth 20000 in
theorem ggX5_landingOf_X3_kilometreAt : GoodIn wsX5_landingOf wsX3_kilometreAt := goodIn_r _ [8, 9, 10, 11, 12, 7, 13, 14, 65, 66, 67, 68, 69, 70] (by decide +kernel) (by decide +kernel)
set_option maxRecDepth 20000 in
theorem gX5_landingOf_X3_kilometreAt : GoodIn wsX5_landingOf (wsV RX5 226 RX3 yX3_kilometreAt wsX3_kilometreAt) := goodIn_app (goodIn_of _ (by decide +kernel)) ggX5_landingOf_X3_kilometreAt
set_option maxRecDepth 20000 in
theorem ggX5_landingOf_X3_layerAt : GoodIn wsX5_landingOf wsX3_layerAt := goodIn_r _ [18, 19, 10, 11, 12, 7, 13, 14, 65, 66, 67, 68, 69, 70] (by decide +kernel) (by decide +kernel)
set_option maxRecDepth 20000 in
theorem gX5_landingOf_X3_layerAt : GoodIn wsX5_landingOf (wsV RX5 229 RX3 yX3_layerAt wsX3_layerAt) := goodIn_app (goodIn_of _ (by decide +kernel)) ggX5_landingOf_X3_layerAt
set_option maxRecDepth 20000 in
theorem ggX5_landingOf_X3_sizeAt : GoodIn wsX5_landingOf wsX3_sizeAt := goodIn_r _ [23, 24, 10, 11, 12, 7, 13, 14, 65, 66, 67, 68, 69, 70] (by decide +kernel) (by decide +kernel)
set_option maxRecDepth 20000 in
theorem gX5_landingOf_X3_sizeAt : GoodIn wsX5_landingOf (wsV RX5 232 RX3 yX3_sizeAt wsX3_sizeAt) := goodIn_app (goodIn_of _ (by decide +kernel)) ggX5_landingOf_X3_sizeAt
set_option maxRecDepth 20000 in
theorem ggX5_landingOf_X3_minuteAt : GoodIn wsX5_landingOf wsX3_minuteAt := goodIn_r _ [28, 29, 10, 11, 12, 7, 13, 14, 65, 66, 67, 68, 69, 70] (by decide +kernel) (by decide +kernel)
set_option maxRecDepth 20000 in
theorem gX5_landingOf_X3_minuteAt : GoodIn wsX5_landingOf (wsV RX5 235 RX3 yX3_minuteAt wsX3_minuteAt) := goodIn_app (goodIn_of _ (by decide +kernel)) ggX5_landingOf_X3_minuteAt
set_option maxRecDepth 20000 in
theorem ggX5_landingOf_X2_meltingIn : GoodIn wsX5_landingOf wsX2_meltingIn := goodIn_r _ [34, 35, 36, 37, 33, 38, 71, 72] (by decide +kernel) (by decide +kernel)
set_option maxRecDepth 20000 in
theorem gX5_landingOf_X2_meltingIn : GoodIn wsX5_landingOf (wsV RX5 238 RX2 yX2_meltingIn wsX2_meltingIn) := goodIn_app (goodIn_of _ (by decide +kernel)) ggX5_landingOf_X2_meltingIn
set_option maxRecDepth 20000 in
theorem ggX5_landingOf_X5_fallOf : GoodIn wsX5_landingOf wsX5_fallOf := goodIn_r _ [42, 43, 44, 41, 45] (by decide +kernel) (by decide +kernel)
set_option maxRecDepth 20000 in
theorem gX5_landingOf_X5_fallOf : GoodIn wsX5_landingOf (va_wsS RX5 241 yX5_fallOf wsX5_fallOf) := goodIn_app (goodIn_of _ (by decide +kernel)) ggX5_landingOf_X5_fallOf
set_option maxRecDepth 20000 in
theorem ggX5_landingOf_X2_stepIn : GoodIn wsX5_landingOf wsX2_stepIn := goodIn_r _ [49, 50, 36, 37, 33, 38, 71, 72] (by decide +kernel) (by decide +kernel)
set_option maxRecDepth 20000 in
theorem gX5_landingOf_X2_stepIn : GoodIn wsX5_landingOf (wsV RX5 244 RX2 yX2_stepIn wsX2_stepIn) := goodIn_app (goodIn_of _ (by decide +kernel)) ggX5_landingOf_X2_stepIn
set_option maxRecDepth 20000 in
theorem ggX5_reachOf_X5_layerOfBeam : GoodIn wsX5_reachOf wsX5_layerOfBeam := goodIn_r _ [5] (by decide +kernel) (by decide +kernel)
set_option maxRecDepth 20000 in
theorem gX5_reachOf_X5_layerOfBeam : GoodIn wsX5_reachOf (va_wsS RX5 247 yX5_layerOfBeam wsX5_layerOfBeam) := goodIn_app (goodIn_of _ (by decide +kernel)) ggX5_reachOf_X5_layerOfBeam
set_option maxRecDepth 20000 in
theorem ggX5_echoInBeam_X5_layerOfBeam : GoodIn wsX5_echoInBeam wsX5_layerOfBeam := goodIn_r _ [8] (by decide +kernel) (by decide +kernel)
set_option maxRecDepth 20000 in
theorem gX5_echoInBeam_X5_layerOfBeam : GoodIn wsX5_echoInBeam (va_wsS RX5 247 yX5_layerOfBeam wsX5_layerOfBeam) := goodIn_app (goodIn_of _ (by decide +kernel)) ggX5_echoInBeam_X5_layerOfBeam
set_option maxRecDepth 20000 in
theorem ggX5_echoInBeam_X0_plainEcho : GoodIn wsX5_echoInBeam wsX0_plainEcho := goodIn_r _ [13, 14, 15, 16, 12, 17, 18, 19, 20, 21, 39] (by decide +kernel) (by decide +kernel)
set_option maxRecDepth 20000 in
theorem gX5_echoInBeam_X0_plainEcho : GoodIn wsX5_echoInBeam (wsV RX5 250 RX0 yX0_plainEcho wsX0_plainEcho) := goodIn_app (goodIn_of _ (by decide +kernel)) ggX5_echoInBeam_X0_plainEcho
set_option maxRecDepth 20000 in
theorem ggX5_echoInBeam_X5_phaseIn : GoodIn wsX5_echoInBeam wsX5_phaseIn := goodIn_r _ [24] (by decide +kernel) (by decide +kernel)
set_option maxRecDepth 20000 in
theorem gX5_echoInBeam_X5_phaseIn : GoodIn wsX5_echoInBeam (va_wsS RX5 152 yX5_phaseIn wsX5_phaseIn) := goodIn_app (goodIn_of _ (by decide +kernel)) ggX5_echoInBeam_X5_phaseIn
set_option maxRecDepth 20000 in
theorem ggX5_weakenedEcho_X5_echoInBeam : GoodIn wsX5_weakenedEcho wsX5_echoInBeam := goodIn_r _ [9, 10, 11, 12, 13, 14, 15, 8, 16, 17, 18, 19, 20, 21, 22, 23, 24, 25, 26, 27, 28, 29, 30, 31, 32, 33, 34, 35, 36, 37, 38, 39, 40, 41, 42, 43, 44, 45, 46, 47] (by decide +kernel) (by decide +kernel)
set_option maxRecDepth 20000 in
theorem gX5_weakenedEcho_X5_echoInBeam : GoodIn wsX5_weakenedEcho (wsV RX5 145 RX5 yX5_echoInBeam wsX5_echoInBeam) := goodIn_app (goodIn_of _ (by decide +kernel)) ggX5_weakenedEcho_X5_echoInBeam
set_option maxRecDepth 20000 in
theorem ggL_drops_X5_drops : GoodIn wsL_drops wsX5_drops := goodIn_ca (goodIn_ca (goodIn_ca (goodIn_r _ [9, 10, 11, 12, 13, 14, 15, 16, 17, 8, 18, 19, 20, 21, 22, 23, 24, 25, 26, 27, 28, 29, 30, 31, 32, 33, 34, 35, 36, 37, 38, 39, 40, 41, 42, 43, 44, 45, 46, 47, 48, 49, 50, 51, 52, 53, 54, 55, 56, 57, 58, 59, 60, 61, 62, 63, 64, 65, 66, 67, 68, 69, 70, 71, 72, 73, 74, 75, 76] (by decide +kernel) (by decide +kernel)) (goodIn_sub (fun _ h => List.mem_cons_of_mem _ (List.mem_append_left _ (List.mem_append_left _ (List.mem_append_right _ h)))) (by decide +kernel))) (goodIn_sub (fun _ h => List.mem_cons_of_mem _ (List.mem_append_left _ (List.mem_append_right _ h))) (by decide +kernel))) (goodIn_sub (fun _ h => List.mem_cons_of_mem _ (List.mem_append_right _ h)) (by decide +kernel))
set_option maxRecDepth 20000 in
theorem gL_drops_X5_drops : GoodIn wsL_drops (wsV RL 8 RX5 yX5_drops wsX5_drops) := goodIn_app (goodIn_of _ (by decide +kernel)) ggL_drops_X5_drops
set_option maxRecDepth 20000 in
theorem ggL_melt_X5_melt : GoodIn wsL_melt wsX5_melt := goodIn_ca (goodIn_r _ [7, 8, 9, 10, 6, 11, 12, 13, 14, 15, 16, 17, 18, 19, 20, 21, 22, 23, 24, 25, 26, 27] (by decide +kernel) (by decide +kernel)) (goodIn_sub (fun _ h => List.mem_cons_of_mem _ (List.mem_append_right _ h)) (by decide +kernel))
set_option maxRecDepth 20000 in
theorem gL_melt_X5_melt : GoodIn wsL_melt (wsV RL 22 RX5 yX5_melt wsX5_melt) := goodIn_app (goodIn_of _ (by decide +kernel)) ggL_melt_X5_melt
set_option maxRecDepth 20000 in
theorem ggL_hill_X5_hill : GoodIn wsL_hill wsX5_hill := goodIn_ca (goodIn_ca (goodIn_r _ [8, 9, 10, 11, 7, 12, 13, 14, 15, 16, 17, 18, 19, 20, 21, 22, 23, 24, 25, 26, 27, 28, 29, 30, 31, 32, 33] (by decide +kernel) (by decide +kernel)) (goodIn_sub (fun _ h => List.mem_cons_of_mem _ (List.mem_append_left _ (List.mem_append_right _ h))) (by decide +kernel))) (goodIn_sub (fun _ h => List.mem_cons_of_mem _ (List.mem_append_right _ h)) (by decide +kernel))
set_option maxRecDepth 20000 in
theorem gL_hill_X5_hill : GoodIn wsL_hill (wsV RL 26 RX5 yX5_hill wsX5_hill) := goodIn_app (goodIn_of _ (by decide +kernel)) ggL_hill_X5_hill
set_option maxRecDepth 20000 in
theorem ggL_drift_X5_drift : GoodIn wsL_drift wsX5_drift := goodIn_ca (goodIn_r _ [7, 8, 9, 10, 11, 6, 12, 13, 14, 15, 16, 17, 18, 19, 20, 21, 22, 23, 24, 25, 26, 27, 28] (by decide +kernel) (by decide +kernel)) (goodIn_sub (fun _ h => List.mem_cons_of_mem _ (List.mem_append_right _ h)) (by decide +kernel))
set_option maxRecDepth 20000 in
theorem gL_drift_X5_drift : GoodIn wsL_drift (wsV RL 30 RX5 yX5_drift wsX5_drift) := goodIn_app (goodIn_of _ (by decide +kernel)) ggL_drift_X5_drift
set_option maxRecDepth 20000 in
theorem ggL_gauge_X5_gauge : GoodIn wsL_gauge wsX5_gauge := goodIn_ca (goodIn_r _ [7, 8, 9, 10, 6, 11, 12, 13, 14, 15, 16, 17, 18, 19, 20, 21, 22, 23, 24, 25, 26, 27, 28, 29, 30, 31, 32, 33, 34, 35, 36, 37, 38, 39, 40, 41, 42, 43, 44, 45] (by decide +kernel) (by decide +kernel)) (goodIn_sub (fun _ h => List.mem_cons_of_mem _ (List.mem_append_right _ h)) (by decide +kernel))
set_option maxRecDepth 20000 in
theorem gL_gauge_X5_gauge : GoodIn wsL_gauge (wsV RL 34 RX5 yX5_gauge wsX5_gauge) := goodIn_app (goodIn_of _ (by decide +kernel)) ggL_gauge_X5_gauge
set_option maxRecDepth 20000 in
theorem ggL_clog_X5_clog : GoodIn wsL_clog wsX5_clog := goodIn_ca (goodIn_r _ [7, 8, 9, 10, 6, 11, 12, 13, 14, 15, 16, 17, 18, 19, 20, 21, 22, 23, 24, 25, 26, 27, 28, 29, 30, 31, 32, 33, 34, 35, 36, 37, 38, 39, 40, 41, 42, 43, 44, 45, 46, 47, 48, 49, 50, 51, 52] (by decide +kernel) (by decide +kernel)) (goodIn_sub (fun _ h => List.mem_cons_of_mem _ (List.mem_append_right _ h)) (by decide +kernel))
set_option maxRecDepth 20000 in
theorem gL_clog_X5_clog : GoodIn wsL_clog (wsV RL 38 RX5 yX5_clog wsX5_clog) := goodIn_app (goodIn_of _ (by decide +kernel)) ggL_clog_X5_clog
set_option maxRecDepth 20000 in
theorem ggL_pass_X5_pass : GoodIn wsL_pass wsX5_pass := goodIn_ca (goodIn_ca (goodIn_r _ [8, 9, 10, 11, 12, 13, 7, 14, 15, 16, 17, 18, 19, 20, 21, 22, 23, 24, 25, 26, 27, 28, 29, 30, 31, 32, 33, 34, 35, 36, 37, 38, 39, 40, 41, 42, 43, 44, 45, 46, 47, 48, 49, 50, 51, 52, 53, 54, 55, 56, 57, 58, 59, 60, 61, 62, 63, 64, 65, 66, 67, 68, 69, 70, 71, 72, 73, 74, 75, 76, 77, 78, 79, 80, 81, 82, 83, 84, 85, 86, 87, 88, 89, 90, 91, 92, 93, 94, 95, 96, 97, 98, 99, 100, 101, 102, 103, 104, 105, 106, 107, 108, 109, 110, 111, 112, 113, 114] (by decide +kernel) (by decide +kernel)) (goodIn_sub (fun _ h => List.mem_cons_of_mem _ (List.mem_append_left _ (List.mem_append_right _ h))) (by decide +kernel))) (goodIn_sub (fun _ h => List.mem_cons_of_mem _ (List.mem_append_right _ h)) (by decide +kernel))
set_option maxRecDepth 20000 in
theorem gL_pass_X5_pass : GoodIn wsL_pass (wsV RL 41 RX5 yX5_pass wsX5_pass) := goodIn_app (goodIn_of _ (by decide +kernel)) ggL_pass_X5_pass
set_option maxRecDepth 20000 in
theorem ggL_scan_X5_scan : GoodIn wsL_scan wsX5_scan := goodIn_ca (goodIn_ca (goodIn_r _ [8, 9, 10, 11, 12, 13, 14, 7, 15, 16, 17, 18, 19, 20, 21, 22, 23, 24, 25, 26, 27, 28, 29, 30, 31, 32, 33, 34, 35, 36, 37, 38, 39, 40, 41, 42, 43, 44, 45, 46, 47, 48, 49, 50, 51, 52, 53, 54, 55, 56, 57, 58, 59, 60, 61, 62, 63, 64, 65, 66, 67, 68, 69, 70, 71, 72, 73, 74, 75, 76, 77, 78, 79, 80, 81, 82, 83] (by decide +kernel) (by decide +kernel)) (goodIn_sub (fun _ h => List.mem_cons_of_mem _ (List.mem_append_left _ (List.mem_append_right _ h))) (by decide +kernel))) (goodIn_sub (fun _ h => List.mem_cons_of_mem _ (List.mem_append_right _ h)) (by decide +kernel))
set_option maxRecDepth 20000 in
theorem gL_scan_X5_scan : GoodIn wsL_scan (wsV RL 44 RX5 yX5_scan wsX5_scan) := goodIn_app (goodIn_of _ (by decide +kernel)) ggL_scan_X5_scan
set_option maxRecDepth 20000 in
theorem ggL_rule_X5_rule : GoodIn wsL_rule wsX5_rule := goodIn_ca (goodIn_r _ [7, 8, 9, 10, 6, 11, 12, 13, 14, 15, 16, 17, 18, 19, 20, 21, 22, 23, 24, 25, 26, 27] (by decide +kernel) (by decide +kernel)) (goodIn_sub (fun _ h => List.mem_cons_of_mem _ (List.mem_append_right _ h)) (by decide +kernel))
set_option maxRecDepth 20000 in
theorem gL_rule_X5_rule : GoodIn wsL_rule (wsV RL 47 RX5 yX5_rule wsX5_rule) := goodIn_app (goodIn_of _ (by decide +kernel)) ggL_rule_X5_rule
set_option maxRecDepth 20000 in
theorem ggL_count_X5_count : GoodIn wsL_count wsX5_count := goodIn_ca (goodIn_ca (goodIn_r _ [8, 9, 10, 11, 7, 12, 13, 14, 15, 16, 17, 18, 19, 20, 21, 22, 23, 24, 25, 26, 27, 28, 29, 30, 31, 32, 33, 34, 35, 36, 37, 38, 39, 40, 41, 42, 43, 44, 45, 46] (by decide +kernel) (by decide +kernel)) (goodIn_sub (fun _ h => List.mem_cons_of_mem _ (List.mem_append_left _ (List.mem_append_right _ h))) (by decide +kernel))) (goodIn_sub (fun _ h => List.mem_cons_of_mem _ (List.mem_append_right _ h)) (by decide +kernel))
set_option maxRecDepth 20000 in
theorem gL_count_X5_count : GoodIn wsL_count (wsV RL 50 RX5 yX5_count wsX5_count) := goodIn_app (goodIn_of _ (by decide +kernel)) ggL_count_X5_count
set_option maxRecDepth 20000 in
theorem ggL_phase_X5_phase : GoodIn wsL_phase wsX5_phase := goodIn_ca (goodIn_r _ [7, 8, 9, 10, 6, 11, 12, 13, 14, 15, 16, 17, 18, 19, 20, 21, 22, 23, 24, 25, 26, 27, 28, 29, 30] (by decide +kernel) (by decide +kernel)) (goodIn_sub (fun _ h => List.mem_cons_of_mem _ (List.mem_append_right _ h)) (by decide +kernel))
set_option maxRecDepth 20000 in
theorem gL_phase_X5_phase : GoodIn wsL_phase (wsV RL 54 RX5 yX5_phase wsX5_phase) := goodIn_app (goodIn_of _ (by decide +kernel)) ggL_phase_X5_phase
set_option maxRecDepth 20000 in
theorem ggL_echo_X5_echo : GoodIn wsL_echo wsX5_echo := goodIn_ca (goodIn_ca (goodIn_r _ [8, 9, 10, 11, 7, 12, 13, 14, 15, 16, 17, 18, 19, 20, 21, 22, 23, 24, 25, 26, 27, 28, 29, 30, 31, 32, 33, 34, 35, 36, 37, 38, 39, 40, 41, 42, 43, 44, 45, 46, 47, 48, 49, 50, 51, 52, 53, 54, 55, 56, 57, 58, 59, 60, 61, 62, 63, 64, 65, 66] (by decide +kernel) (by decide +kernel)) (goodIn_sub (fun _ h => List.mem_cons_of_mem _ (List.mem_append_left _ (List.mem_append_right _ h))) (by decide +kernel))) (goodIn_sub (fun _ h => List.mem_cons_of_mem _ (List.mem_append_right _ h)) (by decide +kernel))
set_option maxRecDepth 20000 in
theorem gL_echo_X5_echo : GoodIn wsL_echo (wsV RL 57 RX5 yX5_echo wsX5_echo) := goodIn_app (goodIn_of _ (by decide +kernel)) ggL_echo_X5_echo
set_option maxRecDepth 20000 in
theorem ggL_seen_X5_seen : GoodIn wsL_seen wsX5_seen := goodIn_ca (goodIn_ca (goodIn_r _ [8, 9, 10, 11, 7, 12, 13, 14, 15, 16, 17, 18, 19, 20, 21, 22, 23, 24, 25, 26, 27, 28, 29, 30, 31, 32, 33, 34, 35, 36, 37, 38, 39, 40, 41, 42, 43, 44, 45, 46, 47, 48, 49, 50, 51, 52, 53, 54, 55, 56, 57, 58, 59, 60, 61, 62, 63, 64, 65, 66, 67, 68, 69, 70, 71, 72, 73, 74, 75, 76, 77, 78, 79, 80, 81] (by decide +kernel) (by decide +kernel)) (goodIn_sub (fun _ h => List.mem_cons_of_mem _ (List.mem_append_left _ (List.mem_append_right _ h))) (by decide +kernel))) (goodIn_sub (fun _ h => List.mem_cons_of_mem _ (List.mem_append_right _ h)) (by decide +kernel))
set_option maxRecDepth 20000 in
theorem gL_seen_X5_seen : GoodIn wsL_seen (wsV RL 61 RX5 yX5_seen wsX5_seen) := goodIn_app (goodIn_of _ (by decide +kernel)) ggL_seen_X5_seen
set_option maxRecDepth 20000 in
theorem ggL_rain_X5_rain : GoodIn wsL_rain wsX5_rain := goodIn_ca (goodIn_r _ [7, 8, 9, 10, 6, 11, 12, 13, 14, 15, 16, 17, 18, 19, 20, 21, 22, 23, 24, 25, 26, 27, 28, 29, 30, 31, 32, 33, 34, 35, 36, 37, 38, 39, 40, 41, 42, 43, 44, 45, 46, 47, 48, 49] (by decide +kernel) (by decide +kernel)) (goodIn_sub (fun _ h => List.mem_cons_of_mem _ (List.mem_append_right _ h)) (by decide +kernel))
set_option maxRecDepth 20000 in
theorem gL_rain_X5_rain : GoodIn wsL_rain (wsV RL 64 RX5 yX5_rain wsX5_rain) := goodIn_app (goodIn_of _ (by decide +kernel)) ggL_rain_X5_rain
set_option maxRecDepth 20000 in
theorem ggL_rainBy_X5_rainBy : GoodIn wsL_rainBy wsX5_rainBy := goodIn_ca (goodIn_ca (goodIn_r _ [8, 9, 10, 11, 7, 12, 13, 14, 15, 16, 17, 18, 19, 20, 21, 22, 23, 24, 25, 26, 27, 28, 29, 30, 31, 32, 33, 34, 35, 36, 37, 38, 39, 40, 41, 42, 43, 44, 45, 46, 47, 48, 49, 50] (by decide +kernel) (by decide +kernel)) (goodIn_sub (fun _ h => List.mem_cons_of_mem _ (List.mem_append_left _ (List.mem_append_right _ h))) (by decide +kernel))) (goodIn_sub (fun _ h => List.mem_cons_of_mem _ (List.mem_append_right _ h)) (by decide +kernel))
set_option maxRecDepth 20000 in
theorem gL_rainBy_X5_rainBy : GoodIn wsL_rainBy (wsV RL 68 RX5 yX5_rainBy wsX5_rainBy) := goodIn_app (goodIn_of _ (by decide +kernel)) ggL_rainBy_X5_rainBy
set_option maxRecDepth 20000 in
theorem ggL_motion_X5_motion : GoodIn wsL_motion wsX5_motion := goodIn_ca (goodIn_r _ [7, 8, 9, 10, 11, 12, 13, 14, 15, 16, 17, 18, 19, 20, 21, 22, 23, 24, 25, 26, 27, 28, 29, 30, 31, 32, 33, 34, 35, 36, 37, 38, 39, 40, 41, 42, 43, 44, 45, 46] (by decide +kernel) (by decide +kernel)) (goodIn_sub (fun _ h => List.mem_cons_of_mem _ (List.mem_append_right _ h)) (by decide +kernel))
set_option maxRecDepth 20000 in
theorem gL_motion_X5_motion : GoodIn wsL_motion (wsV RL 71 RX5 yX5_motion wsX5_motion) := goodIn_app (goodIn_of _ (by decide +kernel)) ggL_motion_X5_motion
set_option maxRecDepth 20000 in
theorem ggL_collected_X5_collected : GoodIn wsL_collected wsX5_collected := goodIn_ca (goodIn_r _ [7, 8, 9, 10, 6, 11, 12, 13, 14, 15, 16, 17, 18, 19, 20, 21, 22, 23, 24, 25, 26, 27, 28, 29, 30, 31, 32, 33, 34, 35, 36, 37, 38, 39, 40, 41, 42, 43, 44, 45, 46, 47, 48] (by decide +kernel) (by decide +kernel)) (goodIn_sub (fun _ h => List.mem_cons_of_mem _ (List.mem_append_right _ h)) (by decide +kernel))
set_option maxRecDepth 20000 in
theorem gL_collected_X5_collected : GoodIn wsL_collected (wsV RL 75 RX5 yX5_collected wsX5_collected) := goodIn_app (goodIn_of _ (by decide +kernel)) ggL_collected_X5_collected
set_option maxRecDepth 20000 in
theorem ggL_ground_X5_ground : GoodIn wsL_ground wsX5_ground := goodIn_ca (goodIn_r _ [7, 8, 9, 10, 6, 11, 12, 13, 14, 15, 16, 17, 18, 19, 20, 21, 22, 23, 24, 25, 26, 27] (by decide +kernel) (by decide +kernel)) (goodIn_sub (fun _ h => List.mem_cons_of_mem _ (List.mem_append_right _ h)) (by decide +kernel))
set_option maxRecDepth 20000 in
theorem gL_ground_X5_ground : GoodIn wsL_ground (wsV RL 78 RX5 yX5_ground wsX5_ground) := goodIn_app (goodIn_of _ (by decide +kernel)) ggL_ground_X5_ground
set_option maxRecDepth 20000 in
theorem ggL_water_X5_water : GoodIn wsL_water wsX5_water := goodIn_ca (goodIn_r _ [7, 8, 9, 10, 11, 12, 6, 13, 14, 15, 16, 17, 18, 19, 20, 21, 22, 23, 24, 25, 26, 27, 28, 29, 30, 31, 32, 33, 34, 35, 36, 37, 38, 39, 40, 41, 42, 43, 44, 45, 46, 47, 48, 49, 50] (by decide +kernel) (by decide +kernel)) (goodIn_sub (fun _ h => List.mem_cons_of_mem _ (List.mem_append_right _ h)) (by decide +kernel))
set_option maxRecDepth 20000 in
theorem gL_water_X5_water : GoodIn wsL_water (wsV RL 81 RX5 yX5_water wsX5_water) := goodIn_app (goodIn_of _ (by decide +kernel)) ggL_water_X5_water
set_option maxRecDepth 20000 in
theorem ggL_areAlike_L_low : GoodIn wsL_areAlike wsL_low := goodIn_r _ [4, 5] (by decide +kernel) (by decide +kernel)
set_option maxRecDepth 20000 in
theorem gL_areAlike_L_low : GoodIn wsL_areAlike (va_wsS RL 84 yL_low wsL_low) := goodIn_app (goodIn_of _ (by decide +kernel)) ggL_areAlike_L_low
set_option maxRecDepth 20000 in
theorem ggL_areAlike_L_water : GoodIn wsL_areAlike wsL_water := goodIn_ca (goodIn_r _ [8, 9, 10, 11, 12, 13, 14, 15, 16, 17, 18, 19, 20, 21, 22, 23, 24, 25, 26, 27, 28, 29, 30, 31, 32, 33, 34, 35, 36, 37, 38, 39, 40, 41, 42, 43, 170, 171, 172, 173, 174, 175, 176, 177, 178, 179, 180, 181, 182, 183, 184] (by decide +kernel) (by decide +kernel)) (goodIn_sub (fun _ h => List.mem_cons_of_mem _ (List.mem_append_left _ (List.mem_append_left _ (List.mem_append_right _ h)))) (by decide +kernel))
set_option maxRecDepth 20000 in
theorem gL_areAlike_L_water : GoodIn wsL_areAlike (va_wsS RL 134 yL_water wsL_water) := goodIn_app (goodIn_of _ (by decide +kernel)) ggL_areAlike_L_water
set_option maxRecDepth 20000 in
theorem ggL_areAlike_L_motion : GoodIn wsL_areAlike wsL_motion := goodIn_ca (goodIn_r _ [46, 47, 10, 48, 49, 50, 14, 51, 52, 53, 54, 55, 56, 57, 58, 59, 60, 61, 62, 63, 64, 65, 66, 67, 68, 69, 70, 71, 72, 73, 170, 171, 172, 173, 174, 175, 176, 177, 178, 179, 180, 181, 182, 183, 185, 186, 187] (by decide +kernel) (by decide +kernel)) (goodIn_sub (fun _ h => List.mem_cons_of_mem _ (List.mem_append_left _ (List.mem_append_right _ h))) (by decide +kernel))
set_option maxRecDepth 20000 in
theorem gL_areAlike_L_motion : GoodIn wsL_areAlike (va_wsS RL 124 yL_motion wsL_motion) := goodIn_app (goodIn_of _ (by decide +kernel)) ggL_areAlike_L_motion
set_option maxRecDepth 20000 in
theorem ggL_areAlike_L_ground : GoodIn wsL_areAlike wsL_ground := goodIn_ca (goodIn_r _ [76, 77, 10, 78, 79, 80, 14, 81, 43, 82, 83, 84, 85, 86, 170, 171, 172, 173, 174, 175, 176, 177, 178, 179, 180, 181, 182, 183] (by decide +kernel) (by decide +kernel)) (goodIn_sub (fun _ h => List.mem_cons_of_mem _ (List.mem_append_right _ h)) (by decide +kernel))
set_option maxRecDepth 20000 in
theorem gL_areAlike_L_ground : GoodIn wsL_areAlike (va_wsS RL 132 yL_ground wsL_ground) := goodIn_app (goodIn_of _ (by decide +kernel)) ggL_areAlike_L_ground
set_option maxRecDepth 20000 in
theorem ggL_areAlike_L_rain : GoodIn wsL_areAlike wsL_rain := goodIn_ca (goodIn_r _ [89, 77, 10, 90, 91, 92, 14, 93, 54, 82, 83, 84, 85, 86, 94, 66, 67, 58, 68, 69, 70, 71, 72, 73, 60, 95, 96, 97, 98, 99, 100, 101, 102, 170, 171, 172, 173, 174, 175, 176, 177, 178, 179, 180, 181, 182, 183, 185, 186, 187] (by decide +kernel) (by decide +kernel)) (goodIn_sub (fun _ h => List.mem_cons_of_mem _ (List.mem_append_right _ h)) (by decide +kernel))
set_option maxRecDepth 20000 in
theorem gL_areAlike_L_rain : GoodIn wsL_areAlike (va_wsS RL 120 yL_rain wsL_rain) := goodIn_app (goodIn_of _ (by decide +kernel)) ggL_areAlike_L_rain
set_option maxRecDepth 20000 in
theorem ggL_areAlike_L_echo : GoodIn wsL_areAlike wsL_echo := goodIn_ca (goodIn_ca (goodIn_r _ [105, 77, 9, 10, 106, 107, 108, 14, 109, 110, 82, 83, 84, 85, 86, 19, 20, 21, 22, 23, 111, 112, 113, 114, 115, 116, 117, 118, 119, 120, 121, 122, 17, 123, 124, 125, 126, 127, 128, 27, 129, 29, 30, 31, 32, 33, 34, 35, 36, 130, 131, 132, 170, 171, 172, 173, 174, 175, 176, 177, 178, 179, 180, 181, 182, 183, 184] (by decide +kernel) (by decide +kernel)) (goodIn_sub (fun _ h => List.mem_cons_of_mem _ (List.mem_append_right _ h)) (by decide +kernel))) (goodIn_sub (fun _ h => List.mem_cons_of_mem _ (List.mem_append_left _ (List.mem_append_left _ (List.mem_append_right _ h)))) (by decide +kernel))
set_option maxRecDepth 20000 in
theorem gL_areAlike_L_echo : GoodIn wsL_areAlike (va_wsS RL 116 yL_echo wsL_echo) := goodIn_app (goodIn_of _ (by decide +kernel)) ggL_areAlike_L_echo
set_option maxRecDepth 20000 in
theorem ggL_areAlike_L_collected : GoodIn wsL_areAlike wsL_collected := goodIn_ca (goodIn_r _ [135, 77, 10, 136, 137, 138, 14, 139, 140, 82, 83, 84, 85, 86, 141, 142, 143, 144, 145, 146, 147, 148, 149, 150, 151, 152, 153, 154, 155, 156, 157, 158, 170, 171, 172, 173, 174, 175, 176, 177, 178, 179, 180, 181, 182, 183, 188, 189, 190] (by decide +kernel) (by decide +kernel)) (goodIn_sub (fun _ h => List.mem_cons_of_mem _ (List.mem_append_right _ h)) (by decide +kernel))
set_option maxRecDepth 20000 in
theorem gL_areAlike_L_collected : GoodIn wsL_areAlike (va_wsS RL 127 yL_collected wsL_collected) := goodIn_app (goodIn_of _ (by decide +kernel)) ggL_areAlike_L_collected
set_option maxRecDepth 20000 in
theorem ggL_areAlike_L_count : GoodIn wsL_areAlike wsL_count := goodIn_ca (goodIn_ca (goodIn_r _ [161, 77, 9, 10, 162, 163, 164, 14, 165, 17, 82, 83, 84, 85, 86, 166, 167, 168, 19, 20, 21, 22, 23, 169, 30, 31, 27, 32, 33, 34, 35, 36, 170, 171, 172, 173, 174, 175, 176, 177, 178, 179, 180, 181, 182, 183, 184] (by decide +kernel) (by decide +kernel)) (goodIn_sub (fun _ h => List.mem_cons_of_mem _ (List.mem_append_right _ h)) (by decide +kernel))) (goodIn_sub (fun _ h => List.mem_cons_of_mem _ (List.mem_append_left _ (List.mem_append_left _ (List.mem_append_right _ h)))) (by decide +kernel))
set_option maxRecDepth 20000 in
theorem gL_areAlike_L_count : GoodIn wsL_areAlike (va_wsS RL 111 yL_count wsL_count) := goodIn_app (goodIn_of _ (by decide +kernel)) ggL_areAlike_L_count
set_option maxRecDepth 20000 in
theorem ggL_law_X5_init : GoodIn wsL_law wsX5_init := goodIn_r _ [6, 7, 8, 9, 10, 11, 12, 13, 14, 15, 16, 17, 18, 19, 20, 21, 22, 23, 24, 25, 26, 27, 28, 29, 30, 31, 32, 33, 34, 35, 36, 37, 38, 39, 40, 41, 42, 43, 44, 45, 46, 47, 48, 49, 50, 51, 52, 53, 54, 55, 56, 57, 58, 59, 60, 61, 62, 63, 64, 65, 66, 67, 68, 69, 70, 71, 461, 447, 448, 449, 450, 451, 452, 453, 454, 455, 456, 457, 458, 459, 460, 462, 463, 464, 465, 466, 467, 468, 469, 470, 471, 472, 473, 474, 475] (by decide +kernel) (by decide +kernel)
set_option maxRecDepth 20000 in
theorem gL_law_X5_init : GoodIn wsL_law (wsX5_init) := ggL_law_X5_init
set_option maxRecDepth 20000 in
theorem ggL_law_L_cell : GoodIn wsL_law wsL_cell := goodIn_r _ [75] (by decide +kernel) (by decide +kernel)
set_option maxRecDepth 20000 in
theorem gL_law_L_cell : GoodIn wsL_law (va_wsS RL 143 yL_cell wsL_cell) := goodIn_app (goodIn_of _ (by decide +kernel)) ggL_law_L_cell
