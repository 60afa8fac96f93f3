theorem inJ6 : ∀ w ∈ wsJ60, w ∈ lw_tbl := by decide +kernel
theorem inJ9 : ∀ w ∈ wsJ90, w ∈ lw_tbl := by decide +kernel
set_option maxRecDepth 20000 in
theorem ggX0_isLoose_X5_leastWay : GoodIn wsX0_isLoose wsX5_leastWay := goodIn_r _ [6, 7, 8, 9, 10, 11, 12, 13, 14, 15, 5, 16, 17, 18, 19, 20, 21, 22, 23, 28, 29, 30] rfl (by decide +kernel)
set_option maxRecDepth 20000 in
theorem gX0_isLoose_X5_leastWay : GoodIn wsX0_isLoose (wsV RX0 22 RX5 yX5_leastWay wsX5_leastWay) := goodIn_app (goodIn_of _ (by decide +kernel)) ggX0_isLoose_X5_leastWay
set_option maxRecDepth 20000 in
theorem ggX0_isInZone_X0_isNearer : GoodIn wsX0_isInZone wsX0_isNearer := goodIn_r _ [7] rfl (by decide +kernel)
set_option maxRecDepth 20000 in
theorem gX0_isInZone_X0_isNearer : GoodIn wsX0_isInZone (va_wsS RX0 28 yX0_isNearer wsX0_isNearer) := goodIn_app (goodIn_of _ (by decide +kernel)) ggX0_isInZone_X0_isNearer
set_option maxRecDepth 20000 in
theorem ggX1_init_X7_init : GoodIn wsX1_init wsX7_init := goodIn_r _ [16, 17, 2, 3, 18, 19, 24] rfl (by decide +kernel)
set_option maxRecDepth 20000 in
theorem gX1_init_X7_init : GoodIn wsX1_init (wsX7_init) := ggX1_init_X7_init
set_option maxRecDepth 20000 in
theorem ggX1_init_X7_fill : GoodIn wsX1_init wsX7_fill := goodIn_r _ [23, 19, 24] rfl (by decide +kernel)
set_option maxRecDepth 20000 in
theorem gX1_init_X7_fill : GoodIn wsX1_init (wsV RX1 39 RX7 yX7_fill wsX7_fill) := goodIn_app (goodIn_of _ (by decide +kernel)) ggX1_init_X7_fill
set_option maxRecDepth 20000 in
theorem ggX1_empty_X7_fill : GoodIn wsX1_empty wsX7_fill := goodIn_r _ [8, 9, 17] rfl (by decide +kernel)
set_option maxRecDepth 20000 in
theorem gX1_empty_X7_fill : GoodIn wsX1_empty (wsV RX1 39 RX7 yX7_fill wsX7_fill) := goodIn_app (goodIn_of _ (by decide +kernel)) ggX1_empty_X7_fill
set_option maxRecDepth 20000 in
theorem ggX1_isBehind_X7_at : GoodIn wsX1_isBehind wsX7_at := goodIn_r _ [6, 7, 21] rfl (by decide +kernel)
set_option maxRecDepth 20000 in
theorem gX1_isBehind_X7_at : GoodIn wsX1_isBehind (wsV RX1 42 RX7 yX7_at wsX7_at) := goodIn_app (goodIn_of _ (by decide +kernel)) ggX1_isBehind_X7_at
set_option maxRecDepth 20000 in
theorem ggX1_isBehind_X1_told : GoodIn wsX1_isBehind wsX1_told := goodIn_r _ [12, 13, 2, 3, 4, 5, 6, 7, 14, 15, 16, 17, 18, 19, 20, 21] rfl (by decide +kernel)
set_option maxRecDepth 20000 in
theorem gX1_isBehind_X1_told : GoodIn wsX1_isBehind (wsV RX1 46 RX1 yX1_told wsX1_told) := goodIn_app (goodIn_of _ (by decide +kernel)) ggX1_isBehind_X1_told
set_option maxRecDepth 20000 in
theorem ggX1_add_X7_put : GoodIn wsX1_add wsX7_put := goodIn_r _ [9, 10, 22] rfl (by decide +kernel)
set_option maxRecDepth 20000 in
theorem gX1_add_X7_put : GoodIn wsX1_add (wsV RX1 50 RX7 yX7_put wsX7_put) := goodIn_app (goodIn_of _ (by decide +kernel)) ggX1_add_X7_put
set_option maxRecDepth 20000 in
theorem ggX1_add_X7_at : GoodIn wsX1_add wsX7_at := goodIn_r _ [14, 10, 22] rfl (by decide +kernel)
set_option maxRecDepth 20000 in
theorem gX1_add_X7_at : GoodIn wsX1_add (wsV RX1 42 RX7 yX7_at wsX7_at) := goodIn_app (goodIn_of _ (by decide +kernel)) ggX1_add_X7_at
set_option maxRecDepth 20000 in
theorem ggX1_firstClash_X7_at : GoodIn wsX1_firstClash wsX7_at := goodIn_r _ [8, 9, 77] rfl (by decide +kernel)
set_option maxRecDepth 20000 in
theorem gX1_firstClash_X7_at : GoodIn wsX1_firstClash (wsV RX1 42 RX7 yX7_at wsX7_at) := goodIn_app (goodIn_of _ (by decide +kernel)) ggX1_firstClash_X7_at
set_option maxRecDepth 20000 in
theorem ggX1_firstClash_X7_put : GoodIn wsX1_firstClash wsX7_put := goodIn_r _ [13, 9, 77] rfl (by decide +kernel)
set_option maxRecDepth 20000 in
theorem gX1_firstClash_X7_put : GoodIn wsX1_firstClash (wsV RX1 50 RX7 yX7_put wsX7_put) := goodIn_app (goodIn_of _ (by decide +kernel)) ggX1_firstClash_X7_put
set_option maxRecDepth 20000 in
theorem ggX1_firstClash_X1_leastTick : GoodIn wsX1_firstClash wsX1_leastTick := goodIn_r _ [18, 1, 19, 20, 21, 22, 4, 5, 6, 7, 8, 9, 23, 24, 25, 17, 26, 27, 70, 71, 72, 73, 74, 75, 76, 77] rfl (by decide +kernel)
set_option maxRecDepth 20000 in
theorem gX1_firstClash_X1_leastTick : GoodIn wsX1_firstClash (wsV RX1 54 RX1 yX1_leastTick wsX1_leastTick) := goodIn_app (goodIn_of _ (by decide +kernel)) ggX1_firstClash_X1_leastTick
set_option maxRecDepth 20000 in
theorem ggX1_firstClash_X1_isClashAt : GoodIn wsX1_firstClash wsX1_isClashAt := goodIn_r _ [31, 1, 32, 33, 34, 35, 36, 17, 37, 4, 5, 6, 7, 8, 9, 23, 24, 25, 26, 27, 38, 39, 40, 41, 42, 43, 44, 45, 46, 47, 48, 49, 50, 51, 52, 53, 54, 55, 56, 57, 58, 59, 60, 61, 62, 63, 64, 65, 70, 71, 72, 73, 74, 75, 76, 77, 78, 79, 80, 81] rfl (by decide +kernel)
set_option maxRecDepth 20000 in
theorem gX1_firstClash_X1_isClashAt : GoodIn wsX1_firstClash (wsV RX1 58 RX1 yX1_isClashAt wsX1_isClashAt) := goodIn_app (goodIn_of _ (by decide +kernel)) ggX1_firstClash_X1_isClashAt
set_option maxRecDepth 20000 in
theorem ggX1_firstClash_X1_goBehind : GoodIn wsX1_firstClash wsX1_goBehind := goodIn_r _ [69, 1, 34, 35, 36, 17, 37, 4, 5, 6, 7, 8, 9, 23, 24, 25, 26, 27, 10, 11, 12, 13, 70, 71, 72, 73, 74, 75, 76, 77] rfl (by decide +kernel)
set_option maxRecDepth 20000 in
theorem gX1_firstClash_X1_goBehind : GoodIn wsX1_firstClash (wsV RX1 62 RX1 yX1_goBehind wsX1_goBehind) := goodIn_app (goodIn_of _ (by decide +kernel)) ggX1_firstClash_X1_goBehind
set_option maxRecDepth 20000 in
theorem ggX1_leastTick_X7_at : GoodIn wsX1_leastTick wsX7_at := goodIn_r _ [10, 11, 25] rfl (by decide +kernel)
set_option maxRecDepth 20000 in
theorem gX1_leastTick_X7_at : GoodIn wsX1_leastTick (wsV RX1 42 RX7 yX7_at wsX7_at) := goodIn_app (goodIn_of _ (by decide +kernel)) ggX1_leastTick_X7_at
set_option maxRecDepth 20000 in
theorem ggX1_leastTick_X1_told : GoodIn wsX1_leastTick wsX1_told := goodIn_r _ [16, 17, 6, 7, 8, 9, 10, 11, 18, 19, 20, 21, 22, 23, 24, 25] rfl (by decide +kernel)
set_option maxRecDepth 20000 in
theorem gX1_leastTick_X1_told : GoodIn wsX1_leastTick (wsV RX1 46 RX1 yX1_told wsX1_told) := goodIn_app (goodIn_of _ (by decide +kernel)) ggX1_leastTick_X1_told
set_option maxRecDepth 20000 in
theorem ggX1_goBehind_X1_isThere : GoodIn wsX1_goBehind wsX1_isThere := goodIn_r _ [6, 1, 7, 8, 9, 10, 11, 12, 13, 14, 15, 5, 16, 17, 22, 23, 24, 25, 26, 27, 28, 29] rfl (by decide +kernel)
set_option maxRecDepth 20000 in
theorem gX1_goBehind_X1_isThere : GoodIn wsX1_goBehind (wsV RX1 70 RX1 yX1_isThere wsX1_isThere) := goodIn_app (goodIn_of _ (by decide +kernel)) ggX1_goBehind_X1_isThere
set_option maxRecDepth 20000 in
theorem ggX1_goBehind_X7_at : GoodIn wsX1_goBehind wsX7_at := goodIn_r _ [11, 12, 29] rfl (by decide +kernel)
set_option maxRecDepth 20000 in
theorem gX1_goBehind_X7_at : GoodIn wsX1_goBehind (wsV RX1 42 RX7 yX7_at wsX7_at) := goodIn_app (goodIn_of _ (by decide +kernel)) ggX1_goBehind_X7_at
set_option maxRecDepth 20000 in
theorem ggX1_goBehind_X1_told : GoodIn wsX1_goBehind wsX1_told := goodIn_r _ [16, 17, 7, 8, 9, 10, 11, 12, 22, 23, 24, 25, 26, 27, 28, 29] rfl (by decide +kernel)
set_option maxRecDepth 20000 in
theorem gX1_goBehind_X1_told : GoodIn wsX1_goBehind (wsV RX1 46 RX1 yX1_told wsX1_told) := goodIn_app (goodIn_of _ (by decide +kernel)) ggX1_goBehind_X1_told
set_option maxRecDepth 20000 in
theorem ggX1_goBehind_X7_put : GoodIn wsX1_goBehind wsX7_put := goodIn_r _ [21, 12, 29] rfl (by decide +kernel)
set_option maxRecDepth 20000 in
theorem gX1_goBehind_X7_put : GoodIn wsX1_goBehind (wsV RX1 50 RX7 yX7_put wsX7_put) := goodIn_app (goodIn_of _ (by decide +kernel)) ggX1_goBehind_X7_put
set_option maxRecDepth 20000 in
theorem ggX1_isClashAt_X1_isThere : GoodIn wsX1_isClashAt wsX1_isThere := goodIn_r _ [8, 1, 9, 10, 11, 12, 13, 14, 15, 16, 17, 7, 18, 19, 48, 49, 50, 51, 52, 53, 54, 55] rfl (by decide +kernel)
set_option maxRecDepth 20000 in
theorem gX1_isClashAt_X1_isThere : GoodIn wsX1_isClashAt (wsV RX1 70 RX1 yX1_isThere wsX1_isThere) := goodIn_app (goodIn_of _ (by decide +kernel)) ggX1_isClashAt_X1_isThere
set_option maxRecDepth 20000 in
theorem ggX1_isClashAt_X7_at : GoodIn wsX1_isClashAt wsX7_at := goodIn_r _ [13, 14, 55] rfl (by decide +kernel)
set_option maxRecDepth 20000 in
theorem gX1_isClashAt_X7_at : GoodIn wsX1_isClashAt (wsV RX1 42 RX7 yX7_at wsX7_at) := goodIn_app (goodIn_of _ (by decide +kernel)) ggX1_isClashAt_X7_at
set_option maxRecDepth 20000 in
theorem ggX1_isClashAt_X1_isInZone : GoodIn wsX1_isClashAt wsX1_isInZone := goodIn_r _ [23, 24, 25, 26, 7, 27, 19, 9, 10, 11, 12, 13, 14, 15, 16, 17, 18, 28, 29, 30, 31, 32, 33, 34, 35, 36, 37, 38, 48, 49, 50, 51, 52, 53, 54, 55, 56, 57, 58, 59] rfl (by decide +kernel)
set_option maxRecDepth 20000 in
theorem gX1_isClashAt_X1_isInZone : GoodIn wsX1_isClashAt (wsV RX1 74 RX1 yX1_isInZone wsX1_isInZone) := goodIn_app (goodIn_of _ (by decide +kernel)) ggX1_isClashAt_X1_isInZone
set_option maxRecDepth 20000 in
theorem ggX1_isClashAt_X1_partner : GoodIn wsX1_isClashAt wsX1_partner := goodIn_r _ [42, 1, 4, 5, 6, 7, 8, 9, 10, 11, 12, 13, 14, 15, 16, 17, 18, 19, 43, 44, 45, 46, 24, 25, 26, 27, 47, 37, 31, 38, 48, 49, 50, 51, 52, 53, 54, 56, 57, 58, 59, 55] rfl (by decide +kernel)
set_option maxRecDepth 20000 in
theorem gX1_isClashAt_X1_partner : GoodIn wsX1_isClashAt (wsV RX1 77 RX1 yX1_partner wsX1_partner) := goodIn_app (goodIn_of _ (by decide +kernel)) ggX1_isClashAt_X1_partner
set_option maxRecDepth 20000 in
theorem ggX1_partner_X1_isThere : GoodIn wsX1_partner wsX1_isThere := goodIn_r _ [6, 1, 7, 8, 9, 10, 11, 12, 13, 14, 15, 5, 16, 17, 30, 31, 32, 33, 34, 35, 36, 41] rfl (by decide +kernel)
set_option maxRecDepth 20000 in
theorem gX1_partner_X1_isThere : GoodIn wsX1_partner (wsV RX1 70 RX1 yX1_isThere wsX1_isThere) := goodIn_app (goodIn_of _ (by decide +kernel)) ggX1_partner_X1_isThere
set_option maxRecDepth 20000 in
theorem ggX1_partner_X7_at : GoodIn wsX1_partner wsX7_at := goodIn_r _ [11, 12, 41] rfl (by decide +kernel)
set_option maxRecDepth 20000 in
theorem gX1_partner_X7_at : GoodIn wsX1_partner (wsV RX1 42 RX7 yX7_at wsX7_at) := goodIn_app (goodIn_of _ (by decide +kernel)) ggX1_partner_X7_at
set_option maxRecDepth 20000 in
theorem ggX1_partner_X1_areNear : GoodIn wsX1_partner wsX1_areNear := goodIn_r _ [21, 22, 23, 24, 5, 25, 17, 7, 8, 9, 10, 11, 12, 13, 14, 15, 16, 26, 27, 28, 29, 30, 31, 32, 33, 34, 35, 36, 41] rfl (by decide +kernel)
set_option maxRecDepth 20000 in
theorem gX1_partner_X1_areNear : GoodIn wsX1_partner (wsV RX1 86 RX1 yX1_areNear wsX1_areNear) := goodIn_app (goodIn_of _ (by decide +kernel)) ggX1_partner_X1_areNear
set_option maxRecDepth 20000 in
theorem ggX1_isThere_X7_at : GoodIn wsX1_isThere wsX7_at := goodIn_r _ [6, 7, 21] rfl (by decide +kernel)
set_option maxRecDepth 20000 in
theorem gX1_isThere_X7_at : GoodIn wsX1_isThere (wsV RX1 42 RX7 yX7_at wsX7_at) := goodIn_app (goodIn_of _ (by decide +kernel)) ggX1_isThere_X7_at
set_option maxRecDepth 20000 in
theorem ggX1_isThere_X1_told : GoodIn wsX1_isThere wsX1_told := goodIn_r _ [12, 13, 2, 3, 4, 5, 6, 7, 14, 15, 16, 17, 18, 19, 20, 21] rfl (by decide +kernel)
set_option maxRecDepth 20000 in
theorem gX1_isThere_X1_told : GoodIn wsX1_isThere (wsV RX1 46 RX1 yX1_told wsX1_told) := goodIn_app (goodIn_of _ (by decide +kernel)) ggX1_isThere_X1_told
set_option maxRecDepth 20000 in
theorem ggX1_isInZone_X1_end : GoodIn wsX1_isInZone wsX1_end := goodIn_r _ [5, 6, 7, 8, 9, 10, 11, 12, 28, 29, 30, 31, 32, 33, 34, 35] rfl (by decide +kernel)
set_option maxRecDepth 20000 in
theorem gX1_isInZone_X1_end : GoodIn wsX1_isInZone (wsV RX1 90 RX1 yX1_end wsX1_end) := goodIn_app (goodIn_of _ (by decide +kernel)) ggX1_isInZone_X1_end
set_option maxRecDepth 20000 in
theorem ggX1_isInZone_X1_told : GoodIn wsX1_isInZone wsX1_told := goodIn_r _ [16, 6, 7, 8, 9, 10, 11, 12, 28, 29, 30, 31, 32, 33, 34, 35] rfl (by decide +kernel)
set_option maxRecDepth 20000 in
theorem gX1_isInZone_X1_told : GoodIn wsX1_isInZone (wsV RX1 46 RX1 yX1_told wsX1_told) := goodIn_app (goodIn_of _ (by decide +kernel)) ggX1_isInZone_X1_told
set_option maxRecDepth 20000 in
theorem ggX1_isInZone_X0_isInZone : GoodIn wsX1_isInZone wsX0_isInZone := goodIn_r _ [21, 22, 23, 24, 25, 26, 20, 27, 36, 37, 38, 39] rfl (by decide +kernel)
set_option maxRecDepth 20000 in
theorem gX1_isInZone_X0_isInZone : GoodIn wsX1_isInZone (wsV RX1 93 RX0 yX0_isInZone wsX0_isInZone) := goodIn_app (goodIn_of _ (by decide +kernel)) ggX1_isInZone_X0_isInZone
set_option maxRecDepth 20000 in
theorem ggX1_areNear_X1_end : GoodIn wsX1_areNear wsX1_end := goodIn_r _ [5, 6, 7, 8, 9, 10, 11, 12, 21, 22, 23, 24, 25, 26, 27, 28] rfl (by decide +kernel)
set_option maxRecDepth 20000 in
theorem gX1_areNear_X1_end : GoodIn wsX1_areNear (wsV RX1 90 RX1 yX1_end wsX1_end) := goodIn_app (goodIn_of _ (by decide +kernel)) ggX1_areNear_X1_end
set_option maxRecDepth 20000 in
theorem ggX1_areNear_X1_told : GoodIn wsX1_areNear wsX1_told := goodIn_r _ [16, 6, 7, 8, 9, 10, 11, 12, 21, 22, 23, 24, 25, 26, 27, 28] rfl (by decide +kernel)
set_option maxRecDepth 20000 in
theorem gX1_areNear_X1_told : GoodIn wsX1_areNear (wsV RX1 46 RX1 yX1_told wsX1_told) := goodIn_app (goodIn_of _ (by decide +kernel)) ggX1_areNear_X1_told
set_option maxRecDepth 20000 in
theorem ggX1_areNear_X0_isNearer : GoodIn wsX1_areNear wsX0_isNearer := goodIn_r _ [20] rfl (by decide +kernel)
set_option maxRecDepth 20000 in
theorem gX1_areNear_X0_isNearer : GoodIn wsX1_areNear (va_wsS RX1 96 yX0_isNearer wsX0_isNearer) := goodIn_app (goodIn_of _ (by decide +kernel)) ggX1_areNear_X0_isNearer
set_option maxRecDepth 20000 in
theorem ggX1_end_X7_at : GoodIn wsX1_end wsX7_at := goodIn_r _ [6, 7, 15] rfl (by decide +kernel)
set_option maxRecDepth 20000 in
theorem gX1_end_X7_at : GoodIn wsX1_end (wsV RX1 42 RX7 yX7_at wsX7_at) := goodIn_app (goodIn_of _ (by decide +kernel)) ggX1_end_X7_at
set_option maxRecDepth 20000 in
theorem ggX1_told_X7_at : GoodIn wsX1_told wsX7_at := goodIn_r _ [6, 7, 15] rfl (by decide +kernel)
set_option maxRecDepth 20000 in
theorem gX1_told_X7_at : GoodIn wsX1_told (wsV RX1 42 RX7 yX7_at wsX7_at) := goodIn_app (goodIn_of _ (by decide +kernel)) ggX1_told_X7_at
set_option maxRecDepth 20000 in
theorem ggX2_init_X5_init : GoodIn wsX2_init wsX5_init := goodIn_r _ [12, 13, 2, 3, 14, 15, 16, 17, 18, 19, 20, 21, 22, 23, 24, 31, 25, 26] rfl (by decide +kernel)
set_option maxRecDepth 20000 in
theorem gX2_init_X5_init_n11 : GoodIn wsX2_init (wsX5_init) := ggX2_init_X5_init
set_option maxRecDepth 20000 in
theorem ggX2_spare_X2_at : GoodIn wsX2_spare wsX2_at := goodIn_r _ [6, 7, 8, 9, 10, 11, 12, 13] rfl (by decide +kernel)
set_option maxRecDepth 20000 in
theorem gX2_spare_X2_at : GoodIn wsX2_spare (wsV RX2 29 RX2 yX2_at wsX2_at) := goodIn_app (goodIn_of _ (by decide +kernel)) ggX2_spare_X2_at
set_option maxRecDepth 20000 in
theorem ggX3_init_X7_init : GoodIn wsX3_init wsX7_init := goodIn_r _ [15, 16, 2, 3, 17, 18, 19] rfl (by decide +kernel)
set_option maxRecDepth 20000 in
theorem gX3_init_X7_init : GoodIn wsX3_init (wsX7_init) := ggX3_init_X7_init
set_option maxRecDepth 20000 in
theorem ggX3_settle_X4_size : GoodIn wsX3_settle wsX4_size := goodIn_r _ [13, 14, 85, 86, 87] rfl (by decide +kernel)
set_option maxRecDepth 20000 in
theorem gX3_settle_X4_size : GoodIn wsX3_settle (wsV RX3 36 RX4 yX4_size wsX4_size) := goodIn_app (goodIn_of _ (by decide +kernel)) ggX3_settle_X4_size
set_option maxRecDepth 20000 in
theorem ggX3_settle_X3_noteMeetings : GoodIn wsX3_settle wsX3_noteMeetings := goodIn_r _ [19, 1, 20, 21, 22, 23, 12, 24, 25, 3, 4, 5, 26, 27, 28, 29, 30, 31, 32, 33, 34, 35, 36, 37, 38, 39, 40, 41, 42, 43, 44, 45, 46, 47, 48, 49, 50, 51, 52, 79, 80, 81, 82, 83, 84, 85, 86, 87, 88] rfl (by decide +kernel)
set_option maxRecDepth 20000 in
theorem gX3_settle_X3_noteMeetings : GoodIn wsX3_settle (wsV RX3 47 RX3 yX3_noteMeetings wsX3_noteMeetings) := goodIn_app (goodIn_of _ (by decide +kernel)) ggX3_settle_X3_noteMeetings
set_option maxRecDepth 20000 in
theorem ggX3_settle_X3_doOthersFit : GoodIn wsX3_settle wsX3_doOthersFit := goodIn_r _ [56, 6, 1, 57, 58, 59, 18, 60, 61, 20, 62, 40, 41, 42, 43, 44, 79, 80, 81, 82, 83, 84, 88] rfl (by decide +kernel)
set_option maxRecDepth 20000 in
theorem gX3_settle_X3_doOthersFit : GoodIn wsX3_settle (wsV RX3 51 RX3 yX3_doOthersFit wsX3_doOthersFit) := goodIn_app (goodIn_of _ (by decide +kernel)) ggX3_settle_X3_doOthersFit
set_option maxRecDepth 20000 in
theorem ggX3_settle_X3_search : GoodIn wsX3_settle wsX3_search := goodIn_r _ [65, 7, 6, 61, 66, 67, 68, 18, 69, 8, 62, 40, 41, 42, 43, 44, 49, 50, 51, 52, 70, 71, 72, 73, 1, 57, 58, 59, 60, 20, 63, 64, 79, 80, 81, 82, 83, 84, 88] rfl (by decide +kernel)
set_option maxRecDepth 20000 in
theorem gX3_settle_X3_search : GoodIn wsX3_settle (va_wsS RX3 55 yX3_search wsX3_search) := goodIn_app (goodIn_of _ (by decide +kernel)) ggX3_settle_X3_search
set_option maxRecDepth 20000 in
theorem ggX3_settle_X7_at : GoodIn wsX3_settle wsX7_at := goodIn_r _ [43, 44, 88] rfl (by decide +kernel)
set_option maxRecDepth 20000 in
theorem gX3_settle_X7_at : GoodIn wsX3_settle (wsV RX3 59 RX7 yX7_at wsX7_at) := goodIn_app (goodIn_of _ (by decide +kernel)) ggX3_settle_X7_at
set_option maxRecDepth 20000 in
theorem ggX3_settle_X4_setDelay : GoodIn wsX3_settle wsX4_setDelay := goodIn_r _ [77, 38, 78, 50, 51, 42, 52, 44, 85, 86, 87, 88] rfl (by decide +kernel)
set_option maxRecDepth 20000 in
theorem gX3_settle_X4_setDelay : GoodIn wsX3_settle (wsV RX3 63 RX4 yX4_setDelay wsX4_setDelay) := goodIn_app (goodIn_of _ (by decide +kernel)) ggX3_settle_X4_setDelay
set_option maxRecDepth 20000 in
theorem ggX3_noteMeetings_X4_meet : GoodIn wsX3_noteMeetings wsX4_meet := goodIn_r _ [7, 8, 9, 10, 11, 12, 13, 14, 15, 16, 17, 18, 6, 19, 20, 21, 22, 23, 24, 25, 26, 27, 28, 29, 30, 31, 32, 33, 34, 45, 46, 47, 48] rfl (by decide +kernel)
set_option maxRecDepth 20000 in
theorem gX3_noteMeetings_X4_meet : GoodIn wsX3_noteMeetings (wsV RX3 67 RX4 yX4_meet wsX4_meet) := goodIn_app (goodIn_of _ (by decide +kernel)) ggX3_noteMeetings_X4_meet
set_option maxRecDepth 20000 in
theorem ggX3_noteMeetings_X7_put : GoodIn wsX3_noteMeetings wsX7_put := goodIn_r _ [38, 30, 48] rfl (by decide +kernel)
set_option maxRecDepth 20000 in
theorem gX3_noteMeetings_X7_put : GoodIn wsX3_noteMeetings (wsV RX3 71 RX7 yX7_put wsX7_put) := goodIn_app (goodIn_of _ (by decide +kernel)) ggX3_noteMeetings_X7_put
set_option maxRecDepth 20000 in
theorem ggX3_doOthersFit_X3_doMeet : GoodIn wsX3_doOthersFit wsX3_doMeet := goodIn_r _ [7, 8, 9, 10, 11, 12, 13, 14, 15, 16, 17, 18, 19, 20, 21, 22] rfl (by decide +kernel)
set_option maxRecDepth 20000 in
theorem gX3_doOthersFit_X3_doMeet : GoodIn wsX3_doOthersFit (wsV RX3 74 RX3 yX3_doMeet wsX3_doMeet) := goodIn_app (goodIn_of _ (by decide +kernel)) ggX3_doOthersFit_X3_doMeet
set_option maxRecDepth 20000 in
theorem ggX3_search_X3_keepTried : GoodIn wsX3_search wsX3_keepTried := goodIn_r _ [8, 1, 2, 9, 3, 10, 11, 12, 13, 14, 15, 16, 17, 18, 19, 32, 33, 34, 35, 36, 37, 38] rfl (by decide +kernel)
set_option maxRecDepth 20000 in
theorem gX3_search_X3_keepTried : GoodIn wsX3_search (wsV RX3 78 RX3 yX3_keepTried wsX3_keepTried) := goodIn_app (goodIn_of _ (by decide +kernel)) ggX3_search_X3_keepTried
set_option maxRecDepth 20000 in
theorem ggX3_search_X7_put : GoodIn wsX3_search wsX7_put := goodIn_r _ [19, 15, 38] rfl (by decide +kernel)
set_option maxRecDepth 20000 in
theorem gX3_search_X7_put : GoodIn wsX3_search (wsV RX3 71 RX7 yX7_put wsX7_put) := goodIn_app (goodIn_of _ (by decide +kernel)) ggX3_search_X7_put
set_option maxRecDepth 20000 in
theorem ggX3_search_X3_doesFit : GoodIn wsX3_search wsX3_doesFit := goodIn_r _ [23, 2, 24, 25, 26, 27, 7, 28, 3, 29, 10, 11, 12, 13, 14, 15, 32, 33, 34, 35, 36, 37, 38] rfl (by decide +kernel)
set_option maxRecDepth 20000 in
theorem gX3_search_X3_doesFit : GoodIn wsX3_search (wsV RX3 81 RX3 yX3_doesFit wsX3_doesFit) := goodIn_app (goodIn_of _ (by decide +kernel)) ggX3_search_X3_doesFit
set_option maxRecDepth 20000 in
theorem ggX3_search_X3_search : GoodIn wsX3_search wsX3_search := goodIn_r _ [0, 1, 2, 3, 4, 5, 6, 7, 8, 9, 10, 11, 12, 13, 14, 15, 16, 17, 18, 19, 20, 21, 22, 23, 24, 25, 26, 27, 28, 29, 30, 31, 32, 33, 34, 35, 36, 37, 38] rfl (by decide +kernel)
set_option maxRecDepth 20000 in
theorem gX3_search_X3_search : GoodIn wsX3_search (va_wsS RX3 55 yX3_search wsX3_search) := goodIn_app (goodIn_of _ (by decide +kernel)) ggX3_search_X3_search
set_option maxRecDepth 20000 in
theorem ggX3_keepTried_X7_at : GoodIn wsX3_keepTried wsX7_at := goodIn_r _ [9, 10, 21] rfl (by decide +kernel)
set_option maxRecDepth 20000 in
theorem gX3_keepTried_X7_at : GoodIn wsX3_keepTried (wsV RX3 59 RX7 yX7_at wsX7_at) := goodIn_app (goodIn_of _ (by decide +kernel)) ggX3_keepTried_X7_at
set_option maxRecDepth 20000 in
theorem ggX3_keepTried_X7_put : GoodIn wsX3_keepTried wsX7_put := goodIn_r _ [14, 10, 21] rfl (by decide +kernel)
set_option maxRecDepth 20000 in
theorem gX3_keepTried_X7_put : GoodIn wsX3_keepTried (wsV RX3 71 RX7 yX7_put wsX7_put) := goodIn_app (goodIn_of _ (by decide +kernel)) ggX3_keepTried_X7_put
set_option maxRecDepth 20000 in
theorem ggX3_doesFit_X3_doMeet : GoodIn wsX3_doesFit wsX3_doMeet := goodIn_r _ [7, 8, 9, 10, 11, 12, 13, 14, 15, 16, 17, 18, 19, 20, 21, 22] rfl (by decide +kernel)
set_option maxRecDepth 20000 in
theorem gX3_doesFit_X3_doMeet : GoodIn wsX3_doesFit (wsV RX3 74 RX3 yX3_doMeet wsX3_doMeet) := goodIn_app (goodIn_of _ (by decide +kernel)) ggX3_doesFit_X3_doMeet
set_option maxRecDepth 20000 in
theorem ggX3_doMeet_X7_at : GoodIn wsX3_doMeet wsX7_at := goodIn_r _ [7, 8, 15] rfl (by decide +kernel)
set_option maxRecDepth 20000 in
theorem gX3_doMeet_X7_at : GoodIn wsX3_doMeet (wsV RX3 59 RX7 yX7_at wsX7_at) := goodIn_app (goodIn_of _ (by decide +kernel)) ggX3_doMeet_X7_at
set_option maxRecDepth 20000 in
theorem ggX4_init_X7_init : GoodIn wsX4_init wsX7_init := goodIn_r _ [12, 13, 2, 3, 14, 15, 16] rfl (by decide +kernel)
set_option maxRecDepth 20000 in
theorem gX4_init_X7_init : GoodIn wsX4_init (wsX7_init) := ggX4_init_X7_init
set_option maxRecDepth 20000 in
theorem ggX4_goal_X7_at : GoodIn wsX4_goal wsX7_at := goodIn_r _ [6, 7, 11] rfl (by decide +kernel)
set_option maxRecDepth 20000 in
theorem gX4_goal_X7_at : GoodIn wsX4_goal (wsV RX4 27 RX7 yX7_at wsX7_at) := goodIn_app (goodIn_of _ (by decide +kernel)) ggX4_goal_X7_at
set_option maxRecDepth 20000 in
theorem ggX4_delayOf_X7_at : GoodIn wsX4_delayOf wsX7_at := goodIn_r _ [6, 7, 11] rfl (by decide +kernel)
set_option maxRecDepth 20000 in
theorem gX4_delayOf_X7_at : GoodIn wsX4_delayOf (wsV RX4 27 RX7 yX7_at wsX7_at) := goodIn_app (goodIn_of _ (by decide +kernel)) ggX4_delayOf_X7_at
set_option maxRecDepth 20000 in
theorem ggX4_setDelay_X7_put : GoodIn wsX4_setDelay wsX7_put := goodIn_r _ [6, 7, 11] rfl (by decide +kernel)
set_option maxRecDepth 20000 in
theorem gX4_setDelay_X7_put : GoodIn wsX4_setDelay (wsV RX4 31 RX7 yX7_put wsX7_put) := goodIn_app (goodIn_of _ (by decide +kernel)) ggX4_setDelay_X7_put
set_option maxRecDepth 20000 in
theorem ggX4_lead_X6_plan : GoodIn wsX4_lead wsX6_plan := goodIn_r _ [8, 9, 10, 11, 12, 13, 14, 15, 16, 17, 18, 19, 20, 21, 22, 23, 24, 25, 26, 27, 28, 29, 30, 31, 32, 33, 34, 35, 36, 37, 38, 7, 39, 40, 41, 42, 43, 44, 45, 46, 47, 48, 49, 50, 51, 52, 53, 54, 55, 56, 57, 58, 59, 60, 61, 62, 63, 64, 83, 84, 85, 86, 87, 88] rfl (by decide +kernel)
set_option maxRecDepth 20000 in
theorem gX4_lead_X6_plan : GoodIn wsX4_lead (wsV RX4 35 RX6 yX6_plan wsX6_plan) := goodIn_app (goodIn_of _ (by decide +kernel)) ggX4_lead_X6_plan
set_option maxRecDepth 20000 in
theorem ggX4_lead_X5_size : GoodIn wsX4_lead wsX5_size := goodIn_r _ [19, 20, 86, 87] rfl (by decide +kernel)
set_option maxRecDepth 20000 in
theorem gX4_lead_X5_size : GoodIn wsX4_lead (wsV RX4 41 RX5 yX5_size wsX5_size) := goodIn_app (goodIn_of _ (by decide +kernel)) ggX4_lead_X5_size
set_option maxRecDepth 20000 in
theorem ggX4_lead_X6_goal : GoodIn wsX4_lead wsX6_goal := goodIn_r _ [69, 60, 55, 27, 28, 29, 30, 31, 83, 84, 85, 88] rfl (by decide +kernel)
set_option maxRecDepth 20000 in
theorem gX4_lead_X6_goal : GoodIn wsX4_lead (wsV RX4 46 RX6 yX6_goal wsX6_goal) := goodIn_app (goodIn_of _ (by decide +kernel)) ggX4_lead_X6_goal
set_option maxRecDepth 20000 in
theorem ggX4_lead_X5_told : GoodIn wsX4_lead wsX5_told := goodIn_r _ [73, 25, 26, 27, 28, 29, 30, 31, 86, 87, 88] rfl (by decide +kernel)
set_option maxRecDepth 20000 in
theorem gX4_lead_X5_told : GoodIn wsX4_lead (wsV RX4 49 RX5 yX5_told wsX5_told) := goodIn_app (goodIn_of _ (by decide +kernel)) ggX4_lead_X5_told
set_option maxRecDepth 20000 in
theorem ggX4_lead_X7_put : GoodIn wsX4_lead wsX7_put := goodIn_r _ [35, 31, 88] rfl (by decide +kernel)
set_option maxRecDepth 20000 in
theorem gX4_lead_X7_put : GoodIn wsX4_lead (wsV RX4 31 RX7 yX7_put wsX7_put) := goodIn_app (goodIn_of _ (by decide +kernel)) ggX4_lead_X7_put
set_option maxRecDepth 20000 in
theorem ggX4_lead_X4_setDelay : GoodIn wsX4_lead wsX4_setDelay := goodIn_r _ [79, 3, 74, 33, 34, 29, 35, 31, 80, 81, 82, 88] rfl (by decide +kernel)
set_option maxRecDepth 20000 in
theorem gX4_lead_X4_setDelay : GoodIn wsX4_lead (wsV RX4 53 RX4 yX4_setDelay wsX4_setDelay) := goodIn_app (goodIn_of _ (by decide +kernel)) ggX4_lead_X4_setDelay
set_option maxRecDepth 20000 in
theorem ggX4_charge_X7_at : GoodIn wsX4_charge wsX7_at := goodIn_r _ [7, 8, 12] rfl (by decide +kernel)
set_option maxRecDepth 20000 in
theorem gX4_charge_X7_at : GoodIn wsX4_charge (wsV RX4 27 RX7 yX7_at wsX7_at) := goodIn_app (goodIn_of _ (by decide +kernel)) ggX4_charge_X7_at
set_option maxRecDepth 20000 in
theorem ggX4_isInZone_X7_at : GoodIn wsX4_isInZone wsX7_at := goodIn_r _ [6, 7, 22] rfl (by decide +kernel)
set_option maxRecDepth 20000 in
theorem gX4_isInZone_X7_at : GoodIn wsX4_isInZone (wsV RX4 27 RX7 yX7_at wsX7_at) := goodIn_app (goodIn_of _ (by decide +kernel)) ggX4_isInZone_X7_at
set_option maxRecDepth 20000 in
theorem ggX4_isInZone_X0_isInZone : GoodIn wsX4_isInZone wsX0_isInZone := goodIn_r _ [12, 13, 14, 15, 16, 17, 11, 18, 23, 24, 25, 26] rfl (by decide +kernel)
set_option maxRecDepth 20000 in
theorem gX4_isInZone_X0_isInZone : GoodIn wsX4_isInZone (wsV RX4 56 RX0 yX0_isInZone wsX0_isInZone) := goodIn_app (goodIn_of _ (by decide +kernel)) ggX4_isInZone_X0_isInZone
set_option maxRecDepth 20000 in
theorem ggX4_isAnyInZone_X4_isInZone : GoodIn wsX4_isAnyInZone wsX4_isInZone := goodIn_r _ [6, 7, 8, 9, 10, 11, 12, 13, 14, 15, 16, 17, 18, 19, 20, 21, 22, 23, 24, 25, 26, 27, 28, 29, 30, 31, 32] rfl (by decide +kernel)
set_option maxRecDepth 20000 in
theorem gX4_isAnyInZone_X4_isInZone : GoodIn wsX4_isAnyInZone (wsV RX4 62 RX4 yX4_isInZone wsX4_isInZone) := goodIn_app (goodIn_of _ (by decide +kernel)) ggX4_isAnyInZone_X4_isInZone
set_option maxRecDepth 20000 in
theorem ggX4_isClean_X4_delayOf : GoodIn wsX4_isClean wsX4_delayOf := goodIn_r _ [6, 7, 8, 9, 10, 11, 12, 13, 54, 55, 56, 61] rfl (by decide +kernel)
set_option maxRecDepth 20000 in
theorem gX4_isClean_X4_delayOf : GoodIn wsX4_isClean (wsV RX4 65 RX4 yX4_delayOf wsX4_delayOf) := goodIn_app (goodIn_of _ (by decide +kernel)) ggX4_isClean_X4_delayOf
set_option maxRecDepth 20000 in
theorem ggX4_isClean_X4_meet : GoodIn wsX4_isClean wsX4_meet := goodIn_r _ [17, 18, 19, 20, 21, 22, 23, 24, 25, 26, 27, 28, 5, 29, 30, 31, 32, 33, 7, 8, 9, 10, 11, 12, 13, 34, 35, 36, 37, 54, 55, 56, 61] rfl (by decide +kernel)
set_option maxRecDepth 20000 in
theorem gX4_isClean_X4_meet : GoodIn wsX4_isClean (wsV RX4 71 RX4 yX4_meet wsX4_meet) := goodIn_app (goodIn_of _ (by decide +kernel)) ggX4_isClean_X4_meet
set_option maxRecDepth 20000 in
theorem ggX4_isClean_X4_isAnyInZone : GoodIn wsX4_isClean wsX4_isAnyInZone := goodIn_r _ [41, 1, 42, 43, 44, 5, 45, 7, 8, 9, 10, 11, 12, 13, 46, 47, 48, 36, 49, 50, 51, 52, 53, 35, 37, 54, 55, 56, 61, 57, 58, 59, 60] rfl (by decide +kernel)
set_option maxRecDepth 20000 in
theorem gX4_isClean_X4_isAnyInZone : GoodIn wsX4_isClean (wsV RX4 74 RX4 yX4_isAnyInZone wsX4_isAnyInZone) := goodIn_app (goodIn_of _ (by decide +kernel)) ggX4_isClean_X4_isAnyInZone
set_option maxRecDepth 20000 in
theorem ggX4_meet_X4_meetBetween : GoodIn wsX4_meet wsX4_meetBetween := goodIn_r _ [13, 8, 14, 15, 16, 12, 17, 1, 2, 3, 4, 5, 6, 7, 18, 19, 20, 21, 22, 23, 24, 25, 26, 27, 28, 29, 30, 31, 32] rfl (by decide +kernel)
set_option maxRecDepth 20000 in
theorem gX4_meet_X4_meetBetween : GoodIn wsX4_meet (wsV RX4 86 RX4 yX4_meetBetween wsX4_meetBetween) := goodIn_app (goodIn_of _ (by decide +kernel)) ggX4_meet_X4_meetBetween
set_option maxRecDepth 20000 in
theorem ggX4_meetBetween_X4_apart : GoodIn wsX4_meetBetween wsX4_apart := goodIn_r _ [6, 1, 7, 8, 9, 10, 11, 12, 13, 14, 15, 16, 17, 18, 19, 20, 25, 26, 27, 28] rfl (by decide +kernel)
set_option maxRecDepth 20000 in
theorem gX4_meetBetween_X4_apart : GoodIn wsX4_meetBetween (wsV RX4 90 RX4 yX4_apart wsX4_apart) := goodIn_app (goodIn_of _ (by decide +kernel)) ggX4_meetBetween_X4_apart
set_option maxRecDepth 20000 in
theorem ggX4_meetBetween_X0_isNearer : GoodIn wsX4_meetBetween wsX0_isNearer := goodIn_r _ [24] rfl (by decide +kernel)
set_option maxRecDepth 20000 in
theorem gX4_meetBetween_X0_isNearer : GoodIn wsX4_meetBetween (va_wsS RX4 94 yX0_isNearer wsX0_isNearer) := goodIn_app (goodIn_of _ (by decide +kernel)) ggX4_meetBetween_X0_isNearer
set_option maxRecDepth 20000 in
theorem ggX4_apart_X7_at : GoodIn wsX4_apart wsX7_at := goodIn_r _ [14, 15, 19] rfl (by decide +kernel)
set_option maxRecDepth 20000 in
theorem gX4_apart_X7_at : GoodIn wsX4_apart (wsV RX4 27 RX7 yX7_at wsX7_at) := goodIn_app (goodIn_of _ (by decide +kernel)) ggX4_apart_X7_at
set_option maxRecDepth 20000 in
theorem ggX5_init_X7_init : GoodIn wsX5_init wsX7_init := goodIn_r _ [11, 12, 2, 3, 13, 14, 15] rfl (by decide +kernel)
set_option maxRecDepth 20000 in
theorem gX5_init_X7_init : GoodIn wsX5_init (wsX7_init) := ggX5_init_X7_init
set_option maxRecDepth 20000 in
theorem ggX5_add_X7_put : GoodIn wsX5_add wsX7_put := goodIn_r _ [7, 8, 11] rfl (by decide +kernel)
set_option maxRecDepth 20000 in
theorem gX5_add_X7_put : GoodIn wsX5_add (wsV RX5 24 RX7 yX7_put wsX7_put) := goodIn_app (goodIn_of _ (by decide +kernel)) ggX5_add_X7_put
set_option maxRecDepth 20000 in
theorem ggX5_told_X7_at : GoodIn wsX5_told wsX7_at := goodIn_r _ [6, 7, 10] rfl (by decide +kernel)
set_option maxRecDepth 20000 in
theorem gX5_told_X7_at : GoodIn wsX5_told (wsV RX5 28 RX7 yX7_at wsX7_at) := goodIn_app (goodIn_of _ (by decide +kernel)) ggX5_told_X7_at
set_option maxRecDepth 20000 in
theorem ggX5_way_X7_at : GoodIn wsX5_way wsX7_at := goodIn_r _ [6, 7, 10] rfl (by decide +kernel)
set_option maxRecDepth 20000 in
theorem gX5_way_X7_at : GoodIn wsX5_way (wsV RX5 28 RX7 yX7_at wsX7_at) := goodIn_app (goodIn_of _ (by decide +kernel)) ggX5_way_X7_at
set_option maxRecDepth 20000 in
theorem ggX5_leastWay_X5_way : GoodIn wsX5_leastWay wsX5_way := goodIn_r _ [11, 12, 13, 14, 15, 16, 17, 18, 19, 20, 21] rfl (by decide +kernel)
set_option maxRecDepth 20000 in
theorem gX5_leastWay_X5_way : GoodIn wsX5_leastWay (wsV RX5 35 RX5 yX5_way wsX5_way) := goodIn_app (goodIn_of _ (by decide +kernel)) ggX5_leastWay_X5_way
set_option maxRecDepth 20000 in
theorem ggX6_init_X7_init : GoodIn wsX6_init wsX7_init := goodIn_r _ [12, 13, 2, 3, 14, 15, 16] rfl (by decide +kernel)
set_option maxRecDepth 20000 in
theorem gX6_init_X7_init : GoodIn wsX6_init (wsX7_init) := ggX6_init_X7_init
set_option maxRecDepth 20000 in
theorem ggX6_goal_X7_at : GoodIn wsX6_goal wsX7_at := goodIn_r _ [6, 7, 11] rfl (by decide +kernel)
set_option maxRecDepth 20000 in
theorem gX6_goal_X7_at : GoodIn wsX6_goal (wsV RX6 26 RX7 yX7_at wsX7_at) := goodIn_app (goodIn_of _ (by decide +kernel)) ggX6_goal_X7_at
set_option maxRecDepth 20000 in
theorem ggX6_plan_X5_size : GoodIn wsX6_plan wsX5_size := goodIn_r _ [11, 12, 61, 62] rfl (by decide +kernel)
set_option maxRecDepth 20000 in
theorem gX6_plan_X5_size : GoodIn wsX6_plan (wsV RX6 30 RX5 yX5_size wsX5_size) := goodIn_app (goodIn_of _ (by decide +kernel)) ggX6_plan_X5_size
set_option maxRecDepth 20000 in
theorem ggX6_plan_X5_way : GoodIn wsX6_plan wsX5_way := goodIn_r _ [16, 17, 18, 19, 20, 21, 22, 23, 61, 62, 63] rfl (by decide +kernel)
set_option maxRecDepth 20000 in
theorem gX6_plan_X5_way : GoodIn wsX6_plan (wsV RX6 42 RX5 yX5_way wsX5_way) := goodIn_app (goodIn_of _ (by decide +kernel)) ggX6_plan_X5_way
set_option maxRecDepth 20000 in
theorem ggX6_plan_X7_put : GoodIn wsX6_plan wsX7_put := goodIn_r _ [27, 23, 63] rfl (by decide +kernel)
set_option maxRecDepth 20000 in
theorem gX6_plan_X7_put : GoodIn wsX6_plan (wsV RX6 46 RX7 yX7_put wsX7_put) := goodIn_app (goodIn_of _ (by decide +kernel)) ggX6_plan_X7_put
set_option maxRecDepth 20000 in
theorem ggX6_plan_X6_weigh : GoodIn wsX6_plan wsX6_weigh := goodIn_r _ [32, 6, 33, 1, 2, 3, 4, 24, 25, 26, 21, 27, 23, 34, 35, 36, 31, 37, 5, 38, 39, 40, 41, 42, 43, 44, 45, 46, 47, 48, 19, 20, 22, 58, 59, 60, 63] rfl (by decide +kernel)
set_option maxRecDepth 20000 in
theorem gX6_plan_X6_weigh : GoodIn wsX6_plan (wsV RX6 50 RX6 yX6_weigh wsX6_weigh) := goodIn_app (goodIn_of _ (by decide +kernel)) ggX6_plan_X6_weigh
set_option maxRecDepth 20000 in
theorem ggX6_plan_X6_choose : GoodIn wsX6_plan wsX6_choose := goodIn_r _ [52, 53, 54, 55, 56, 31, 57, 6, 34, 35, 36, 37, 5, 38, 39, 3, 40, 41, 42, 43, 44, 45, 46, 47, 48, 19, 20, 21, 22, 23, 24, 25, 26, 27, 58, 59, 60, 63] rfl (by decide +kernel)
set_option maxRecDepth 20000 in
theorem gX6_plan_X6_choose : GoodIn wsX6_plan (wsV RX6 53 RX6 yX6_choose wsX6_choose) := goodIn_app (goodIn_of _ (by decide +kernel)) ggX6_plan_X6_choose
set_option maxRecDepth 20000 in
theorem ggX6_plan_X7_at : GoodIn wsX6_plan wsX7_at := goodIn_r _ [22, 23, 63] rfl (by decide +kernel)
set_option maxRecDepth 20000 in
theorem gX6_plan_X7_at : GoodIn wsX6_plan (wsV RX6 26 RX7 yX7_at wsX7_at) := goodIn_app (goodIn_of _ (by decide +kernel)) ggX6_plan_X7_at
set_option maxRecDepth 20000 in
theorem ggX6_weigh_X7_put : GoodIn wsX6_weigh wsX7_put := goodIn_r _ [11, 12, 36] rfl (by decide +kernel)
set_option maxRecDepth 20000 in
theorem gX6_weigh_X7_put : GoodIn wsX6_weigh (wsV RX6 46 RX7 yX7_put wsX7_put) := goodIn_app (goodIn_of _ (by decide +kernel)) ggX6_weigh_X7_put
set_option maxRecDepth 20000 in
theorem ggX6_weigh_X6_needWith : GoodIn wsX6_weigh wsX6_needWith := goodIn_r _ [17, 18, 1, 19, 20, 5, 21, 22, 23, 24, 25, 26, 27, 28, 29, 30, 31, 10, 32, 12, 33, 34, 35, 36] rfl (by decide +kernel)
set_option maxRecDepth 20000 in
theorem gX6_weigh_X6_needWith : GoodIn wsX6_weigh (wsV RX6 57 RX6 yX6_needWith wsX6_needWith) := goodIn_app (goodIn_of _ (by decide +kernel)) ggX6_weigh_X6_needWith
set_option maxRecDepth 20000 in
theorem ggX6_choose_X6_leastGoal : GoodIn wsX6_choose wsX6_leastGoal := goodIn_r _ [6, 7, 8, 9, 10, 5, 11, 12, 13, 14, 15, 16, 17, 18, 19, 20, 21, 22, 23, 24, 25, 26, 27, 28, 29, 34, 35, 36, 37] rfl (by decide +kernel)
set_option maxRecDepth 20000 in
theorem gX6_choose_X6_leastGoal : GoodIn wsX6_choose (wsV RX6 60 RX6 yX6_leastGoal wsX6_leastGoal) := goodIn_app (goodIn_of _ (by decide +kernel)) ggX6_choose_X6_leastGoal
set_option maxRecDepth 20000 in
theorem ggX6_choose_X7_put : GoodIn wsX6_choose wsX7_put := goodIn_r _ [33, 29, 37] rfl (by decide +kernel)
set_option maxRecDepth 20000 in
theorem gX6_choose_X7_put : GoodIn wsX6_choose (wsV RX6 46 RX7 yX7_put wsX7_put) := goodIn_app (goodIn_of _ (by decide +kernel)) ggX6_choose_X7_put
set_option maxRecDepth 20000 in
theorem ggX6_leastGoal_X6_needWith : GoodIn wsX6_leastGoal wsX6_needWith := goodIn_r _ [6, 7, 1, 8, 9, 10, 11, 12, 13, 14, 15, 16, 17, 18, 19, 20, 21, 22, 23, 24, 25, 26, 27, 28] rfl (by decide +kernel)
set_option maxRecDepth 20000 in
theorem gX6_leastGoal_X6_needWith : GoodIn wsX6_leastGoal (wsV RX6 57 RX6 yX6_needWith wsX6_needWith) := goodIn_app (goodIn_of _ (by decide +kernel)) ggX6_leastGoal_X6_needWith
set_option maxRecDepth 20000 in
theorem ggX6_leastGoal_X7_at : GoodIn wsX6_leastGoal wsX7_at := goodIn_r _ [23, 24, 28] rfl (by decide +kernel)
set_option maxRecDepth 20000 in
theorem gX6_leastGoal_X7_at : GoodIn wsX6_leastGoal (wsV RX6 26 RX7 yX7_at wsX7_at) := goodIn_app (goodIn_of _ (by decide +kernel)) ggX6_leastGoal_X7_at
set_option maxRecDepth 20000 in
theorem ggX6_needWith_J6_bitCount_0f7a4 : GoodIn wsX6_needWith wsJ6_bitCount_0f7a4 := goodIn_r _ [10, 11, 12, 13] rfl (by decide +kernel)
set_option maxRecDepth 20000 in
theorem gX6_needWith_J6_bitCount_0f7a4 : GoodIn wsX6_needWith (va_wsS RX6 63 yJ6_bitCount_0f7a4 wsJ6_bitCount_0f7a4) := goodIn_app (goodIn_of _ (by decide +kernel)) ggX6_needWith_J6_bitCount_0f7a4
set_option maxRecDepth 20000 in
theorem ggX6_needWith_X7_at : GoodIn wsX6_needWith wsX7_at := goodIn_r _ [18, 19, 23] rfl (by decide +kernel)
set_option maxRecDepth 20000 in
theorem gX6_needWith_X7_at : GoodIn wsX6_needWith (wsV RX6 26 RX7 yX7_at wsX7_at) := goodIn_app (goodIn_of _ (by decide +kernel)) ggX6_needWith_X7_at
set_option maxRecDepth 20000 in
theorem ggX8_init_X4_init : GoodIn wsX8_init wsX4_init := goodIn_r _ [13, 14, 2, 3, 15, 16, 17, 18, 19, 20, 21, 22, 23, 24, 25, 26, 35, 27, 28, 29] rfl (by decide +kernel)
set_option maxRecDepth 20000 in
theorem gX8_init_X4_init_n9 : GoodIn wsX8_init (wsX4_init) := ggX8_init_X4_init
set_option maxRecDepth 20000 in
theorem ggX8_ticks_X4_ticks : GoodIn wsX8_ticks wsX4_ticks := goodIn_r _ [7, 8, 14, 15, 16] rfl (by decide +kernel)
set_option maxRecDepth 20000 in
theorem gX8_ticks_X4_ticks : GoodIn wsX8_ticks (wsV RX8 29 RX4 yX4_ticks wsX4_ticks) := goodIn_app (goodIn_of _ (by decide +kernel)) ggX8_ticks_X4_ticks
set_option maxRecDepth 20000 in
theorem ggX9_init_X8_init : GoodIn wsX9_init wsX8_init := goodIn_r _ [16, 17, 2, 3, 18, 19, 20, 21, 22, 23, 24, 25, 26, 27, 28, 29, 10, 11, 30, 31, 32, 33, 34, 35, 36, 37, 38, 51, 52, 53, 45, 46, 47, 48, 49, 50] rfl (by decide +kernel)
set_option maxRecDepth 20000 in
theorem gX9_init_X8_init_n17 : GoodIn wsX9_init (wsX8_init) := ggX9_init_X8_init
set_option maxRecDepth 20000 in
theorem ggX9_init_X7_init : GoodIn wsX9_init wsX7_init := goodIn_r _ [35, 36, 2, 3, 37, 38, 50] rfl (by decide +kernel)
set_option maxRecDepth 20000 in
theorem gX9_init_X7_init : GoodIn wsX9_init (wsX7_init) := ggX9_init_X7_init
set_option maxRecDepth 20000 in
theorem ggX9_spare_X9_at : GoodIn wsX9_spare wsX9_at := goodIn_r _ [6, 7, 8, 9, 10, 11, 12, 13] rfl (by decide +kernel)
set_option maxRecDepth 20000 in
theorem gX9_spare_X9_at : GoodIn wsX9_spare (wsV RX9 38 RX9 yX9_at wsX9_at) := goodIn_app (goodIn_of _ (by decide +kernel)) ggX9_spare_X9_at
set_option maxRecDepth 20000 in
theorem ggX9_load_X7_put : GoodIn wsX9_load wsX7_put := goodIn_r _ [6, 7, 13] rfl (by decide +kernel)
set_option maxRecDepth 20000 in
theorem gX9_load_X7_put : GoodIn wsX9_load (wsV RX9 42 RX7 yX7_put wsX7_put) := goodIn_app (goodIn_of _ (by decide +kernel)) ggX9_load_X7_put
set_option maxRecDepth 20000 in
theorem ggX9_lastFigure_X9_at : GoodIn wsX9_lastFigure wsX9_at := goodIn_r _ [6, 7, 8, 9, 10, 11, 12, 13] rfl (by decide +kernel)
set_option maxRecDepth 20000 in
theorem gX9_lastFigure_X9_at : GoodIn wsX9_lastFigure (wsV RX9 38 RX9 yX9_at wsX9_at) := goodIn_app (goodIn_of _ (by decide +kernel)) ggX9_lastFigure_X9_at
set_option maxRecDepth 20000 in
theorem ggX9_place_X9_at : GoodIn wsX9_place wsX9_at := goodIn_r _ [6, 7, 8, 21, 22, 23, 24, 25] rfl (by decide +kernel)
set_option maxRecDepth 20000 in
theorem gX9_place_X9_at : GoodIn wsX9_place (wsV RX9 38 RX9 yX9_at wsX9_at) := goodIn_app (goodIn_of _ (by decide +kernel)) ggX9_place_X9_at
set_option maxRecDepth 20000 in
theorem ggX9_place_X4_goal : GoodIn wsX9_place wsX4_goal := goodIn_r _ [13, 14, 15, 16, 17, 18, 19, 20, 31, 32, 33, 34] rfl (by decide +kernel)
set_option maxRecDepth 20000 in
theorem gX9_place_X4_goal : GoodIn wsX9_place (wsV RX9 53 RX4 yX4_goal wsX4_goal) := goodIn_app (goodIn_of _ (by decide +kernel)) ggX9_place_X4_goal
set_option maxRecDepth 20000 in
theorem ggX9_pad_X9_at : GoodIn wsX9_pad wsX9_at := goodIn_r _ [6, 7, 8, 25, 26, 27, 28, 29] rfl (by decide +kernel)
set_option maxRecDepth 20000 in
theorem gX9_pad_X9_at : GoodIn wsX9_pad (wsV RX9 38 RX9 yX9_at wsX9_at) := goodIn_app (goodIn_of _ (by decide +kernel)) ggX9_pad_X9_at
set_option maxRecDepth 20000 in
theorem ggX9_pad_X9_place : GoodIn wsX9_pad wsX9_place := goodIn_r _ [12, 1, 2, 3, 4, 5, 6, 7, 8, 13, 14, 15, 16, 17, 18, 19, 20, 21, 22, 23, 24, 25, 26, 27, 28, 29, 30, 31, 32, 33, 34, 35, 36, 37, 38] rfl (by decide +kernel)
set_option maxRecDepth 20000 in
theorem gX9_pad_X9_place : GoodIn wsX9_pad (wsV RX9 62 RX9 yX9_place wsX9_place) := goodIn_app (goodIn_of _ (by decide +kernel)) ggX9_pad_X9_place
set_option maxRecDepth 20000 in
theorem ggX9_pad_X4_goal : GoodIn wsX9_pad wsX4_goal := goodIn_r _ [17, 18, 19, 20, 21, 22, 23, 24, 35, 36, 37, 38] rfl (by decide +kernel)
set_option maxRecDepth 20000 in
theorem gX9_pad_X4_goal : GoodIn wsX9_pad (wsV RX9 53 RX4 yX4_goal wsX4_goal) := goodIn_app (goodIn_of _ (by decide +kernel)) ggX9_pad_X4_goal
set_option maxRecDepth 20000 in
theorem ggX9_ticks_X9_at : GoodIn wsX9_ticks wsX9_at := goodIn_r _ [6, 7, 8, 23, 24, 25, 26, 27] rfl (by decide +kernel)
set_option maxRecDepth 20000 in
theorem gX9_ticks_X9_at : GoodIn wsX9_ticks (wsV RX9 38 RX9 yX9_at wsX9_at) := goodIn_app (goodIn_of _ (by decide +kernel)) ggX9_ticks_X9_at
set_option maxRecDepth 20000 in
theorem ggX9_ticks_X8_ticks : GoodIn wsX9_ticks wsX8_ticks := goodIn_r _ [13, 14, 15, 16, 17, 18, 19, 20, 21, 28, 29, 30, 31, 32, 33, 34, 35] rfl (by decide +kernel)
set_option maxRecDepth 20000 in
theorem gX9_ticks_X8_ticks : GoodIn wsX9_ticks (wsV RX9 66 RX8 yX8_ticks wsX8_ticks) := goodIn_app (goodIn_of _ (by decide +kernel)) ggX9_ticks_X8_ticks
set_option maxRecDepth 20000 in
theorem ggX9_ticks_X4_ticks : GoodIn wsX9_ticks wsX4_ticks := goodIn_r _ [20, 21, 33, 34, 35] rfl (by decide +kernel)
set_option maxRecDepth 20000 in
theorem gX9_ticks_X4_ticks : GoodIn wsX9_ticks (wsV RX9 70 RX4 yX4_ticks wsX4_ticks) := goodIn_app (goodIn_of _ (by decide +kernel)) ggX9_ticks_X4_ticks
set_option maxRecDepth 20000 in
theorem ggX9_chargeLeft_X7_at : GoodIn wsX9_chargeLeft wsX7_at := goodIn_r _ [7, 8, 38] rfl (by decide +kernel)
set_option maxRecDepth 20000 in
theorem gX9_chargeLeft_X7_at : GoodIn wsX9_chargeLeft (wsV RX9 71 RX7 yX7_at wsX7_at) := goodIn_app (goodIn_of _ (by decide +kernel)) ggX9_chargeLeft_X7_at
set_option maxRecDepth 20000 in
theorem ggX9_chargeLeft_X9_at : GoodIn wsX9_chargeLeft wsX9_at := goodIn_r _ [13, 14, 15, 28, 29, 30, 31, 32] rfl (by decide +kernel)
set_option maxRecDepth 20000 in
theorem gX9_chargeLeft_X9_at : GoodIn wsX9_chargeLeft (wsV RX9 38 RX9 yX9_at wsX9_at) := goodIn_app (goodIn_of _ (by decide +kernel)) ggX9_chargeLeft_X9_at
set_option maxRecDepth 20000 in
theorem ggX9_chargeLeft_X4_charge : GoodIn wsX9_chargeLeft wsX4_charge := goodIn_r _ [20, 21, 22, 23, 4, 5, 6, 7, 8, 39, 40, 41, 38] rfl (by decide +kernel)
set_option maxRecDepth 20000 in
theorem gX9_chargeLeft_X4_charge : GoodIn wsX9_chargeLeft (wsV RX9 73 RX4 yX4_charge wsX4_charge) := goodIn_app (goodIn_of _ (by decide +kernel)) ggX9_chargeLeft_X4_charge
set_option maxRecDepth 20000 in
theorem ggX9_chargeLeft_X4_goal : GoodIn wsX9_chargeLeft wsX4_goal := goodIn_r _ [27, 21, 23, 4, 5, 6, 7, 8, 39, 40, 41, 38] rfl (by decide +kernel)
set_option maxRecDepth 20000 in
theorem gX9_chargeLeft_X4_goal : GoodIn wsX9_chargeLeft (wsV RX9 53 RX4 yX4_goal wsX4_goal) := goodIn_app (goodIn_of _ (by decide +kernel)) ggX9_chargeLeft_X4_goal
set_option maxRecDepth 20000 in
theorem ggX9_light_X9_at : GoodIn wsX9_light wsX9_at := goodIn_r _ [6, 7, 8, 26, 27, 28, 29, 30] rfl (by decide +kernel)
set_option maxRecDepth 20000 in
theorem gX9_light_X9_at : GoodIn wsX9_light (wsV RX9 38 RX9 yX9_at wsX9_at) := goodIn_app (goodIn_of _ (by decide +kernel)) ggX9_light_X9_at
set_option maxRecDepth 20000 in
theorem ggX9_light_X4_ticks : GoodIn wsX9_light wsX4_ticks := goodIn_r _ [13, 14, 36, 37, 38] rfl (by decide +kernel)
set_option maxRecDepth 20000 in
theorem gX9_light_X4_ticks : GoodIn wsX9_light (wsV RX9 70 RX4 yX4_ticks wsX4_ticks) := goodIn_app (goodIn_of _ (by decide +kernel)) ggX9_light_X4_ticks
set_option maxRecDepth 20000 in
theorem ggX9_light_X9_fade : GoodIn wsX9_light wsX9_fade := goodIn_r _ [17] rfl (by decide +kernel)
set_option maxRecDepth 20000 in
theorem gX9_light_X9_fade : GoodIn wsX9_light (va_wsS RX9 82 yX9_fade wsX9_fade) := goodIn_app (goodIn_of _ (by decide +kernel)) ggX9_light_X9_fade
set_option maxRecDepth 20000 in
theorem ggX9_light_X8_ticks : GoodIn wsX9_light wsX8_ticks := goodIn_r _ [22, 23, 24, 25, 10, 11, 12, 13, 14, 31, 32, 33, 34, 35, 36, 37, 38] rfl (by decide +kernel)
set_option maxRecDepth 20000 in
theorem gX9_light_X8_ticks : GoodIn wsX9_light (wsV RX9 66 RX8 yX8_ticks wsX8_ticks) := goodIn_app (goodIn_of _ (by decide +kernel)) ggX9_light_X8_ticks
set_option maxRecDepth 20000 in
theorem ggX10_init_X7_init : GoodIn wsX10_init wsX7_init := goodIn_r _ [13, 14, 2, 3, 15, 16, 17] rfl (by decide +kernel)
set_option maxRecDepth 20000 in
theorem gX10_init_X7_init : GoodIn wsX10_init (wsX7_init) := ggX10_init_X7_init
set_option maxRecDepth 20000 in
theorem ggX10_add_X7_put : GoodIn wsX10_add wsX7_put := goodIn_r _ [8, 9, 14] rfl (by decide +kernel)
set_option maxRecDepth 20000 in
theorem gX10_add_X7_put : GoodIn wsX10_add (wsV RX10 33 RX7 yX7_put wsX7_put) := goodIn_app (goodIn_of _ (by decide +kernel)) ggX10_add_X7_put
set_option maxRecDepth 20000 in
theorem ggX10_read_X5_empty : GoodIn wsX10_read wsX5_empty := goodIn_r _ [8, 9, 54, 55] rfl (by decide +kernel)
set_option maxRecDepth 20000 in
theorem gX10_read_X5_empty : GoodIn wsX10_read (wsV RX10 37 RX5 yX5_empty wsX5_empty) := goodIn_app (goodIn_of _ (by decide +kernel)) ggX10_read_X5_empty
set_option maxRecDepth 20000 in
theorem ggX10_read_X10_readPoint : GoodIn wsX10_read wsX10_readPoint := goodIn_r _ [14, 2, 15, 16, 17, 13, 18, 1, 19, 20, 21, 22, 3, 23, 24, 25, 26, 27, 28, 29, 30, 31, 32, 33, 34, 35, 36, 37, 38, 39, 40, 41, 42, 43, 7, 44, 9, 45, 46, 47, 48, 49, 50, 51, 52, 53, 56, 54, 55] rfl (by decide +kernel)
set_option maxRecDepth 20000 in
theorem gX10_read_X10_readPoint : GoodIn wsX10_read (wsV RX10 42 RX10 yX10_readPoint wsX10_readPoint) := goodIn_app (goodIn_of _ (by decide +kernel)) ggX10_read_X10_readPoint
set_option maxRecDepth 20000 in
theorem ggX10_read_X10_byteHere : GoodIn wsX10_read wsX10_byteHere := goodIn_r _ [22, 1, 3, 23, 24, 25, 26, 27, 28, 29, 50, 51, 52, 53, 56] rfl (by decide +kernel)
set_option maxRecDepth 20000 in
theorem gX10_read_X10_byteHere : GoodIn wsX10_read (wsV RX10 46 RX10 yX10_byteHere wsX10_byteHere) := goodIn_app (goodIn_of _ (by decide +kernel)) ggX10_read_X10_byteHere
set_option maxRecDepth 20000 in
theorem ggX10_readPoint_X10_readNumber : GoodIn wsX10_readPoint wsX10_readNumber := goodIn_r _ [6, 1, 7, 8, 9, 10, 5, 11, 12, 13, 14, 15, 16, 17, 18, 19, 20, 21, 22, 23, 24, 25, 26, 42, 43, 44, 45, 46] rfl (by decide +kernel)
set_option maxRecDepth 20000 in
theorem gX10_readPoint_X10_readNumber : GoodIn wsX10_readPoint (wsV RX10 50 RX10 yX10_readNumber wsX10_readNumber) := goodIn_app (goodIn_of _ (by decide +kernel)) ggX10_readPoint_X10_readNumber
set_option maxRecDepth 20000 in
theorem ggX10_readPoint_X10_readWorth : GoodIn wsX10_readPoint wsX10_readWorth := goodIn_r _ [30, 1, 7, 8, 9, 10, 5, 11, 12, 13, 14, 15, 16, 17, 18, 19, 24, 25, 26, 42, 43, 44, 45, 46] rfl (by decide +kernel)
set_option maxRecDepth 20000 in
theorem gX10_readPoint_X10_readWorth : GoodIn wsX10_readPoint (wsV RX10 54 RX10 yX10_readWorth wsX10_readWorth) := goodIn_app (goodIn_of _ (by decide +kernel)) ggX10_readPoint_X10_readWorth
set_option maxRecDepth 20000 in
theorem ggX10_readPoint_X5_add : GoodIn wsX10_readPoint wsX5_add := goodIn_r _ [35, 36, 37, 38, 39, 40, 17, 41, 19, 47, 48, 46] rfl (by decide +kernel)
set_option maxRecDepth 20000 in
theorem gX10_readPoint_X5_add : GoodIn wsX10_readPoint (wsV RX10 57 RX5 yX5_add wsX5_add) := goodIn_app (goodIn_of _ (by decide +kernel)) ggX10_readPoint_X5_add
set_option maxRecDepth 20000 in
theorem ggX10_readNumber_X10_byteHere : GoodIn wsX10_readNumber wsX10_byteHere := goodIn_r _ [7, 2, 8, 9, 10, 11, 12, 13, 14, 15, 23, 24, 25, 26, 27] rfl (by decide +kernel)
set_option maxRecDepth 20000 in
theorem gX10_readNumber_X10_byteHere : GoodIn wsX10_readNumber (wsV RX10 46 RX10 yX10_byteHere wsX10_byteHere) := goodIn_app (goodIn_of _ (by decide +kernel)) ggX10_readNumber_X10_byteHere
set_option maxRecDepth 20000 in
theorem ggX10_readNumber_X10_readDigits : GoodIn wsX10_readNumber wsX10_readDigits := goodIn_r _ [19, 1, 2, 3, 4, 5, 6, 7, 8, 9, 10, 11, 12, 13, 14, 15, 20, 21, 22, 23, 24, 25, 26, 27] rfl (by decide +kernel)
set_option maxRecDepth 20000 in
theorem gX10_readNumber_X10_readDigits : GoodIn wsX10_readNumber (wsV RX10 61 RX10 yX10_readDigits wsX10_readDigits) := goodIn_app (goodIn_of _ (by decide +kernel)) ggX10_readNumber_X10_readDigits
set_option maxRecDepth 20000 in
theorem ggX10_readDigits_X10_byteHere : GoodIn wsX10_readDigits wsX10_byteHere := goodIn_r _ [7, 2, 8, 9, 10, 11, 12, 13, 14, 15, 19, 20, 21, 22, 23] rfl (by decide +kernel)
set_option maxRecDepth 20000 in
theorem gX10_readDigits_X10_byteHere : GoodIn wsX10_readDigits (wsV RX10 46 RX10 yX10_byteHere wsX10_byteHere) := goodIn_app (goodIn_of _ (by decide +kernel)) ggX10_readDigits_X10_byteHere
set_option maxRecDepth 20000 in
theorem ggX10_readDigits_X10_digitOf : GoodIn wsX10_readDigits wsX10_digitOf := goodIn_r _ [18] rfl (by decide +kernel)
set_option maxRecDepth 20000 in
theorem gX10_readDigits_X10_digitOf : GoodIn wsX10_readDigits (va_wsS RX10 65 yX10_digitOf wsX10_digitOf) := goodIn_app (goodIn_of _ (by decide +kernel)) ggX10_readDigits_X10_digitOf
set_option maxRecDepth 20000 in
theorem ggX10_readWorth_X10_byteHere : GoodIn wsX10_readWorth wsX10_byteHere := goodIn_r _ [7, 2, 8, 9, 10, 11, 12, 13, 14, 15, 19, 20, 21, 22, 23] rfl (by decide +kernel)
set_option maxRecDepth 20000 in
theorem gX10_readWorth_X10_byteHere : GoodIn wsX10_readWorth (wsV RX10 46 RX10 yX10_byteHere wsX10_byteHere) := goodIn_app (goodIn_of _ (by decide +kernel)) ggX10_readWorth_X10_byteHere
set_option maxRecDepth 20000 in
theorem ggX10_readWorth_X10_digitOf : GoodIn wsX10_readWorth wsX10_digitOf := goodIn_r _ [18] rfl (by decide +kernel)
set_option maxRecDepth 20000 in
theorem gX10_readWorth_X10_digitOf : GoodIn wsX10_readWorth (va_wsS RX10 65 yX10_digitOf wsX10_digitOf) := goodIn_app (goodIn_of _ (by decide +kernel)) ggX10_readWorth_X10_digitOf
set_option maxRecDepth 20000 in
theorem ggX10_byteHere_X7_at : GoodIn wsX10_byteHere wsX7_at := goodIn_r _ [8, 9, 14] rfl (by decide +kernel)
set_option maxRecDepth 20000 in
theorem gX10_byteHere_X7_at : GoodIn wsX10_byteHere (wsV RX10 69 RX7 yX7_at wsX7_at) := goodIn_app (goodIn_of _ (by decide +kernel)) ggX10_byteHere_X7_at
set_option maxRecDepth 20000 in
theorem ggX11_init_X10_init : GoodIn wsX11_init wsX10_init := goodIn_r _ [37, 38, 2, 3, 39, 40, 41, 42, 43, 44, 45, 46, 47, 48, 49, 50, 51, 188, 144, 145, 146, 147] rfl (by decide +kernel)
set_option maxRecDepth 20000 in
theorem gX11_init_X10_init_n9 : GoodIn wsX11_init (wsX10_init) := ggX11_init_X10_init
set_option maxRecDepth 20000 in
theorem ggX11_init_X2_init : GoodIn wsX11_init wsX2_init := goodIn_r _ [54, 55, 2, 3, 56, 57, 58, 59, 60, 61, 62, 63, 64, 65, 66, 40, 41, 67, 68, 69, 47, 48, 49, 50, 51, 189, 190, 156, 157, 158, 159, 188] rfl (by decide +kernel)
set_option maxRecDepth 20000 in
theorem gX11_init_X2_init : GoodIn wsX11_init (wsX2_init) := ggX11_init_X2_init
set_option maxRecDepth 20000 in
theorem ggX11_init_X0_init : GoodIn wsX11_init wsX0_init := goodIn_r _ [71, 72, 2, 3, 73, 74, 75, 76, 160, 161, 162, 163] rfl (by decide +kernel)
set_option maxRecDepth 20000 in
theorem gX11_init_X0_init_n25 : GoodIn wsX11_init (wsX0_init) := ggX11_init_X0_init
set_option maxRecDepth 20000 in
theorem ggX11_init_X6_init : GoodIn wsX11_init wsX6_init := goodIn_r _ [78, 79, 2, 3, 80, 40, 41, 81, 82, 83, 84, 47, 48, 49, 50, 51, 188, 164, 165, 166] rfl (by decide +kernel)
set_option maxRecDepth 20000 in
theorem gX11_init_X6_init_n32 : GoodIn wsX11_init (wsX6_init) := ggX11_init_X6_init
set_option maxRecDepth 20000 in
theorem ggX11_init_X4_init : GoodIn wsX11_init wsX4_init := goodIn_r _ [86, 87, 2, 3, 88, 40, 41, 89, 90, 91, 92, 47, 48, 49, 50, 51, 188, 167, 168, 169] rfl (by decide +kernel)
set_option maxRecDepth 20000 in
theorem gX11_init_X4_init_n39 : GoodIn wsX11_init (wsX4_init) := ggX11_init_X4_init
set_option maxRecDepth 20000 in
theorem ggX11_init_X3_init : GoodIn wsX11_init wsX3_init := goodIn_r _ [94, 95, 2, 3, 96, 40, 41, 97, 98, 99, 100, 101, 102, 103, 47, 48, 49, 50, 51, 188, 170, 171, 172, 173, 174, 175] rfl (by decide +kernel)
set_option maxRecDepth 20000 in
theorem gX11_init_X3_init_n46 : GoodIn wsX11_init (wsX3_init) := ggX11_init_X3_init
set_option maxRecDepth 20000 in
theorem ggX11_init_X9_init : GoodIn wsX11_init wsX9_init := goodIn_r _ [106, 107, 2, 3, 108, 109, 110, 111, 112, 113, 40, 41, 114, 115, 116, 117, 118, 119, 120, 21, 22, 121, 122, 123, 124, 125, 85, 86, 87, 88, 89, 90, 91, 92, 47, 48, 49, 50, 51, 126, 176, 177, 178, 179, 180, 191, 192, 193, 194, 195, 188, 167, 168, 169] rfl (by decide +kernel)
set_option maxRecDepth 20000 in
theorem gX11_init_X9_init : GoodIn wsX11_init (wsX9_init) := ggX11_init_X9_init
set_option maxRecDepth 20000 in
theorem ggX11_init_X1_init : GoodIn wsX11_init wsX1_init := goodIn_r _ [129, 130, 2, 3, 131, 40, 41, 132, 133, 134, 135, 136, 137, 138, 139, 47, 48, 49, 50, 51, 140, 141, 142, 143, 188, 181, 182, 183, 184, 185, 186, 187] rfl (by decide +kernel)
set_option maxRecDepth 20000 in
theorem gX11_init_X1_init : GoodIn wsX11_init (wsX1_init) := ggX11_init_X1_init
set_option maxRecDepth 20000 in
theorem ggX11_flyer_X11_isAcross : GoodIn wsX11_flyer wsX11_isAcross := goodIn_r _ [7, 8, 9, 6, 10] rfl (by decide +kernel)
set_option maxRecDepth 20000 in
theorem gX11_flyer_X11_isAcross : GoodIn wsX11_flyer (va_wsS RX11 65 yX11_isAcross wsX11_isAcross) := goodIn_app (goodIn_of _ (by decide +kernel)) ggX11_flyer_X11_isAcross
set_option maxRecDepth 20000 in
theorem ggX11_flyer_X11_isWithin : GoodIn wsX11_flyer wsX11_isWithin := goodIn_r _ [10] rfl (by decide +kernel)
set_option maxRecDepth 20000 in
theorem gX11_flyer_X11_isWithin : GoodIn wsX11_flyer (va_wsS RX11 70 yX11_isWithin wsX11_isWithin) := goodIn_app (goodIn_of _ (by decide +kernel)) ggX11_flyer_X11_isWithin
set_option maxRecDepth 20000 in
theorem ggX11_flyer_X9_size : GoodIn wsX11_flyer wsX9_size := goodIn_r _ [15, 16, 60, 61, 62, 63, 64] rfl (by decide +kernel)
set_option maxRecDepth 20000 in
theorem gX11_flyer_X9_size : GoodIn wsX11_flyer (wsV RX11 74 RX9 yX9_size wsX9_size) := goodIn_app (goodIn_of _ (by decide +kernel)) ggX11_flyer_X9_size
set_option maxRecDepth 20000 in
theorem ggX11_flyer_X11_flyers : GoodIn wsX11_flyer wsX11_flyers := goodIn_r _ [20, 3, 21, 22, 23, 24, 25, 26, 27, 28, 29, 30, 31, 32, 33, 34, 52, 53, 54, 55, 56, 57, 58, 59, 65, 66, 67, 68, 69, 70] rfl (by decide +kernel)
set_option maxRecDepth 20000 in
theorem gX11_flyer_X11_flyers : GoodIn wsX11_flyer (wsV RX11 78 RX11 yX11_flyers wsX11_flyers) := goodIn_app (goodIn_of _ (by decide +kernel)) ggX11_flyer_X11_flyers
set_option maxRecDepth 20000 in
theorem ggX11_flyer_X2_at : GoodIn wsX11_flyer wsX2_at := goodIn_r _ [25, 26, 27, 28, 65, 66, 67, 68] rfl (by decide +kernel)
set_option maxRecDepth 20000 in
theorem gX11_flyer_X2_at : GoodIn wsX11_flyer (wsV RX11 81 RX2 yX2_at wsX2_at) := goodIn_app (goodIn_of _ (by decide +kernel)) ggX11_flyer_X2_at
set_option maxRecDepth 20000 in
theorem ggX11_flyer_X5_add : GoodIn wsX11_flyer wsX5_add := goodIn_r _ [38, 34, 39, 40, 41, 42, 43, 44, 45, 69, 70, 71] rfl (by decide +kernel)
set_option maxRecDepth 20000 in
theorem gX11_flyer_X5_add : GoodIn wsX11_flyer (wsV RX11 85 RX5 yX5_add wsX5_add) := goodIn_app (goodIn_of _ (by decide +kernel)) ggX11_flyer_X5_add
set_option maxRecDepth 20000 in
theorem ggX11_flyer_X9_load : GoodIn wsX11_flyer wsX9_load := goodIn_r _ [49, 50, 51, 41, 42, 43, 44, 45, 60, 61, 62, 63, 64, 71] rfl (by decide +kernel)
set_option maxRecDepth 20000 in
theorem gX11_flyer_X9_load : GoodIn wsX11_flyer (wsV RX11 91 RX9 yX9_load wsX9_load) := goodIn_app (goodIn_of _ (by decide +kernel)) ggX11_flyer_X9_load
set_option maxRecDepth 20000 in
theorem ggX11_feed_X11_isWithin : GoodIn wsX11_feed wsX11_isWithin := goodIn_r _ [5] rfl (by decide +kernel)
set_option maxRecDepth 20000 in
theorem gX11_feed_X11_isWithin : GoodIn wsX11_feed (va_wsS RX11 70 yX11_isWithin wsX11_isWithin) := goodIn_app (goodIn_of _ (by decide +kernel)) ggX11_feed_X11_isWithin
set_option maxRecDepth 20000 in
theorem ggX11_feed_X10_size : GoodIn wsX11_feed wsX10_size := goodIn_r _ [10, 11, 32, 33, 34, 35] rfl (by decide +kernel)
set_option maxRecDepth 20000 in
theorem gX11_feed_X10_size : GoodIn wsX11_feed (wsV RX11 95 RX10 yX10_size wsX10_size) := goodIn_app (goodIn_of _ (by decide +kernel)) ggX11_feed_X10_size
set_option maxRecDepth 20000 in
theorem ggX11_feed_X10_add : GoodIn wsX11_feed wsX10_add := goodIn_r _ [15, 16, 11, 17, 18, 19, 20, 21, 22, 23, 32, 33, 34, 35, 36] rfl (by decide +kernel)
set_option maxRecDepth 20000 in
theorem gX11_feed_X10_add : GoodIn wsX11_feed (wsV RX11 96 RX10 yX10_add wsX10_add) := goodIn_app (goodIn_of _ (by decide +kernel)) ggX11_feed_X10_add
set_option maxRecDepth 20000 in
theorem ggX11_figure_X2_size : GoodIn wsX11_figure wsX2_size := goodIn_r _ [7, 8, 89, 90, 91, 92] rfl (by decide +kernel)
set_option maxRecDepth 20000 in
theorem gX11_figure_X2_size : GoodIn wsX11_figure (wsV RX11 99 RX2 yX2_size wsX2_size) := goodIn_app (goodIn_of _ (by decide +kernel)) ggX11_figure_X2_size
set_option maxRecDepth 20000 in
theorem ggX11_figure_X2_spare : GoodIn wsX11_figure wsX2_spare := goodIn_r _ [12, 8, 13, 14, 15, 6, 16, 17, 18, 19, 89, 90, 91, 92] rfl (by decide +kernel)
set_option maxRecDepth 20000 in
theorem gX11_figure_X2_spare : GoodIn wsX11_figure (wsV RX11 100 RX2 yX2_spare wsX2_spare) := goodIn_app (goodIn_of _ (by decide +kernel)) ggX11_figure_X2_spare
set_option maxRecDepth 20000 in
theorem ggX11_figure_X10_read : GoodIn wsX11_figure wsX10_read := goodIn_r _ [24, 25, 26, 27, 28, 29, 30, 31, 32, 33, 34, 35, 36, 23, 37, 38, 39, 40, 41, 42, 43, 44, 45, 46, 47, 48, 49, 50, 51, 52, 53, 54, 55, 56, 57, 58, 59, 60, 61, 62, 63, 64, 65, 66, 67, 68, 69, 70, 71, 72, 93, 94, 95, 96, 97, 98, 99] rfl (by decide +kernel)
set_option maxRecDepth 20000 in
theorem gX11_figure_X10_read : GoodIn wsX11_figure (wsV RX11 104 RX10 yX10_read wsX10_read) := goodIn_app (goodIn_of _ (by decide +kernel)) ggX11_figure_X10_read
set_option maxRecDepth 20000 in
theorem ggX11_figure_X10_empty : GoodIn wsX11_figure wsX10_empty := goodIn_r _ [76, 27, 93, 94, 95, 96] rfl (by decide +kernel)
set_option maxRecDepth 20000 in
theorem gX11_figure_X10_empty : GoodIn wsX11_figure (wsV RX11 108 RX10 yX10_empty wsX10_empty) := goodIn_app (goodIn_of _ (by decide +kernel)) ggX11_figure_X10_empty
set_option maxRecDepth 20000 in
theorem ggX11_figure_X2_keepSpare : GoodIn wsX11_figure wsX2_keepSpare := goodIn_r _ [80, 8, 89, 90, 91, 92] rfl (by decide +kernel)
set_option maxRecDepth 20000 in
theorem gX11_figure_X2_keepSpare : GoodIn wsX11_figure (wsV RX11 111 RX2 yX2_keepSpare wsX2_keepSpare) := goodIn_app (goodIn_of _ (by decide +kernel)) ggX11_figure_X2_keepSpare
set_option maxRecDepth 20000 in
theorem ggX11_point_X2_has : GoodIn wsX11_point wsX2_has := goodIn_r _ [7, 8, 71, 72, 73, 74] rfl (by decide +kernel)
set_option maxRecDepth 20000 in
theorem gX11_point_X2_has : GoodIn wsX11_point (wsV RX11 114 RX2 yX2_has wsX2_has) := goodIn_app (goodIn_of _ (by decide +kernel)) ggX11_point_X2_has
set_option maxRecDepth 20000 in
theorem ggX11_point_X2_at : GoodIn wsX11_point wsX2_at := goodIn_r _ [12, 13, 14, 15, 71, 72, 73, 74] rfl (by decide +kernel)
set_option maxRecDepth 20000 in
theorem gX11_point_X2_at : GoodIn wsX11_point (wsV RX11 81 RX2 yX2_at wsX2_at) := goodIn_app (goodIn_of _ (by decide +kernel)) ggX11_point_X2_at
set_option maxRecDepth 20000 in
theorem ggX11_point_X5_size : GoodIn wsX11_point wsX5_size := goodIn_r _ [20, 21, 75, 76] rfl (by decide +kernel)
set_option maxRecDepth 20000 in
theorem gX11_point_X5_size : GoodIn wsX11_point (wsV RX11 117 RX5 yX5_size wsX5_size) := goodIn_app (goodIn_of _ (by decide +kernel)) ggX11_point_X5_size
set_option maxRecDepth 20000 in
theorem ggX11_point_X0_isLoose : GoodIn wsX11_point wsX0_isLoose := goodIn_r _ [26, 27, 28, 29, 30, 19, 31, 32, 21, 33, 34, 35, 36, 37, 38, 39, 40, 41, 42, 43, 44, 45, 46, 47, 77, 78, 79, 80, 75, 76, 81] rfl (by decide +kernel)
set_option maxRecDepth 20000 in
theorem gX11_point_X0_isLoose : GoodIn wsX11_point (wsV RX11 118 RX0 yX0_isLoose wsX0_isLoose) := goodIn_app (goodIn_of _ (by decide +kernel)) ggX11_point_X0_isLoose
set_option maxRecDepth 20000 in
theorem ggX11_point_X11_bit : GoodIn wsX11_point wsX11_bit := goodIn_r _ [51] rfl (by decide +kernel)
set_option maxRecDepth 20000 in
theorem gX11_point_X11_bit : GoodIn wsX11_point (va_wsS RX11 122 yX11_bit wsX11_bit) := goodIn_app (goodIn_of _ (by decide +kernel)) ggX11_point_X11_bit
set_option maxRecDepth 20000 in
theorem ggX11_point_X5_has : GoodIn wsX11_point wsX5_has := goodIn_r _ [55, 21, 75, 76] rfl (by decide +kernel)
set_option maxRecDepth 20000 in
theorem gX11_point_X5_has : GoodIn wsX11_point (wsV RX11 126 RX5 yX5_has wsX5_has) := goodIn_app (goodIn_of _ (by decide +kernel)) ggX11_point_X5_has
set_option maxRecDepth 20000 in
theorem ggX11_point_X11_isWithin : GoodIn wsX11_point wsX11_isWithin := goodIn_r _ [58] rfl (by decide +kernel)
set_option maxRecDepth 20000 in
theorem gX11_point_X11_isWithin : GoodIn wsX11_point (va_wsS RX11 70 yX11_isWithin wsX11_isWithin) := goodIn_app (goodIn_of _ (by decide +kernel)) ggX11_point_X11_isWithin
set_option maxRecDepth 20000 in
theorem ggX11_point_X5_told : GoodIn wsX11_point wsX5_told := goodIn_r _ [62, 41, 42, 43, 44, 45, 46, 47, 75, 76, 81] rfl (by decide +kernel)
set_option maxRecDepth 20000 in
theorem gX11_point_X5_told : GoodIn wsX11_point (wsV RX11 127 RX5 yX5_told wsX5_told) := goodIn_app (goodIn_of _ (by decide +kernel)) ggX11_point_X5_told
set_option maxRecDepth 20000 in
theorem ggX11_spread_X2_has : GoodIn wsX11_spread wsX2_has := goodIn_r _ [6, 7, 49, 50, 51, 52] rfl (by decide +kernel)
set_option maxRecDepth 20000 in
theorem gX11_spread_X2_has : GoodIn wsX11_spread (wsV RX11 114 RX2 yX2_has wsX2_has) := goodIn_app (goodIn_of _ (by decide +kernel)) ggX11_spread_X2_has
set_option maxRecDepth 20000 in
theorem ggX11_spread_X2_at : GoodIn wsX11_spread wsX2_at := goodIn_r _ [11, 12, 13, 14, 49, 50, 51, 52] rfl (by decide +kernel)
set_option maxRecDepth 20000 in
theorem gX11_spread_X2_at : GoodIn wsX11_spread (wsV RX11 81 RX2 yX2_at wsX2_at) := goodIn_app (goodIn_of _ (by decide +kernel)) ggX11_spread_X2_at
set_option maxRecDepth 20000 in
theorem ggX11_spread_X5_size : GoodIn wsX11_spread wsX5_size := goodIn_r _ [19, 20, 53, 54] rfl (by decide +kernel)
set_option maxRecDepth 20000 in
theorem gX11_spread_X5_size : GoodIn wsX11_spread (wsV RX11 117 RX5 yX5_size wsX5_size) := goodIn_app (goodIn_of _ (by decide +kernel)) ggX11_spread_X5_size
set_option maxRecDepth 20000 in
theorem ggX11_spread_X5_leastWay : GoodIn wsX11_spread wsX5_leastWay := goodIn_r _ [24, 25, 20, 26, 27, 28, 29, 30, 31, 32, 18, 33, 34, 35, 36, 37, 38, 39, 40, 53, 54, 55] rfl (by decide +kernel)
set_option maxRecDepth 20000 in
theorem gX11_spread_X5_leastWay : GoodIn wsX11_spread (wsV RX11 131 RX5 yX5_leastWay wsX5_leastWay) := goodIn_app (goodIn_of _ (by decide +kernel)) ggX11_spread_X5_leastWay
set_option maxRecDepth 20000 in
theorem ggX11_gap_X11_isWithin : GoodIn wsX11_gap wsX11_isWithin := goodIn_r _ [5] rfl (by decide +kernel)
set_option maxRecDepth 20000 in
theorem gX11_gap_X11_isWithin : GoodIn wsX11_gap (va_wsS RX11 70 yX11_isWithin wsX11_isWithin) := goodIn_app (goodIn_of _ (by decide +kernel)) ggX11_gap_X11_isWithin
set_option maxRecDepth 20000 in
theorem ggX11_zone_X11_isAcross : GoodIn wsX11_zone wsX11_isAcross := goodIn_r _ [5, 6, 7, 4, 8] rfl (by decide +kernel)
set_option maxRecDepth 20000 in
theorem gX11_zone_X11_isAcross : GoodIn wsX11_zone (va_wsS RX11 65 yX11_isAcross wsX11_isAcross) := goodIn_app (goodIn_of _ (by decide +kernel)) ggX11_zone_X11_isAcross
set_option maxRecDepth 20000 in
theorem ggX11_zone_X11_isWithin : GoodIn wsX11_zone wsX11_isWithin := goodIn_r _ [8] rfl (by decide +kernel)
set_option maxRecDepth 20000 in
theorem gX11_zone_X11_isWithin : GoodIn wsX11_zone (va_wsS RX11 70 yX11_isWithin wsX11_isWithin) := goodIn_app (goodIn_of _ (by decide +kernel)) ggX11_zone_X11_isWithin
set_option maxRecDepth 20000 in
theorem ggX11_pass_X11_isPicture : GoodIn wsX11_pass wsX11_isPicture := goodIn_r _ [8, 1, 9, 10, 11, 12, 13, 14, 109, 110, 111, 112, 113, 114, 115, 116, 117, 118, 119, 120] rfl (by decide +kernel)
set_option maxRecDepth 20000 in
theorem gX11_pass_X11_isPicture : GoodIn wsX11_pass (wsV RX11 147 RX11 yX11_isPicture wsX11_isPicture) := goodIn_app (goodIn_of _ (by decide +kernel)) ggX11_pass_X11_isPicture
set_option maxRecDepth 20000 in
theorem ggX11_pass_X11_isWithin : GoodIn wsX11_pass wsX11_isWithin := goodIn_r _ [17] rfl (by decide +kernel)
set_option maxRecDepth 20000 in
theorem gX11_pass_X11_isWithin : GoodIn wsX11_pass (va_wsS RX11 70 yX11_isWithin wsX11_isWithin) := goodIn_app (goodIn_of _ (by decide +kernel)) ggX11_pass_X11_isWithin
set_option maxRecDepth 20000 in
theorem ggX11_pass_X2_at : GoodIn wsX11_pass wsX2_at := goodIn_r _ [21, 22, 23, 24, 117, 118, 119, 120] rfl (by decide +kernel)
set_option maxRecDepth 20000 in
theorem gX11_pass_X2_at : GoodIn wsX11_pass (wsV RX11 81 RX2 yX2_at wsX2_at) := goodIn_app (goodIn_of _ (by decide +kernel)) ggX11_pass_X2_at
set_option maxRecDepth 20000 in
theorem ggX11_pass_X5_size : GoodIn wsX11_pass wsX5_size := goodIn_r _ [29, 30, 121, 122] rfl (by decide +kernel)
set_option maxRecDepth 20000 in
theorem gX11_pass_X5_size : GoodIn wsX11_pass (wsV RX11 117 RX5 yX5_size wsX5_size) := goodIn_app (goodIn_of _ (by decide +kernel)) ggX11_pass_X5_size
set_option maxRecDepth 20000 in
theorem ggX11_pass_X4_lead : GoodIn wsX11_pass wsX4_lead := goodIn_r _ [35, 36, 37, 38, 39, 40, 41, 42, 43, 44, 45, 46, 47, 48, 49, 50, 26, 27, 28, 29, 30, 51, 52, 53, 54, 55, 56, 57, 58, 59, 60, 61, 62, 63, 64, 65, 66, 67, 68, 69, 70, 71, 72, 73, 74, 75, 76, 77, 78, 79, 80, 81, 82, 83, 84, 85, 86, 87, 88, 89, 90, 91, 92, 93, 94, 95, 96, 97, 98, 99, 100, 101, 102, 103, 104, 105, 106, 107, 34, 108, 123, 124, 125, 126, 127, 128, 121, 122, 129] rfl (by decide +kernel)
set_option maxRecDepth 20000 in
theorem gX11_pass_X4_lead : GoodIn wsX11_pass (wsV RX11 150 RX4 yX4_lead wsX4_lead) := goodIn_app (goodIn_of _ (by decide +kernel)) ggX11_pass_X4_lead
set_option maxRecDepth 20000 in
theorem ggX11_goes_X4_has : GoodIn wsX11_goes wsX4_has := goodIn_r _ [6, 7, 27, 28, 29] rfl (by decide +kernel)
set_option maxRecDepth 20000 in
theorem gX11_goes_X4_has : GoodIn wsX11_goes (wsV RX11 154 RX4 yX4_has wsX4_has) := goodIn_app (goodIn_of _ (by decide +kernel)) ggX11_goes_X4_has
set_option maxRecDepth 20000 in
theorem ggX11_goes_X4_goal : GoodIn wsX11_goes wsX4_goal := goodIn_r _ [11, 12, 13, 14, 15, 16, 17, 18, 27, 28, 29, 30] rfl (by decide +kernel)
set_option maxRecDepth 20000 in
theorem gX11_goes_X4_goal : GoodIn wsX11_goes (wsV RX11 155 RX4 yX4_goal wsX4_goal) := goodIn_app (goodIn_of _ (by decide +kernel)) ggX11_goes_X4_goal
set_option maxRecDepth 20000 in
theorem ggX11_delay_X4_has : GoodIn wsX11_delay wsX4_has := goodIn_r _ [6, 7, 39, 40, 41] rfl (by decide +kernel)
set_option maxRecDepth 20000 in
theorem gX11_delay_X4_has : GoodIn wsX11_delay (wsV RX11 154 RX4 yX4_has wsX4_has) := goodIn_app (goodIn_of _ (by decide +kernel)) ggX11_delay_X4_has
set_option maxRecDepth 20000 in
theorem ggX11_delay_X11_isWithin : GoodIn wsX11_delay wsX11_isWithin := goodIn_r _ [11] rfl (by decide +kernel)
set_option maxRecDepth 20000 in
theorem gX11_delay_X11_isWithin : GoodIn wsX11_delay (va_wsS RX11 70 yX11_isWithin wsX11_isWithin) := goodIn_app (goodIn_of _ (by decide +kernel)) ggX11_delay_X11_isWithin
set_option maxRecDepth 20000 in
theorem ggX11_delay_X4_delayOf : GoodIn wsX11_delay wsX4_delayOf := goodIn_r _ [15, 16, 17, 18, 19, 20, 21, 22, 39, 40, 41, 42] rfl (by decide +kernel)
set_option maxRecDepth 20000 in
theorem gX11_delay_X4_delayOf : GoodIn wsX11_delay (wsV RX11 159 RX4 yX4_delayOf wsX4_delayOf) := goodIn_app (goodIn_of _ (by decide +kernel)) ggX11_delay_X4_delayOf
set_option maxRecDepth 20000 in
theorem ggX11_delay_X4_setDelay : GoodIn wsX11_delay wsX4_setDelay := goodIn_r _ [26, 16, 27, 28, 29, 20, 30, 22, 39, 40, 41, 42] rfl (by decide +kernel)
set_option maxRecDepth 20000 in
theorem gX11_delay_X4_setDelay : GoodIn wsX11_delay (wsV RX11 162 RX4 yX4_setDelay wsX4_setDelay) := goodIn_app (goodIn_of _ (by decide +kernel)) ggX11_delay_X4_setDelay
set_option maxRecDepth 20000 in
theorem ggX11_clash_X4_has : GoodIn wsX11_clash wsX4_has := goodIn_r _ [7, 8, 60, 61, 62] rfl (by decide +kernel)
set_option maxRecDepth 20000 in
theorem gX11_clash_X4_has : GoodIn wsX11_clash (wsV RX11 154 RX4 yX4_has wsX4_has) := goodIn_app (goodIn_of _ (by decide +kernel)) ggX11_clash_X4_has
set_option maxRecDepth 20000 in
theorem ggX11_clash_X4_delayOf : GoodIn wsX11_clash wsX4_delayOf := goodIn_r _ [12, 13, 14, 15, 16, 17, 18, 19, 60, 61, 62, 63] rfl (by decide +kernel)
set_option maxRecDepth 20000 in
theorem gX11_clash_X4_delayOf : GoodIn wsX11_clash (wsV RX11 159 RX4 yX4_delayOf wsX4_delayOf) := goodIn_app (goodIn_of _ (by decide +kernel)) ggX11_clash_X4_delayOf
set_option maxRecDepth 20000 in
theorem ggX11_clash_X4_meet : GoodIn wsX11_clash wsX4_meet := goodIn_r _ [23, 24, 25, 26, 27, 28, 29, 30, 31, 32, 33, 34, 6, 35, 36, 37, 38, 39, 13, 14, 15, 16, 17, 18, 19, 40, 41, 42, 43, 60, 61, 62, 63] rfl (by decide +kernel)
set_option maxRecDepth 20000 in
theorem gX11_clash_X4_meet : GoodIn wsX11_clash (wsV RX11 165 RX4 yX4_meet wsX4_meet) := goodIn_app (goodIn_of _ (by decide +kernel)) ggX11_clash_X4_meet
set_option maxRecDepth 20000 in
theorem ggX11_clash_X11_bit : GoodIn wsX11_clash wsX11_bit := goodIn_r _ [47] rfl (by decide +kernel)
set_option maxRecDepth 20000 in
theorem gX11_clash_X11_bit : GoodIn wsX11_clash (va_wsS RX11 122 yX11_bit wsX11_bit) := goodIn_app (goodIn_of _ (by decide +kernel)) ggX11_clash_X11_bit
set_option maxRecDepth 20000 in
theorem ggX11_enters_X4_has : GoodIn wsX11_enters wsX4_has := goodIn_r _ [7, 8, 43, 44, 45] rfl (by decide +kernel)
set_option maxRecDepth 20000 in
theorem gX11_enters_X4_has : GoodIn wsX11_enters (wsV RX11 154 RX4 yX4_has wsX4_has) := goodIn_app (goodIn_of _ (by decide +kernel)) ggX11_enters_X4_has
set_option maxRecDepth 20000 in
theorem ggX11_enters_X4_isInZone : GoodIn wsX11_enters wsX4_isInZone := goodIn_r _ [12, 13, 14, 15, 16, 17, 18, 19, 20, 21, 22, 23, 24, 25, 26, 27, 28, 29, 30, 43, 44, 45, 46, 47, 48, 49, 50] rfl (by decide +kernel)
set_option maxRecDepth 20000 in
theorem gX11_enters_X4_isInZone : GoodIn wsX11_enters (wsV RX11 169 RX4 yX4_isInZone wsX4_isInZone) := goodIn_app (goodIn_of _ (by decide +kernel)) ggX11_enters_X4_isInZone
set_option maxRecDepth 20000 in
theorem ggX11_enters_X11_bit : GoodIn wsX11_enters wsX11_bit := goodIn_r _ [34] rfl (by decide +kernel)
set_option maxRecDepth 20000 in
theorem gX11_enters_X11_bit : GoodIn wsX11_enters (va_wsS RX11 122 yX11_bit wsX11_bit) := goodIn_app (goodIn_of _ (by decide +kernel)) ggX11_enters_X11_bit
set_option maxRecDepth 20000 in
theorem ggX11_clean_X4_size : GoodIn wsX11_clean wsX4_size := goodIn_r _ [7, 8, 76, 77, 78] rfl (by decide +kernel)
set_option maxRecDepth 20000 in
theorem gX11_clean_X4_size : GoodIn wsX11_clean (wsV RX11 173 RX4 yX4_size wsX4_size) := goodIn_app (goodIn_of _ (by decide +kernel)) ggX11_clean_X4_size
set_option maxRecDepth 20000 in
theorem ggX11_clean_X4_isClean : GoodIn wsX11_clean wsX4_isClean := goodIn_r _ [12, 8, 13, 14, 15, 6, 16, 17, 18, 19, 20, 21, 22, 23, 24, 25, 26, 27, 28, 29, 30, 31, 32, 33, 34, 35, 36, 37, 38, 39, 40, 41, 42, 43, 44, 45, 46, 47, 48, 49, 50, 51, 52, 53, 54, 55, 56, 57, 58, 59, 60, 61, 62, 63, 76, 77, 78, 79, 80, 81, 82, 83] rfl (by decide +kernel)
set_option maxRecDepth 20000 in
theorem gX11_clean_X4_isClean : GoodIn wsX11_clean (wsV RX11 174 RX4 yX4_isClean wsX4_isClean) := goodIn_app (goodIn_of _ (by decide +kernel)) ggX11_clean_X4_isClean
set_option maxRecDepth 20000 in
theorem ggX11_clean_X11_bit : GoodIn wsX11_clean wsX11_bit := goodIn_r _ [67] rfl (by decide +kernel)
set_option maxRecDepth 20000 in
theorem gX11_clean_X11_bit : GoodIn wsX11_clean (va_wsS RX11 122 yX11_bit wsX11_bit) := goodIn_app (goodIn_of _ (by decide +kernel)) ggX11_clean_X11_bit
set_option maxRecDepth 20000 in
theorem ggX11_part_X4_size : GoodIn wsX11_part wsX4_size := goodIn_r _ [8, 9, 115, 116, 117] rfl (by decide +kernel)
set_option maxRecDepth 20000 in
theorem gX11_part_X4_size : GoodIn wsX11_part (wsV RX11 173 RX4 yX4_size wsX4_size) := goodIn_app (goodIn_of _ (by decide +kernel)) ggX11_part_X4_size
set_option maxRecDepth 20000 in
theorem ggX11_part_X4_isAnyInZone : GoodIn wsX11_part wsX4_isAnyInZone := goodIn_r _ [13, 9, 14, 15, 16, 7, 17, 18, 19, 20, 21, 22, 23, 24, 25, 26, 27, 28, 29, 30, 31, 32, 33, 34, 35, 115, 116, 117, 118, 111, 112, 113, 114] rfl (by decide +kernel)
set_option maxRecDepth 20000 in
theorem gX11_part_X4_isAnyInZone : GoodIn wsX11_part (wsV RX11 178 RX4 yX4_isAnyInZone wsX4_isAnyInZone) := goodIn_app (goodIn_of _ (by decide +kernel)) ggX11_part_X4_isAnyInZone
set_option maxRecDepth 20000 in
theorem ggX11_part_X3_settle : GoodIn wsX11_part wsX3_settle := goodIn_r _ [40, 41, 42, 43, 44, 45, 46, 47, 48, 49, 5, 6, 7, 8, 9, 50, 51, 52, 39, 53, 54, 55, 56, 57, 58, 59, 60, 61, 62, 63, 64, 65, 66, 67, 68, 69, 70, 71, 18, 19, 20, 21, 22, 23, 24, 72, 34, 28, 35, 73, 74, 75, 76, 77, 78, 79, 80, 81, 82, 83, 84, 85, 86, 87, 88, 89, 90, 91, 92, 93, 94, 95, 96, 97, 98, 99, 100, 101, 102, 119, 120, 121, 122, 123, 124, 115, 116, 117, 118] rfl (by decide +kernel)
set_option maxRecDepth 20000 in
theorem gX11_part_X3_settle : GoodIn wsX11_part (wsV RX11 181 RX3 yX3_settle wsX3_settle) := goodIn_app (goodIn_of _ (by decide +kernel)) ggX11_part_X3_settle
set_option maxRecDepth 20000 in
theorem ggX11_scene_X2_has : GoodIn wsX11_scene wsX2_has := goodIn_r _ [8, 9, 146, 147, 148, 149] rfl (by decide +kernel)
set_option maxRecDepth 20000 in
theorem gX11_scene_X2_has : GoodIn wsX11_scene (wsV RX11 114 RX2 yX2_has wsX2_has) := goodIn_app (goodIn_of _ (by decide +kernel)) ggX11_scene_X2_has
set_option maxRecDepth 20000 in
theorem ggX11_scene_X11_isWithin : GoodIn wsX11_scene wsX11_isWithin := goodIn_r _ [13] rfl (by decide +kernel)
set_option maxRecDepth 20000 in
theorem gX11_scene_X11_isWithin : GoodIn wsX11_scene (va_wsS RX11 70 yX11_isWithin wsX11_isWithin) := goodIn_app (goodIn_of _ (by decide +kernel)) ggX11_scene_X11_isWithin
set_option maxRecDepth 20000 in
theorem ggX11_scene_X2_at : GoodIn wsX11_scene wsX2_at := goodIn_r _ [17, 18, 19, 20, 146, 147, 148, 149] rfl (by decide +kernel)
set_option maxRecDepth 20000 in
theorem gX11_scene_X2_at : GoodIn wsX11_scene (wsV RX11 81 RX2 yX2_at wsX2_at) := goodIn_app (goodIn_of _ (by decide +kernel)) ggX11_scene_X2_at
set_option maxRecDepth 20000 in
theorem ggX11_scene_X5_size : GoodIn wsX11_scene wsX5_size := goodIn_r _ [25, 26, 150, 151] rfl (by decide +kernel)
set_option maxRecDepth 20000 in
theorem gX11_scene_X5_size : GoodIn wsX11_scene (wsV RX11 117 RX5 yX5_size wsX5_size) := goodIn_app (goodIn_of _ (by decide +kernel)) ggX11_scene_X5_size
set_option maxRecDepth 20000 in
theorem ggX11_scene_X11_flyers : GoodIn wsX11_scene wsX11_flyers := goodIn_r _ [30, 1, 14, 15, 16, 7, 17, 18, 19, 20, 21, 22, 23, 24, 25, 26, 133, 134, 135, 136, 137, 138, 139, 140, 146, 147, 148, 149, 150, 151] rfl (by decide +kernel)
set_option maxRecDepth 20000 in
theorem gX11_scene_X11_flyers : GoodIn wsX11_scene (wsV RX11 78 RX11 yX11_flyers wsX11_flyers) := goodIn_app (goodIn_of _ (by decide +kernel)) ggX11_scene_X11_flyers
set_option maxRecDepth 20000 in
theorem ggX11_scene_X9_size : GoodIn wsX11_scene wsX9_size := goodIn_r _ [35, 36, 152, 153, 154, 155, 156] rfl (by decide +kernel)
set_option maxRecDepth 20000 in
theorem gX11_scene_X9_size : GoodIn wsX11_scene (wsV RX11 74 RX9 yX9_size wsX9_size) := goodIn_app (goodIn_of _ (by decide +kernel)) ggX11_scene_X9_size
set_option maxRecDepth 20000 in
theorem ggX11_scene_X9_spare : GoodIn wsX11_scene wsX9_spare := goodIn_r _ [40, 36, 41, 42, 43, 34, 44, 45, 46, 152, 153, 154, 155, 156] rfl (by decide +kernel)
set_option maxRecDepth 20000 in
theorem gX11_scene_X9_spare : GoodIn wsX11_scene (wsV RX11 185 RX9 yX9_spare wsX9_spare) := goodIn_app (goodIn_of _ (by decide +kernel)) ggX11_scene_X9_spare
set_option maxRecDepth 20000 in
theorem ggX11_scene_X9_lastFigure : GoodIn wsX11_scene wsX9_lastFigure := goodIn_r _ [50, 36, 41, 42, 43, 34, 44, 45, 46, 152, 153, 154, 155, 156, 141, 142, 143, 144, 145] rfl (by decide +kernel)
set_option maxRecDepth 20000 in
theorem gX11_scene_X9_lastFigure : GoodIn wsX11_scene (wsV RX11 202 RX9 yX9_lastFigure wsX9_lastFigure) := goodIn_app (goodIn_of _ (by decide +kernel)) ggX11_scene_X9_lastFigure
set_option maxRecDepth 20000 in
theorem ggX11_scene_X4_lead : GoodIn wsX11_scene wsX4_lead := goodIn_r _ [55, 56, 57, 58, 59, 60, 61, 62, 63, 64, 65, 66, 67, 68, 69, 70, 22, 23, 24, 25, 26, 71, 72, 73, 74, 75, 76, 77, 78, 79, 80, 81, 82, 83, 84, 85, 86, 87, 88, 89, 90, 91, 92, 93, 94, 95, 96, 97, 98, 99, 100, 101, 102, 103, 104, 105, 106, 107, 108, 109, 110, 111, 112, 113, 114, 115, 116, 117, 118, 119, 120, 121, 122, 123, 124, 125, 126, 127, 54, 128, 157, 158, 159, 160, 161, 162, 150, 151, 163] rfl (by decide +kernel)
set_option maxRecDepth 20000 in
theorem gX11_scene_X4_lead : GoodIn wsX11_scene (wsV RX11 150 RX4 yX4_lead wsX4_lead) := goodIn_app (goodIn_of _ (by decide +kernel)) ggX11_scene_X4_lead
set_option maxRecDepth 20000 in
theorem ggX11_scene_X9_keepSpare : GoodIn wsX11_scene wsX9_keepSpare := goodIn_r _ [132, 36, 152, 153, 154, 155, 156] rfl (by decide +kernel)
set_option maxRecDepth 20000 in
theorem gX11_scene_X9_keepSpare : GoodIn wsX11_scene (wsV RX11 208 RX9 yX9_keepSpare wsX9_keepSpare) := goodIn_app (goodIn_of _ (by decide +kernel)) ggX11_scene_X9_keepSpare
set_option maxRecDepth 20000 in
theorem ggX11_stands_X11_isFlyer : GoodIn wsX11_stands wsX11_isFlyer := goodIn_r _ [6, 7, 8, 9, 10, 11, 12, 13, 14, 15, 16, 17, 18, 19, 20, 21, 50, 51, 52, 53, 54, 55, 56, 57, 58, 59, 60, 61, 62, 63] rfl (by decide +kernel)
set_option maxRecDepth 20000 in
theorem gX11_stands_X11_isFlyer : GoodIn wsX11_stands (wsV RX11 209 RX11 yX11_isFlyer wsX11_isFlyer) := goodIn_app (goodIn_of _ (by decide +kernel)) ggX11_stands_X11_isFlyer
set_option maxRecDepth 20000 in
theorem ggX11_stands_X9_has : GoodIn wsX11_stands wsX9_has := goodIn_r _ [26, 27, 64, 65, 66, 67, 68] rfl (by decide +kernel)
set_option maxRecDepth 20000 in
theorem gX11_stands_X9_has : GoodIn wsX11_stands (wsV RX11 212 RX9 yX9_has wsX9_has) := goodIn_app (goodIn_of _ (by decide +kernel)) ggX11_stands_X9_has
set_option maxRecDepth 20000 in
theorem ggX11_stands_X9_place : GoodIn wsX11_stands wsX9_place := goodIn_r _ [31, 27, 32, 33, 34, 25, 35, 36, 37, 38, 39, 40, 41, 42, 43, 44, 45, 46, 47, 48, 49, 64, 65, 66, 67, 68, 69, 70, 71, 72, 73, 74, 75, 76, 77] rfl (by decide +kernel)
set_option maxRecDepth 20000 in
theorem gX11_stands_X9_place : GoodIn wsX11_stands (wsV RX11 213 RX9 yX9_place wsX9_place) := goodIn_app (goodIn_of _ (by decide +kernel)) ggX11_stands_X9_place
set_option maxRecDepth 20000 in
theorem ggX11_lands_X11_isFlyer : GoodIn wsX11_lands wsX11_isFlyer := goodIn_r _ [6, 7, 8, 9, 10, 11, 12, 13, 14, 15, 16, 17, 18, 19, 20, 21, 54, 55, 56, 57, 58, 59, 60, 61, 62, 63, 64, 65, 66, 67] rfl (by decide +kernel)
set_option maxRecDepth 20000 in
theorem gX11_lands_X11_isFlyer : GoodIn wsX11_lands (wsV RX11 209 RX11 yX11_isFlyer wsX11_isFlyer) := goodIn_app (goodIn_of _ (by decide +kernel)) ggX11_lands_X11_isFlyer
set_option maxRecDepth 20000 in
theorem ggX11_lands_X9_size : GoodIn wsX11_lands wsX9_size := goodIn_r _ [26, 27, 68, 69, 70, 71, 72] rfl (by decide +kernel)
set_option maxRecDepth 20000 in
theorem gX11_lands_X9_size : GoodIn wsX11_lands (wsV RX11 74 RX9 yX9_size wsX9_size) := goodIn_app (goodIn_of _ (by decide +kernel)) ggX11_lands_X9_size
set_option maxRecDepth 20000 in
theorem ggX11_lands_X9_pad : GoodIn wsX11_lands wsX9_pad := goodIn_r _ [31, 27, 32, 33, 34, 25, 35, 36, 37, 38, 39, 40, 41, 42, 43, 44, 45, 46, 47, 48, 49, 50, 51, 52, 53, 68, 69, 70, 71, 72, 73, 74, 75, 76, 77, 78, 79, 80, 81] rfl (by decide +kernel)
set_option maxRecDepth 20000 in
theorem gX11_lands_X9_pad : GoodIn wsX11_lands (wsV RX11 216 RX9 yX9_pad wsX9_pad) := goodIn_app (goodIn_of _ (by decide +kernel)) ggX11_lands_X9_pad
set_option maxRecDepth 20000 in
theorem ggX11_length_X9_ticks : GoodIn wsX11_length wsX9_ticks := goodIn_r _ [6, 7, 8, 9, 10, 5, 11, 12, 13, 14, 15, 16, 17, 18, 19, 20, 21, 22, 23, 24, 25, 26, 27, 36, 37, 38, 39, 40, 41, 42, 43, 44, 45, 46, 47, 48] rfl (by decide +kernel)
set_option maxRecDepth 20000 in
theorem gX11_length_X9_ticks : GoodIn wsX11_length (wsV RX11 219 RX9 yX9_ticks wsX9_ticks) := goodIn_app (goodIn_of _ (by decide +kernel)) ggX11_length_X9_ticks
set_option maxRecDepth 20000 in
theorem ggX11_left_X11_isFlyer : GoodIn wsX11_left wsX11_isFlyer := goodIn_r _ [7, 8, 9, 10, 11, 12, 13, 14, 15, 16, 17, 18, 19, 20, 21, 22, 54, 55, 56, 57, 58, 59, 60, 61, 62, 63, 64, 65, 66, 67] rfl (by decide +kernel)
set_option maxRecDepth 20000 in
theorem gX11_left_X11_isFlyer : GoodIn wsX11_left (wsV RX11 209 RX11 yX11_isFlyer wsX11_isFlyer) := goodIn_app (goodIn_of _ (by decide +kernel)) ggX11_left_X11_isFlyer
set_option maxRecDepth 20000 in
theorem ggX11_left_X9_chargeLeft : GoodIn wsX11_left wsX9_chargeLeft := goodIn_r _ [27, 28, 29, 30, 31, 32, 33, 34, 35, 36, 37, 38, 26, 39, 40, 41, 42, 43, 44, 45, 46, 47, 48, 49, 50, 51, 52, 53, 68, 69, 70, 71, 72, 73, 74, 75, 76, 77, 78, 79, 80, 81] rfl (by decide +kernel)
set_option maxRecDepth 20000 in
theorem gX11_left_X9_chargeLeft : GoodIn wsX11_left (wsV RX11 222 RX9 yX9_chargeLeft wsX9_chargeLeft) := goodIn_app (goodIn_of _ (by decide +kernel)) ggX11_left_X9_chargeLeft
set_option maxRecDepth 20000 in
theorem ggX11_last_X11_flyers : GoodIn wsX11_last wsX11_flyers := goodIn_r _ [6, 7, 8, 9, 10, 11, 12, 13, 14, 15, 16, 17, 18, 19, 20, 21, 53, 54, 55, 56, 57, 58, 59, 60, 66, 67, 68, 69, 70, 71] rfl (by decide +kernel)
set_option maxRecDepth 20000 in
theorem gX11_last_X11_flyers : GoodIn wsX11_last (wsV RX11 78 RX11 yX11_flyers wsX11_flyers) := goodIn_app (goodIn_of _ (by decide +kernel)) ggX11_last_X11_flyers
set_option maxRecDepth 20000 in
theorem ggX11_last_X9_chargeLeft : GoodIn wsX11_last wsX9_chargeLeft := goodIn_r _ [26, 27, 28, 29, 30, 31, 32, 33, 34, 35, 36, 37, 25, 38, 39, 40, 41, 42, 43, 44, 45, 46, 47, 48, 49, 50, 51, 52, 61, 62, 63, 64, 65, 72, 73, 74, 75, 76, 77, 78, 79, 80] rfl (by decide +kernel)
set_option maxRecDepth 20000 in
theorem gX11_last_X9_chargeLeft : GoodIn wsX11_last (wsV RX11 222 RX9 yX9_chargeLeft wsX9_chargeLeft) := goodIn_app (goodIn_of _ (by decide +kernel)) ggX11_last_X9_chargeLeft
set_option maxRecDepth 20000 in
theorem ggX11_margin_X11_isWithin : GoodIn wsX11_margin wsX11_isWithin := goodIn_r _ [5] rfl (by decide +kernel)
set_option maxRecDepth 20000 in
theorem gX11_margin_X11_isWithin : GoodIn wsX11_margin (va_wsS RX11 70 yX11_isWithin wsX11_isWithin) := goodIn_app (goodIn_of _ (by decide +kernel)) ggX11_margin_X11_isWithin
set_option maxRecDepth 20000 in
theorem ggX11_colour_X9_size : GoodIn wsX11_colour wsX9_size := goodIn_r _ [6, 7, 51, 52, 53, 54, 55] rfl (by decide +kernel)
set_option maxRecDepth 20000 in
theorem gX11_colour_X9_size : GoodIn wsX11_colour (wsV RX11 74 RX9 yX9_size wsX9_size) := goodIn_app (goodIn_of _ (by decide +kernel)) ggX11_colour_X9_size
set_option maxRecDepth 20000 in
theorem ggX11_colour_X9_ticks : GoodIn wsX11_colour wsX9_ticks := goodIn_r _ [11, 7, 12, 13, 14, 5, 15, 16, 17, 18, 19, 20, 21, 22, 23, 24, 25, 26, 27, 28, 29, 30, 31, 51, 52, 53, 54, 55, 56, 57, 58, 59, 60, 61, 62, 63] rfl (by decide +kernel)
set_option maxRecDepth 20000 in
theorem gX11_colour_X9_ticks : GoodIn wsX11_colour (wsV RX11 219 RX9 yX9_ticks wsX9_ticks) := goodIn_app (goodIn_of _ (by decide +kernel)) ggX11_colour_X9_ticks
set_option maxRecDepth 20000 in
theorem ggX11_colour_X11_isWithin : GoodIn wsX11_colour wsX11_isWithin := goodIn_r _ [35] rfl (by decide +kernel)
set_option maxRecDepth 20000 in
theorem gX11_colour_X11_isWithin : GoodIn wsX11_colour (va_wsS RX11 70 yX11_isWithin wsX11_isWithin) := goodIn_app (goodIn_of _ (by decide +kernel)) ggX11_colour_X11_isWithin
set_option maxRecDepth 20000 in
theorem ggX11_colour_X9_light : GoodIn wsX11_colour wsX9_light := goodIn_r _ [39, 7, 12, 13, 14, 5, 15, 16, 17, 31, 26, 27, 28, 29, 30, 40, 41, 42, 18, 19, 20, 21, 22, 23, 24, 25, 51, 52, 53, 54, 55, 56, 57, 58, 59, 60, 61, 62, 63] rfl (by decide +kernel)
set_option maxRecDepth 20000 in
theorem gX11_colour_X9_light : GoodIn wsX11_colour (wsV RX11 229 RX9 yX9_light wsX9_light) := goodIn_app (goodIn_of _ (by decide +kernel)) ggX11_colour_X9_light
set_option maxRecDepth 20000 in
theorem ggX11_unclean_X9_size : GoodIn wsX11_unclean wsX9_size := goodIn_r _ [7, 8, 85, 86, 87, 88, 89] rfl (by decide +kernel)
set_option maxRecDepth 20000 in
theorem gX11_unclean_X9_size : GoodIn wsX11_unclean (wsV RX11 74 RX9 yX9_size wsX9_size) := goodIn_app (goodIn_of _ (by decide +kernel)) ggX11_unclean_X9_size
set_option maxRecDepth 20000 in
theorem ggX11_unclean_X9_at : GoodIn wsX11_unclean wsX9_at := goodIn_r _ [12, 13, 14, 85, 86, 87, 88, 89] rfl (by decide +kernel)
set_option maxRecDepth 20000 in
theorem gX11_unclean_X9_at : GoodIn wsX11_unclean (wsV RX11 232 RX9 yX9_at wsX9_at) := goodIn_app (goodIn_of _ (by decide +kernel)) ggX11_unclean_X9_at
set_option maxRecDepth 20000 in
theorem ggX11_unclean_X4_isClean : GoodIn wsX11_unclean wsX4_isClean := goodIn_r _ [19, 20, 21, 22, 23, 18, 24, 25, 26, 27, 28, 29, 30, 31, 32, 33, 34, 35, 36, 37, 38, 39, 40, 41, 42, 43, 44, 45, 46, 47, 48, 49, 50, 51, 52, 53, 54, 55, 56, 57, 58, 59, 60, 61, 62, 63, 64, 65, 66, 67, 68, 69, 70, 71, 90, 91, 92, 93, 94, 95, 96, 97] rfl (by decide +kernel)
set_option maxRecDepth 20000 in
theorem gX11_unclean_X4_isClean : GoodIn wsX11_unclean (wsV RX11 174 RX4 yX4_isClean wsX4_isClean) := goodIn_app (goodIn_of _ (by decide +kernel)) ggX11_unclean_X4_isClean
set_option maxRecDepth 20000 in
theorem ggX11_fails_X11_isFlyer : GoodIn wsX11_fails wsX11_isFlyer := goodIn_r _ [6, 7, 8, 9, 10, 11, 12, 13, 14, 15, 16, 17, 18, 19, 20, 21, 72, 73, 74, 75, 76, 77, 78, 79, 80, 81, 82, 83, 84, 85] rfl (by decide +kernel)
set_option maxRecDepth 20000 in
theorem gX11_fails_X11_isFlyer : GoodIn wsX11_fails (wsV RX11 209 RX11 yX11_isFlyer wsX11_isFlyer) := goodIn_app (goodIn_of _ (by decide +kernel)) ggX11_fails_X11_isFlyer
set_option maxRecDepth 20000 in
theorem ggX11_fails_X9_has : GoodIn wsX11_fails wsX9_has := goodIn_r _ [26, 27, 86, 87, 88, 89, 90] rfl (by decide +kernel)
set_option maxRecDepth 20000 in
theorem gX11_fails_X9_has : GoodIn wsX11_fails (wsV RX11 212 RX9 yX9_has wsX9_has) := goodIn_app (goodIn_of _ (by decide +kernel)) ggX11_fails_X9_has
set_option maxRecDepth 20000 in
theorem ggX11_fails_X11_isWithin : GoodIn wsX11_fails wsX11_isWithin := goodIn_r _ [30] rfl (by decide +kernel)
set_option maxRecDepth 20000 in
theorem gX11_fails_X11_isWithin : GoodIn wsX11_fails (va_wsS RX11 70 yX11_isWithin wsX11_isWithin) := goodIn_app (goodIn_of _ (by decide +kernel)) ggX11_fails_X11_isWithin
set_option maxRecDepth 20000 in
theorem ggX11_fails_X11_worth : GoodIn wsX11_fails wsX11_worth := goodIn_r _ [34, 7, 1, 35, 36, 37, 25, 38, 39, 40, 8, 9, 10, 11, 12, 13, 14, 15, 41, 42, 43, 44, 27, 45, 46, 47, 48, 49, 50, 51, 52, 53, 54, 55, 56, 57, 58, 59, 60, 19, 61, 62, 63, 72, 73, 74, 75, 76, 77, 78, 79, 91, 92, 93, 94, 95, 86, 87, 88, 89, 90, 80, 81, 82, 83, 96, 97, 98, 99, 84, 85] rfl (by decide +kernel)
set_option maxRecDepth 20000 in
theorem gX11_fails_X11_worth : GoodIn wsX11_fails (wsV RX11 235 RX11 yX11_worth wsX11_worth) := goodIn_app (goodIn_of _ (by decide +kernel)) ggX11_fails_X11_worth
set_option maxRecDepth 20000 in
theorem ggX11_fails_X11_flyers : GoodIn wsX11_fails wsX11_flyers := goodIn_r _ [67, 7, 8, 9, 10, 11, 12, 13, 14, 15, 68, 69, 70, 19, 71, 21, 72, 73, 74, 75, 76, 77, 78, 79, 80, 81, 82, 83, 84, 85] rfl (by decide +kernel)
set_option maxRecDepth 20000 in
theorem gX11_fails_X11_flyers : GoodIn wsX11_fails (wsV RX11 78 RX11 yX11_flyers wsX11_flyers) := goodIn_app (goodIn_of _ (by decide +kernel)) ggX11_fails_X11_flyers
set_option maxRecDepth 20000 in
theorem ggX11_cut_X9_size : GoodIn wsX11_cut wsX9_size := goodIn_r _ [6, 7, 20, 21, 22, 23, 24] rfl (by decide +kernel)
set_option maxRecDepth 20000 in
theorem gX11_cut_X9_size : GoodIn wsX11_cut (wsV RX11 74 RX9 yX9_size wsX9_size) := goodIn_app (goodIn_of _ (by decide +kernel)) ggX11_cut_X9_size
set_option maxRecDepth 20000 in
theorem ggX11_cut_X9_dropLast : GoodIn wsX11_cut wsX9_dropLast := goodIn_r _ [11, 7, 20, 21, 22, 23, 24] rfl (by decide +kernel)
set_option maxRecDepth 20000 in
theorem gX11_cut_X9_dropLast : GoodIn wsX11_cut (wsV RX11 238 RX9 yX9_dropLast wsX9_dropLast) := goodIn_app (goodIn_of _ (by decide +kernel)) ggX11_cut_X9_dropLast
set_option maxRecDepth 20000 in
theorem ggX11_mark_X11_isWithin : GoodIn wsX11_mark wsX11_isWithin := goodIn_r _ [5] rfl (by decide +kernel)
set_option maxRecDepth 20000 in
theorem gX11_mark_X11_isWithin : GoodIn wsX11_mark (va_wsS RX11 70 yX11_isWithin wsX11_isWithin) := goodIn_app (goodIn_of _ (by decide +kernel)) ggX11_mark_X11_isWithin
set_option maxRecDepth 20000 in
theorem ggX11_mark_X1_isBehind : GoodIn wsX11_mark wsX1_isBehind := goodIn_r _ [10, 11, 12, 13, 14, 15, 16, 17, 18, 19, 20, 9, 21, 22, 48, 49, 50, 51, 52, 53, 54, 55] rfl (by decide +kernel)
set_option maxRecDepth 20000 in
theorem gX11_mark_X1_isBehind : GoodIn wsX11_mark (wsV RX11 241 RX1 yX1_isBehind wsX1_isBehind) := goodIn_app (goodIn_of _ (by decide +kernel)) ggX11_mark_X1_isBehind
set_option maxRecDepth 20000 in
theorem ggX11_mark_X11_isAcross : GoodIn wsX11_mark wsX11_isAcross := goodIn_r _ [25, 2, 3, 4, 5] rfl (by decide +kernel)
set_option maxRecDepth 20000 in
theorem gX11_mark_X11_isAcross : GoodIn wsX11_mark (va_wsS RX11 65 yX11_isAcross wsX11_isAcross) := goodIn_app (goodIn_of _ (by decide +kernel)) ggX11_mark_X11_isAcross
set_option maxRecDepth 20000 in
theorem ggX11_mark_X1_size : GoodIn wsX11_mark wsX1_size := goodIn_r _ [29, 30, 48, 49, 50, 51, 52, 53, 54] rfl (by decide +kernel)
set_option maxRecDepth 20000 in
theorem gX11_mark_X1_size : GoodIn wsX11_mark (wsV RX11 245 RX1 yX1_size wsX1_size) := goodIn_app (goodIn_of _ (by decide +kernel)) ggX11_mark_X1_size
set_option maxRecDepth 20000 in
theorem ggX11_mark_X1_add : GoodIn wsX11_mark wsX1_add := goodIn_r _ [34, 22, 30, 11, 35, 36, 37, 38, 15, 39, 17, 12, 13, 14, 16, 48, 49, 50, 51, 52, 53, 54, 55] rfl (by decide +kernel)
set_option maxRecDepth 20000 in
theorem gX11_mark_X1_add : GoodIn wsX11_mark (wsV RX11 246 RX1 yX1_add wsX1_add) := goodIn_app (goodIn_of _ (by decide +kernel)) ggX11_mark_X1_add
set_option maxRecDepth 20000 in
theorem ggX11_first_X1_firstClash : GoodIn wsX11_first wsX1_firstClash := goodIn_r _ [7, 8, 9, 10, 11, 12, 13, 14, 15, 16, 17, 18, 19, 20, 21, 22, 23, 6, 24, 25, 26, 27, 28, 29, 30, 31, 32, 33, 34, 35, 36, 37, 38, 39, 40, 41, 42, 43, 44, 45, 46, 47, 48, 49, 50, 51, 52, 53, 54, 55, 56, 57, 58, 59, 60, 61, 62, 63, 64, 65, 66, 67, 68, 69, 70, 71, 72, 73, 74, 75, 84, 85, 86, 87, 88, 89, 90, 91, 92, 93, 94, 95] rfl (by decide +kernel)
set_option maxRecDepth 20000 in
theorem gX11_first_X1_firstClash : GoodIn wsX11_first (wsV RX11 249 RX1 yX1_firstClash wsX1_firstClash) := goodIn_app (goodIn_of _ (by decide +kernel)) ggX11_first_X1_firstClash
set_option maxRecDepth 20000 in
theorem ggX11_wipe_X1_size : GoodIn wsX11_wipe wsX1_size := goodIn_r _ [6, 7, 28, 29, 30, 31, 32, 33, 34] rfl (by decide +kernel)
set_option maxRecDepth 20000 in
theorem gX11_wipe_X1_size : GoodIn wsX11_wipe (wsV RX11 245 RX1 yX1_size wsX1_size) := goodIn_app (goodIn_of _ (by decide +kernel)) ggX11_wipe_X1_size
set_option maxRecDepth 20000 in
theorem ggX11_wipe_X1_empty : GoodIn wsX11_wipe wsX1_empty := goodIn_r _ [11, 7, 12, 13, 14, 15, 16, 17, 18, 19, 28, 29, 30, 31, 32, 33, 34, 35] rfl (by decide +kernel)
set_option maxRecDepth 20000 in
theorem gX11_wipe_X1_empty : GoodIn wsX11_wipe (wsV RX11 259 RX1 yX1_empty wsX1_empty) := goodIn_app (goodIn_of _ (by decide +kernel)) ggX11_wipe_X1_empty
set_option maxRecDepth 20000 in
theorem ggX11_count_X11_flyers : GoodIn wsX11_count wsX11_flyers := goodIn_r _ [10, 1, 11, 12, 13, 14, 15, 16, 17, 18, 19, 20, 21, 22, 23, 24, 48, 49, 50, 51, 52, 53, 54, 55, 65, 66, 67, 68, 69, 70] rfl (by decide +kernel)
set_option maxRecDepth 20000 in
theorem gX11_count_X11_flyers : GoodIn wsX11_count (wsV RX11 78 RX11 yX11_flyers wsX11_flyers) := goodIn_app (goodIn_of _ (by decide +kernel)) ggX11_count_X11_flyers
set_option maxRecDepth 20000 in
theorem ggX11_count_X2_size : GoodIn wsX11_count wsX2_size := goodIn_r _ [28, 29, 65, 66, 67, 68] rfl (by decide +kernel)
set_option maxRecDepth 20000 in
theorem gX11_count_X2_size : GoodIn wsX11_count (wsV RX11 99 RX2 yX2_size wsX2_size) := goodIn_app (goodIn_of _ (by decide +kernel)) ggX11_count_X2_size
set_option maxRecDepth 20000 in
theorem ggX11_count_X9_size : GoodIn wsX11_count wsX9_size := goodIn_r _ [34, 35, 60, 61, 62, 63, 64] rfl (by decide +kernel)
set_option maxRecDepth 20000 in
theorem gX11_count_X9_size : GoodIn wsX11_count (wsV RX11 74 RX9 yX9_size wsX9_size) := goodIn_app (goodIn_of _ (by decide +kernel)) ggX11_count_X9_size
set_option maxRecDepth 20000 in
theorem ggX11_count_X1_size : GoodIn wsX11_count wsX1_size := goodIn_r _ [40, 41, 71, 72, 73, 74, 75, 76, 77] rfl (by decide +kernel)
set_option maxRecDepth 20000 in
theorem gX11_count_X1_size : GoodIn wsX11_count (wsV RX11 245 RX1 yX1_size wsX1_size) := goodIn_app (goodIn_of _ (by decide +kernel)) ggX11_count_X1_size
set_option maxRecDepth 20000 in
theorem ggX11_count_X10_size : GoodIn wsX11_count wsX10_size := goodIn_r _ [46, 47, 78, 79, 80, 81] rfl (by decide +kernel)
set_option maxRecDepth 20000 in
theorem gX11_count_X10_size : GoodIn wsX11_count (wsV RX11 95 RX10 yX10_size wsX10_size) := goodIn_app (goodIn_of _ (by decide +kernel)) ggX11_count_X10_size
set_option maxRecDepth 20000 in
theorem ggX11_flyers_X2_at : GoodIn wsX11_flyers wsX2_at := goodIn_r _ [6, 7, 8, 9, 24, 25, 26, 27] rfl (by decide +kernel)
set_option maxRecDepth 20000 in
theorem gX11_flyers_X2_at : GoodIn wsX11_flyers (wsV RX11 81 RX2 yX2_at wsX2_at) := goodIn_app (goodIn_of _ (by decide +kernel)) ggX11_flyers_X2_at
set_option maxRecDepth 20000 in
theorem ggX11_flyers_X5_size : GoodIn wsX11_flyers wsX5_size := goodIn_r _ [14, 15, 28, 29] rfl (by decide +kernel)
set_option maxRecDepth 20000 in
theorem gX11_flyers_X5_size : GoodIn wsX11_flyers (wsV RX11 117 RX5 yX5_size wsX5_size) := goodIn_app (goodIn_of _ (by decide +kernel)) ggX11_flyers_X5_size
set_option maxRecDepth 20000 in
theorem ggX11_isFlyer_X2_at : GoodIn wsX11_isFlyer wsX2_at := goodIn_r _ [6, 7, 8, 9, 24, 25, 26, 27] rfl (by decide +kernel)
set_option maxRecDepth 20000 in
theorem gX11_isFlyer_X2_at : GoodIn wsX11_isFlyer (wsV RX11 81 RX2 yX2_at wsX2_at) := goodIn_app (goodIn_of _ (by decide +kernel)) ggX11_isFlyer_X2_at
set_option maxRecDepth 20000 in
theorem ggX11_isFlyer_X5_has : GoodIn wsX11_isFlyer wsX5_has := goodIn_r _ [14, 15, 28, 29] rfl (by decide +kernel)
set_option maxRecDepth 20000 in
theorem gX11_isFlyer_X5_has : GoodIn wsX11_isFlyer (wsV RX11 126 RX5 yX5_has wsX5_has) := goodIn_app (goodIn_of _ (by decide +kernel)) ggX11_isFlyer_X5_has
set_option maxRecDepth 20000 in
theorem ggX11_isPicture_X2_has : GoodIn wsX11_isPicture wsX2_has := goodIn_r _ [6, 7, 16, 17, 18, 19] rfl (by decide +kernel)
set_option maxRecDepth 20000 in
theorem gX11_isPicture_X2_has : GoodIn wsX11_isPicture (wsV RX11 114 RX2 yX2_has wsX2_has) := goodIn_app (goodIn_of _ (by decide +kernel)) ggX11_isPicture_X2_has
set_option maxRecDepth 20000 in
theorem ggX11_worth_X9_at : GoodIn wsX11_worth wsX9_at := goodIn_r _ [7, 8, 9, 56, 57, 58, 59, 60] rfl (by decide +kernel)
set_option maxRecDepth 20000 in
theorem gX11_worth_X9_at : GoodIn wsX11_worth (wsV RX11 232 RX9 yX9_at wsX9_at) := goodIn_app (goodIn_of _ (by decide +kernel)) ggX11_worth_X9_at
set_option maxRecDepth 20000 in
theorem ggX11_worth_X2_at : GoodIn wsX11_worth wsX2_at := goodIn_r _ [14, 15, 16, 17, 61, 62, 63, 64] rfl (by decide +kernel)
set_option maxRecDepth 20000 in
theorem gX11_worth_X2_at : GoodIn wsX11_worth (wsV RX11 81 RX2 yX2_at wsX2_at) := goodIn_app (goodIn_of _ (by decide +kernel)) ggX11_worth_X2_at
set_option maxRecDepth 20000 in
theorem ggX11_worth_X9_place : GoodIn wsX11_worth wsX9_place := goodIn_r _ [21, 22, 23, 4, 5, 6, 7, 8, 9, 24, 25, 26, 27, 28, 29, 30, 31, 32, 33, 34, 35, 56, 57, 58, 59, 60, 51, 52, 53, 54, 55, 65, 66, 67, 68] rfl (by decide +kernel)
set_option maxRecDepth 20000 in
theorem gX11_worth_X9_place : GoodIn wsX11_worth (wsV RX11 213 RX9 yX9_place wsX9_place) := goodIn_app (goodIn_of _ (by decide +kernel)) ggX11_worth_X9_place
set_option maxRecDepth 20000 in
theorem ggX11_worth_X5_told : GoodIn wsX11_worth wsX5_told := goodIn_r _ [40, 41, 42, 31, 32, 33, 34, 35, 69, 70, 68] rfl (by decide +kernel)
set_option maxRecDepth 20000 in
theorem gX11_worth_X5_told : GoodIn wsX11_worth (wsV RX11 127 RX5 yX5_told wsX5_told) := goodIn_app (goodIn_of _ (by decide +kernel)) ggX11_worth_X5_told
set_option maxRecDepth 20000 in
theorem ggX11_isAcross_X11_isWithin : GoodIn wsX11_isAcross wsX11_isWithin := goodIn_r _ [4] rfl (by decide +kernel)
set_option maxRecDepth 20000 in
theorem gX11_isAcross_X11_isWithin : GoodIn wsX11_isAcross (va_wsS RX11 70 yX11_isWithin wsX11_isWithin) := goodIn_app (goodIn_of _ (by decide +kernel)) ggX11_isAcross_X11_isWithin
set_option maxRecDepth 20000 in
theorem ggX12_flyer_X12_isIn : GoodIn wsX12_flyer wsX12_isIn := goodIn_r _ [12] rfl (by decide +kernel)
set_option maxRecDepth 20000 in
theorem gX12_flyer_X12_isIn : GoodIn wsX12_flyer (va_wsS RX12 150 yX12_isIn wsX12_isIn) := goodIn_app (goodIn_of _ (by decide +kernel)) ggX12_flyer_X12_isIn
set_option maxRecDepth 20000 in
theorem ggX12_feed_X12_isIn : GoodIn wsX12_feed wsX12_isIn := goodIn_r _ [8] rfl (by decide +kernel)
set_option maxRecDepth 20000 in
theorem gX12_feed_X12_isIn : GoodIn wsX12_feed (va_wsS RX12 150 yX12_isIn wsX12_isIn) := goodIn_app (goodIn_of _ (by decide +kernel)) ggX12_feed_X12_isIn
set_option maxRecDepth 20000 in
theorem ggX12_takes_X12_sign : GoodIn wsX12_takes wsX12_sign := goodIn_r _ [6, 1, 7, 8, 9, 10, 11, 12, 13, 14, 15, 16, 17, 18, 19, 20, 21, 22, 23, 24, 25, 26, 27, 28, 29, 30, 31, 32, 33, 34, 35, 36, 37, 38, 39, 40, 41, 42, 43, 44, 45, 46, 47, 48, 49, 50, 51, 52, 53, 54, 55, 56, 57, 58, 59, 60, 61] rfl (by decide +kernel)
set_option maxRecDepth 20000 in
theorem gX12_takes_X12_sign : GoodIn wsX12_takes (wsV RX12 169 RX12 yX12_sign wsX12_sign) := goodIn_app (goodIn_of _ (by decide +kernel)) ggX12_takes_X12_sign
set_option maxRecDepth 20000 in
theorem ggX12_number_X12_takes : GoodIn wsX12_number wsX12_takes := goodIn_r _ [7, 1, 8, 9, 10, 6, 11, 12, 13, 17, 18, 19, 20, 21, 22, 23, 24, 25, 26, 27, 28, 29, 30, 31, 32, 33, 34, 35, 36, 37, 38, 39, 40, 41, 42, 43, 44, 45, 46, 47, 48, 49, 50, 51, 52, 53, 54, 55, 56, 57, 58, 59, 60, 61, 62, 63, 64, 65, 66, 67, 68, 69] rfl (by decide +kernel)
set_option maxRecDepth 20000 in
theorem gX12_number_X12_takes : GoodIn wsX12_number (wsV RX12 173 RX12 yX12_takes wsX12_takes) := goodIn_app (goodIn_of _ (by decide +kernel)) ggX12_number_X12_takes
set_option maxRecDepth 20000 in
theorem ggX12_number_X12_sign : GoodIn wsX12_number wsX12_sign := goodIn_r _ [11, 1, 12, 13, 17, 18, 19, 20, 21, 22, 23, 24, 25, 26, 27, 28, 29, 30, 31, 32, 33, 34, 35, 36, 37, 38, 39, 40, 41, 42, 43, 44, 45, 46, 47, 48, 49, 50, 51, 52, 53, 54, 55, 56, 57, 58, 59, 60, 61, 62, 63, 64, 65, 66, 67, 68, 69] rfl (by decide +kernel)
set_option maxRecDepth 20000 in
theorem gX12_number_X12_sign : GoodIn wsX12_number (wsV RX12 169 RX12 yX12_sign wsX12_sign) := goodIn_app (goodIn_of _ (by decide +kernel)) ggX12_number_X12_sign
set_option maxRecDepth 20000 in
theorem ggX12_number_X12_isDigit : GoodIn wsX12_number wsX12_isDigit := goodIn_r _ [16] rfl (by decide +kernel)
set_option maxRecDepth 20000 in
theorem gX12_number_X12_isDigit : GoodIn wsX12_number (va_wsS RX12 177 yX12_isDigit wsX12_isDigit) := goodIn_app (goodIn_of _ (by decide +kernel)) ggX12_number_X12_isDigit
set_option maxRecDepth 20000 in
theorem ggX12_point_X12_number : GoodIn wsX12_point wsX12_number := goodIn_r _ [11, 6, 2, 12, 13, 14, 10, 15, 16, 17, 18, 19, 20, 21, 22, 23, 24, 25, 26, 27, 28, 29, 30, 31, 32, 33, 34, 35, 36, 37, 38, 39, 40, 41, 42, 43, 44, 45, 46, 47, 48, 49, 50, 51, 52, 53, 54, 55, 56, 57, 58, 59, 60, 61, 62, 63, 64, 65, 66, 67, 68, 69, 70, 71, 72, 73, 74, 75, 76, 77] rfl (by decide +kernel)
set_option maxRecDepth 20000 in
theorem gX12_point_X12_number : GoodIn wsX12_point (wsV RX12 183 RX12 yX12_number wsX12_number) := goodIn_app (goodIn_of _ (by decide +kernel)) ggX12_point_X12_number
set_option maxRecDepth 20000 in
theorem ggX12_point_X12_takes : GoodIn wsX12_point wsX12_takes := goodIn_r _ [15, 6, 16, 17, 18, 10, 19, 20, 21, 25, 26, 27, 28, 29, 30, 31, 32, 33, 34, 35, 36, 37, 38, 39, 40, 41, 42, 43, 44, 45, 46, 47, 48, 49, 50, 51, 52, 53, 54, 55, 56, 57, 58, 59, 60, 61, 62, 63, 64, 65, 66, 67, 68, 69, 70, 71, 72, 73, 74, 75, 76, 77] rfl (by decide +kernel)
set_option maxRecDepth 20000 in
theorem gX12_point_X12_takes : GoodIn wsX12_point (wsV RX12 173 RX12 yX12_takes wsX12_takes) := goodIn_app (goodIn_of _ (by decide +kernel)) ggX12_point_X12_takes
set_option maxRecDepth 20000 in
theorem ggX12_point_X12_sign : GoodIn wsX12_point wsX12_sign := goodIn_r _ [19, 6, 20, 21, 25, 26, 27, 28, 29, 30, 31, 32, 33, 34, 35, 36, 37, 38, 39, 40, 41, 42, 43, 44, 45, 46, 47, 48, 49, 50, 51, 52, 53, 54, 55, 56, 57, 58, 59, 60, 61, 62, 63, 64, 65, 66, 67, 68, 69, 70, 71, 72, 73, 74, 75, 76, 77] rfl (by decide +kernel)
set_option maxRecDepth 20000 in
theorem gX12_point_X12_sign : GoodIn wsX12_point (wsV RX12 169 RX12 yX12_sign wsX12_sign) := goodIn_app (goodIn_of _ (by decide +kernel)) ggX12_point_X12_sign
set_option maxRecDepth 20000 in
theorem ggX12_point_X12_isDigit : GoodIn wsX12_point wsX12_isDigit := goodIn_r _ [24] rfl (by decide +kernel)
set_option maxRecDepth 20000 in
theorem gX12_point_X12_isDigit : GoodIn wsX12_point (va_wsS RX12 177 yX12_isDigit wsX12_isDigit) := goodIn_app (goodIn_of _ (by decide +kernel)) ggX12_point_X12_isDigit
set_option maxRecDepth 20000 in
theorem ggX12_points_X12_point : GoodIn wsX12_points wsX12_point := goodIn_r _ [8, 9, 10, 11, 12, 13, 1, 14, 15, 16, 7, 17, 18, 19, 20, 21, 22, 23, 24, 25, 3, 26, 27, 28, 29, 30, 31, 32, 33, 34, 35, 36, 37, 38, 39, 40, 41, 42, 43, 44, 45, 46, 47, 48, 49, 50, 51, 52, 53, 54, 55, 56, 57, 58, 59, 60, 61, 62, 63, 64, 65, 66, 67, 68, 69, 70, 71, 72, 73, 74, 75, 76, 77, 78, 79, 80, 81, 82] rfl (by decide +kernel)
set_option maxRecDepth 20000 in
theorem gX12_points_X12_point : GoodIn wsX12_points (wsV RX12 186 RX12 yX12_point wsX12_point) := goodIn_app (goodIn_of _ (by decide +kernel)) ggX12_points_X12_point
set_option maxRecDepth 20000 in
theorem ggX12_points_X12_takes : GoodIn wsX12_points wsX12_takes := goodIn_r _ [21, 1, 22, 23, 24, 7, 25, 3, 26, 30, 31, 32, 33, 34, 35, 36, 37, 38, 39, 40, 41, 42, 43, 44, 45, 46, 47, 48, 49, 50, 51, 52, 53, 54, 55, 56, 57, 58, 59, 60, 61, 62, 63, 64, 65, 66, 67, 68, 69, 70, 71, 72, 73, 74, 75, 76, 77, 78, 79, 80, 81, 82] rfl (by decide +kernel)
set_option maxRecDepth 20000 in
theorem gX12_points_X12_takes : GoodIn wsX12_points (wsV RX12 173 RX12 yX12_takes wsX12_takes) := goodIn_app (goodIn_of _ (by decide +kernel)) ggX12_points_X12_takes
set_option maxRecDepth 20000 in
theorem ggX12_figure_X12_points : GoodIn wsX12_figure wsX12_points := goodIn_r _ [9, 3, 1, 2, 10, 11, 12, 8, 13, 14, 15, 16, 17, 18, 19, 20, 21, 22, 23, 24, 25, 26, 27, 28, 29, 30, 31, 32, 33, 34, 35, 36, 37, 38, 39, 40, 41, 42, 43, 44, 45, 46, 47, 48, 49, 50, 51, 52, 53, 54, 55, 56, 57, 58, 59, 60, 61, 62, 63, 64, 65, 66, 67, 68, 69, 70, 71, 72, 73, 74, 75, 76, 77, 78, 79, 80, 81, 82, 83, 84, 85, 86, 87] rfl (by decide +kernel)
set_option maxRecDepth 20000 in
theorem gX12_figure_X12_points : GoodIn wsX12_figure (wsV RX12 189 RX12 yX12_points wsX12_points) := goodIn_app (goodIn_of _ (by decide +kernel)) ggX12_figure_X12_points
set_option maxRecDepth 20000 in
theorem ggX12_apart_X12_square : GoodIn wsX12_apart wsX12_square := goodIn_r _ [7] rfl (by decide +kernel)
set_option maxRecDepth 20000 in
theorem gX12_apart_X12_square : GoodIn wsX12_apart (va_wsS RX12 192 yX12_square wsX12_square) := goodIn_app (goodIn_of _ (by decide +kernel)) ggX12_apart_X12_square
set_option maxRecDepth 20000 in
theorem ggX12_least_X12_apart : GoodIn wsX12_least wsX12_apart := goodIn_r _ [6, 7, 8, 9, 10, 11, 5, 12, 13, 14, 15, 16, 17, 18, 19, 20, 21, 22, 23, 24, 25, 26, 27, 28, 29, 30, 31, 32, 33, 34, 35, 36, 37, 38, 39, 40, 41, 42, 43, 44, 45, 46, 47, 48, 49, 50, 51, 52, 53, 54, 55, 56, 57, 58, 59, 60, 61, 62, 63, 64, 65] rfl (by decide +kernel)
set_option maxRecDepth 20000 in
theorem gX12_least_X12_apart : GoodIn wsX12_least (wsV RX12 196 RX12 yX12_apart wsX12_apart) := goodIn_app (goodIn_of _ (by decide +kernel)) ggX12_least_X12_apart
set_option maxRecDepth 20000 in
theorem ggX12_point__X12_isFigure : GoodIn wsX12_point_ wsX12_isFigure := goodIn_r _ [12, 13, 28, 29, 30, 31, 32, 33, 34, 35, 36, 37, 38, 39, 40, 41, 42, 43, 44, 45, 46, 47, 48, 49, 50, 51, 52, 53, 54, 55, 56, 57, 58, 59, 60, 61, 62, 63, 64, 65, 66, 67, 68, 69, 70, 71, 72, 73, 74, 75, 76, 77, 78, 79, 80] rfl (by decide +kernel)
set_option maxRecDepth 20000 in
theorem gX12_point__X12_isFigure : GoodIn wsX12_point_ (wsV RX12 200 RX12 yX12_isFigure wsX12_isFigure) := goodIn_app (goodIn_of _ (by decide +kernel)) ggX12_point__X12_isFigure
set_option maxRecDepth 20000 in
theorem ggX12_point__X12_isIn : GoodIn wsX12_point_ wsX12_isIn := goodIn_r _ [16] rfl (by decide +kernel)
set_option maxRecDepth 20000 in
theorem gX12_point__X12_isIn : GoodIn wsX12_point_ (va_wsS RX12 150 yX12_isIn wsX12_isIn) := goodIn_app (goodIn_of _ (by decide +kernel)) ggX12_point__X12_isIn
set_option maxRecDepth 20000 in
theorem ggX12_point__X12_least : GoodIn wsX12_point_ wsX12_least := goodIn_r _ [20, 2, 21, 22, 23, 11, 24, 4, 5, 6, 25, 26, 27, 28, 29, 30, 31, 32, 33, 34, 35, 36, 37, 38, 39, 40, 41, 42, 43, 44, 45, 46, 47, 48, 49, 50, 51, 52, 53, 54, 55, 56, 57, 58, 59, 60, 61, 62, 63, 64, 65, 66, 67, 68, 69, 70, 71, 72, 73, 74, 75, 76, 77, 78, 79, 80] rfl (by decide +kernel)
set_option maxRecDepth 20000 in
theorem gX12_point__X12_least : GoodIn wsX12_point_ (wsV RX12 205 RX12 yX12_least wsX12_least) := goodIn_app (goodIn_of _ (by decide +kernel)) ggX12_point__X12_least
set_option maxRecDepth 20000 in
theorem ggX12_spread_X12_isFigure : GoodIn wsX12_spread wsX12_isFigure := goodIn_r _ [5, 6, 22, 23, 24, 25, 26, 27, 28, 29, 30, 31, 32, 33, 34, 35, 36, 37, 38, 39, 40, 41, 42, 43, 44, 45, 46, 47, 48, 49, 50, 51, 52, 53, 54, 55, 56, 57, 58, 59, 60, 61, 62, 63, 64, 65, 66, 67, 68, 69, 70, 71, 72, 73, 74] rfl (by decide +kernel)
set_option maxRecDepth 20000 in
theorem gX12_spread_X12_isFigure : GoodIn wsX12_spread (wsV RX12 200 RX12 yX12_isFigure wsX12_isFigure) := goodIn_app (goodIn_of _ (by decide +kernel)) ggX12_spread_X12_isFigure
set_option maxRecDepth 20000 in
theorem ggX12_spread_X12_least : GoodIn wsX12_spread wsX12_least := goodIn_r _ [10, 11, 12, 13, 14, 4, 15, 16, 17, 18, 19, 20, 21, 22, 23, 24, 25, 26, 27, 28, 29, 30, 31, 32, 33, 34, 35, 36, 37, 38, 39, 40, 41, 42, 43, 44, 45, 46, 47, 48, 49, 50, 51, 52, 53, 54, 55, 56, 57, 58, 59, 60, 61, 62, 63, 64, 65, 66, 67, 68, 69, 70, 71, 72, 73, 74] rfl (by decide +kernel)
set_option maxRecDepth 20000 in
theorem gX12_spread_X12_least : GoodIn wsX12_spread (wsV RX12 205 RX12 yX12_least wsX12_least) := goodIn_app (goodIn_of _ (by decide +kernel)) ggX12_spread_X12_least
set_option maxRecDepth 20000 in
theorem ggX12_gap_X12_isIn : GoodIn wsX12_gap wsX12_isIn := goodIn_r _ [6] rfl (by decide +kernel)
set_option maxRecDepth 20000 in
theorem gX12_gap_X12_isIn : GoodIn wsX12_gap (va_wsS RX12 150 yX12_isIn wsX12_isIn) := goodIn_app (goodIn_of _ (by decide +kernel)) ggX12_gap_X12_isIn
set_option maxRecDepth 20000 in
theorem ggX12_zone_X12_isIn : GoodIn wsX12_zone wsX12_isIn := goodIn_r _ [9] rfl (by decide +kernel)
set_option maxRecDepth 20000 in
theorem gX12_zone_X12_isIn : GoodIn wsX12_zone (va_wsS RX12 150 yX12_isIn wsX12_isIn) := goodIn_app (goodIn_of _ (by decide +kernel)) ggX12_zone_X12_isIn
set_option maxRecDepth 20000 in
theorem ggX12_placeX_X12_gone : GoodIn wsX12_placeX wsX12_gone := goodIn_r _ [7, 8, 9, 10, 11, 12, 13, 14, 15, 16, 17, 18, 19, 20, 21, 22, 23, 24, 25, 26, 27, 28, 29, 30, 31, 32, 33, 34, 35, 36, 37, 38, 39, 40, 41, 42, 43, 44, 45, 46, 47, 48, 49, 50, 51, 52, 53, 54, 55, 56, 57, 58, 59, 60, 61] rfl (by decide +kernel)
set_option maxRecDepth 20000 in
theorem gX12_placeX_X12_gone : GoodIn wsX12_placeX (wsV RX12 219 RX12 yX12_gone wsX12_gone) := goodIn_app (goodIn_of _ (by decide +kernel)) ggX12_placeX_X12_gone
set_option maxRecDepth 20000 in
theorem ggX12_placeY_X12_gone : GoodIn wsX12_placeY wsX12_gone := goodIn_r _ [7, 8, 9, 10, 11, 12, 13, 14, 15, 16, 17, 18, 19, 20, 21, 22, 23, 24, 25, 26, 27, 28, 29, 30, 31, 32, 33, 34, 35, 36, 37, 38, 39, 40, 41, 42, 43, 44, 45, 46, 47, 48, 49, 50, 51, 52, 53, 54, 55, 56, 57, 58, 59, 60, 61] rfl (by decide +kernel)
set_option maxRecDepth 20000 in
theorem gX12_placeY_X12_gone : GoodIn wsX12_placeY (wsV RX12 219 RX12 yX12_gone wsX12_gone) := goodIn_app (goodIn_of _ (by decide +kernel)) ggX12_placeY_X12_gone
set_option maxRecDepth 20000 in
theorem ggX12_placeZ_X12_gone : GoodIn wsX12_placeZ wsX12_gone := goodIn_r _ [7, 8, 9, 10, 11, 12, 13, 14, 15, 16, 17, 18, 19, 20, 21, 22, 23, 24, 25, 26, 27, 28, 29, 30, 31, 32, 33, 34, 35, 36, 37, 38, 39, 40, 41, 42, 43, 44, 45, 46, 47, 48, 49, 50, 51, 52, 53, 54, 55, 56, 57, 58, 59, 60, 61] rfl (by decide +kernel)
set_option maxRecDepth 20000 in
theorem gX12_placeZ_X12_gone : GoodIn wsX12_placeZ (wsV RX12 219 RX12 yX12_gone wsX12_gone) := goodIn_app (goodIn_of _ (by decide +kernel)) ggX12_placeZ_X12_gone
set_option maxRecDepth 20000 in
theorem ggX12_clash_X12_placeX : GoodIn wsX12_clash wsX12_placeX := goodIn_r _ [6, 7, 8, 9, 10, 11, 5, 12, 13, 29, 30, 31, 32, 33, 34, 35, 36, 37, 38, 39, 40, 41, 42, 43, 44, 45, 46, 47, 48, 49, 50, 51, 52, 53, 54, 55, 56, 57, 58, 59, 60, 61, 62, 63, 64, 65, 66, 67, 68, 69, 70, 71, 72, 73, 74, 75, 76, 77, 78, 79, 80, 81] rfl (by decide +kernel)
set_option maxRecDepth 20000 in
theorem gX12_clash_X12_placeX : GoodIn wsX12_clash (wsV RX12 223 RX12 yX12_placeX wsX12_placeX) := goodIn_app (goodIn_of _ (by decide +kernel)) ggX12_clash_X12_placeX
set_option maxRecDepth 20000 in
theorem ggX12_clash_X12_placeY : GoodIn wsX12_clash wsX12_placeY := goodIn_r _ [17, 18, 19, 9, 10, 11, 5, 12, 13, 29, 30, 31, 32, 33, 34, 35, 36, 37, 38, 39, 40, 41, 42, 43, 44, 45, 46, 47, 48, 49, 50, 51, 52, 53, 54, 55, 56, 57, 58, 59, 60, 61, 62, 63, 64, 65, 66, 67, 68, 69, 70, 71, 72, 73, 74, 75, 76, 77, 78, 79, 80, 81] rfl (by decide +kernel)
set_option maxRecDepth 20000 in
theorem gX12_clash_X12_placeY : GoodIn wsX12_clash (wsV RX12 226 RX12 yX12_placeY wsX12_placeY) := goodIn_app (goodIn_of _ (by decide +kernel)) ggX12_clash_X12_placeY
set_option maxRecDepth 20000 in
theorem ggX12_clash_X12_placeZ : GoodIn wsX12_clash wsX12_placeZ := goodIn_r _ [23, 24, 25, 9, 10, 11, 5, 12, 13, 29, 30, 31, 32, 33, 34, 35, 36, 37, 38, 39, 40, 41, 42, 43, 44, 45, 46, 47, 48, 49, 50, 51, 52, 53, 54, 55, 56, 57, 58, 59, 60, 61, 62, 63, 64, 65, 66, 67, 68, 69, 70, 71, 72, 73, 74, 75, 76, 77, 78, 79, 80, 81] rfl (by decide +kernel)
set_option maxRecDepth 20000 in
theorem gX12_clash_X12_placeZ : GoodIn wsX12_clash (wsV RX12 229 RX12 yX12_placeZ wsX12_placeZ) := goodIn_app (goodIn_of _ (by decide +kernel)) ggX12_clash_X12_placeZ
set_option maxRecDepth 20000 in
theorem ggX12_clash_X12_isNear : GoodIn wsX12_clash wsX12_isNear := goodIn_r _ [28] rfl (by decide +kernel)
set_option maxRecDepth 20000 in
theorem gX12_clash_X12_isNear : GoodIn wsX12_clash (va_wsS RX12 232 yX12_isNear wsX12_isNear) := goodIn_app (goodIn_of _ (by decide +kernel)) ggX12_clash_X12_isNear
set_option maxRecDepth 20000 in
theorem ggX12_enters_X12_placeX : GoodIn wsX12_enters wsX12_placeX := goodIn_r _ [8, 9, 10, 11, 12, 13, 7, 14, 15, 25, 26, 27, 28, 29, 30, 31, 32, 33, 34, 35, 36, 37, 38, 39, 40, 41, 42, 43, 44, 45, 46, 47, 48, 49, 50, 51, 52, 53, 54, 55, 56, 57, 58, 59, 60, 61, 62, 63, 64, 65, 66, 67, 68, 69, 70, 71, 72, 73, 74, 75, 76, 77] rfl (by decide +kernel)
set_option maxRecDepth 20000 in
theorem gX12_enters_X12_placeX : GoodIn wsX12_enters (wsV RX12 223 RX12 yX12_placeX wsX12_placeX) := goodIn_app (goodIn_of _ (by decide +kernel)) ggX12_enters_X12_placeX
set_option maxRecDepth 20000 in
theorem ggX12_enters_X12_placeY : GoodIn wsX12_enters wsX12_placeY := goodIn_r _ [19, 20, 21, 11, 12, 13, 7, 14, 15, 25, 26, 27, 28, 29, 30, 31, 32, 33, 34, 35, 36, 37, 38, 39, 40, 41, 42, 43, 44, 45, 46, 47, 48, 49, 50, 51, 52, 53, 54, 55, 56, 57, 58, 59, 60, 61, 62, 63, 64, 65, 66, 67, 68, 69, 70, 71, 72, 73, 74, 75, 76, 77] rfl (by decide +kernel)
set_option maxRecDepth 20000 in
theorem gX12_enters_X12_placeY : GoodIn wsX12_enters (wsV RX12 226 RX12 yX12_placeY wsX12_placeY) := goodIn_app (goodIn_of _ (by decide +kernel)) ggX12_enters_X12_placeY
set_option maxRecDepth 20000 in
theorem ggX12_enters_X12_isNear : GoodIn wsX12_enters wsX12_isNear := goodIn_r _ [24] rfl (by decide +kernel)
set_option maxRecDepth 20000 in
theorem gX12_enters_X12_isNear : GoodIn wsX12_enters (va_wsS RX12 232 yX12_isNear wsX12_isNear) := goodIn_app (goodIn_of _ (by decide +kernel)) ggX12_enters_X12_isNear
set_option maxRecDepth 20000 in
theorem ggX12_isClean_X12_enters : GoodIn wsX12_isClean wsX12_enters := goodIn_r _ [7, 8, 9, 10, 11, 12, 13, 6, 14, 15, 16, 17, 18, 19, 20, 21, 22, 23, 24, 25, 26, 27, 28, 29, 30, 42, 43, 44, 45, 46, 47, 48, 49, 50, 51, 52, 53, 54, 55, 56, 57, 58, 59, 60, 61, 62, 63, 64, 65, 66, 67, 68, 69, 70, 71, 72, 73, 74, 75, 76, 77, 78, 79, 80, 81, 82, 83, 84, 85, 86, 87, 88, 89, 90, 91, 92, 93, 94] rfl (by decide +kernel)
set_option maxRecDepth 20000 in
theorem gX12_isClean_X12_enters : GoodIn wsX12_isClean (wsV RX12 236 RX12 yX12_enters wsX12_enters) := goodIn_app (goodIn_of _ (by decide +kernel)) ggX12_isClean_X12_enters
set_option maxRecDepth 20000 in
theorem ggX12_isClean_X12_clash : GoodIn wsX12_isClean wsX12_clash := goodIn_r _ [34, 35, 11, 12, 13, 6, 14, 15, 16, 17, 18, 19, 20, 21, 22, 23, 24, 25, 26, 27, 36, 37, 38, 39, 40, 41, 28, 29, 30, 42, 43, 44, 45, 46, 47, 48, 49, 50, 51, 52, 53, 54, 55, 56, 57, 58, 59, 60, 61, 62, 63, 64, 65, 66, 67, 68, 69, 70, 71, 72, 73, 74, 75, 76, 77, 78, 79, 80, 81, 82, 83, 84, 85, 86, 87, 88, 89, 90, 91, 92, 93, 94] rfl (by decide +kernel)
set_option maxRecDepth 20000 in
theorem gX12_isClean_X12_clash : GoodIn wsX12_isClean (wsV RX12 240 RX12 yX12_clash wsX12_clash) := goodIn_app (goodIn_of _ (by decide +kernel)) ggX12_isClean_X12_clash
set_option maxRecDepth 20000 in
theorem ggX12_assigns_X12_square : GoodIn wsX12_assigns wsX12_square := goodIn_r _ [18] rfl (by decide +kernel)
set_option maxRecDepth 20000 in
theorem gX12_assigns_X12_square : GoodIn wsX12_assigns (va_wsS RX12 192 yX12_square wsX12_square) := goodIn_app (goodIn_of _ (by decide +kernel)) ggX12_assigns_X12_square
set_option maxRecDepth 20000 in
theorem ggX12_assigns_X12_bits : GoodIn wsX12_assigns wsX12_bits := goodIn_r _ [21] rfl (by decide +kernel)
set_option maxRecDepth 20000 in
theorem gX12_assigns_X12_bits : GoodIn wsX12_assigns (va_wsS RX12 244 yX12_bits wsX12_bits) := goodIn_app (goodIn_of _ (by decide +kernel)) ggX12_assigns_X12_bits
set_option maxRecDepth 20000 in
theorem ggX12_assigns_X12_greater : GoodIn wsX12_assigns wsX12_greater := goodIn_r _ [24] rfl (by decide +kernel)
set_option maxRecDepth 20000 in
theorem gX12_assigns_X12_greater : GoodIn wsX12_assigns (va_wsS RX12 248 yX12_greater wsX12_greater) := goodIn_app (goodIn_of _ (by decide +kernel)) ggX12_assigns_X12_greater
set_option maxRecDepth 20000 in
theorem ggX12_pass_X12_isFigure : GoodIn wsX12_pass wsX12_isFigure := goodIn_r _ [10, 11, 52, 53, 54, 55, 56, 57, 58, 59, 60, 61, 62, 63, 64, 65, 66, 67, 68, 69, 70, 71, 72, 73, 74, 75, 76, 77, 78, 79, 80, 81, 82, 83, 84, 85, 86, 87, 88, 89, 90, 91, 92, 93, 94, 95, 96, 97, 98, 99, 100, 101, 102, 103, 104] rfl (by decide +kernel)
set_option maxRecDepth 20000 in
theorem gX12_pass_X12_isFigure : GoodIn wsX12_pass (wsV RX12 200 RX12 yX12_isFigure wsX12_isFigure) := goodIn_app (goodIn_of _ (by decide +kernel)) ggX12_pass_X12_isFigure
set_option maxRecDepth 20000 in
theorem ggX12_pass_X12_isIn : GoodIn wsX12_pass wsX12_isIn := goodIn_r _ [14] rfl (by decide +kernel)
set_option maxRecDepth 20000 in
theorem gX12_pass_X12_isIn : GoodIn wsX12_pass (va_wsS RX12 150 yX12_isIn wsX12_isIn) := goodIn_app (goodIn_of _ (by decide +kernel)) ggX12_pass_X12_isIn
set_option maxRecDepth 20000 in
theorem ggX12_pass_X12_begins : GoodIn wsX12_pass wsX12_begins := goodIn_r _ [18, 2, 3, 19, 20, 21, 22, 23, 24, 25, 26, 27, 28, 29, 30, 31, 32, 52, 53, 54, 55, 56, 57, 58, 59, 60, 61, 62, 63, 64, 65, 66, 67, 68, 69, 70, 71, 72, 73, 74, 75, 76, 77, 78, 79, 80, 81, 82, 83, 84, 85, 86, 87, 88, 89, 90, 91, 92, 93, 94, 95, 96, 97, 98, 99, 100, 101, 102, 103, 104] rfl (by decide +kernel)
set_option maxRecDepth 20000 in
theorem gX12_pass_X12_begins : GoodIn wsX12_pass (wsV RX12 253 RX12 yX12_begins wsX12_begins) := goodIn_app (goodIn_of _ (by decide +kernel)) ggX12_pass_X12_begins
set_option maxRecDepth 20000 in
theorem ggX12_pass_X12_assigns : GoodIn wsX12_pass wsX12_assigns := goodIn_r _ [36, 20, 37, 21, 29, 24, 30, 27, 31, 38, 39, 5, 40, 41, 42, 43, 44, 9, 45, 46, 47, 48, 49, 50, 51, 52, 53, 54, 55, 56, 57, 58, 59, 60, 61, 62, 63, 64, 65, 66, 67, 68, 69, 70, 71, 72, 73, 74, 75, 76, 77, 78, 79, 80, 81, 82, 83, 84, 85, 86, 87, 88, 89, 90, 91, 92, 93, 94, 95, 96, 97, 98, 99, 100, 101, 102, 103, 104] rfl (by decide +kernel)
set_option maxRecDepth 20000 in
theorem gX12_pass_X12_assigns : GoodIn wsX12_pass (wsV RX12 257 RX12 yX12_assigns wsX12_assigns) := goodIn_app (goodIn_of _ (by decide +kernel)) ggX12_pass_X12_assigns
set_option maxRecDepth 20000 in
theorem ggX12_goes_X12_isOfPass : GoodIn wsX12_goes wsX12_isOfPass := goodIn_r _ [6, 7, 8, 9, 10, 11, 12, 13, 14, 15, 16, 17, 18, 19, 20, 21, 22, 23, 24, 25, 26, 27, 28, 29, 30, 31, 32, 33, 34, 35, 36, 37, 38, 39, 40, 41, 42, 43, 44, 45, 46, 47, 48, 49, 50, 51, 52, 53, 54, 55, 56, 57, 58, 59, 60] rfl (by decide +kernel)
set_option maxRecDepth 20000 in
theorem gX12_goes_X12_isOfPass : GoodIn wsX12_goes (wsV RX12 260 RX12 yX12_isOfPass wsX12_isOfPass) := goodIn_app (goodIn_of _ (by decide +kernel)) ggX12_goes_X12_isOfPass
set_option maxRecDepth 20000 in
theorem ggX12_delay_X12_isOfPass : GoodIn wsX12_delay wsX12_isOfPass := goodIn_r _ [7, 8, 12, 13, 14, 15, 16, 17, 18, 19, 20, 21, 22, 23, 24, 25, 26, 27, 28, 29, 30, 31, 32, 33, 34, 35, 36, 37, 38, 39, 40, 41, 42, 43, 44, 45, 46, 47, 48, 49, 50, 51, 52, 53, 54, 55, 56, 57, 58, 59, 60, 61, 62, 63, 64] rfl (by decide +kernel)
set_option maxRecDepth 20000 in
theorem gX12_delay_X12_isOfPass : GoodIn wsX12_delay (wsV RX12 260 RX12 yX12_isOfPass wsX12_isOfPass) := goodIn_app (goodIn_of _ (by decide +kernel)) ggX12_delay_X12_isOfPass
set_option maxRecDepth 20000 in
theorem ggX12_delay_X12_isIn : GoodIn wsX12_delay wsX12_isIn := goodIn_r _ [11] rfl (by decide +kernel)
set_option maxRecDepth 20000 in
theorem gX12_delay_X12_isIn : GoodIn wsX12_delay (va_wsS RX12 150 yX12_isIn wsX12_isIn) := goodIn_app (goodIn_of _ (by decide +kernel)) ggX12_delay_X12_isIn
set_option maxRecDepth 20000 in
theorem ggX12_clash__X12_isOfPass : GoodIn wsX12_clash_ wsX12_isOfPass := goodIn_r _ [6, 7, 39, 40, 41, 42, 43, 44, 45, 46, 47, 48, 49, 50, 51, 52, 53, 54, 55, 56, 57, 58, 59, 60, 61, 62, 63, 64, 65, 66, 67, 68, 69, 70, 71, 72, 73, 74, 75, 76, 77, 78, 79, 80, 81, 82, 83, 84, 85, 86, 87, 88, 89, 90, 91] rfl (by decide +kernel)
set_option maxRecDepth 20000 in
theorem gX12_clash__X12_isOfPass : GoodIn wsX12_clash_ (wsV RX12 260 RX12 yX12_isOfPass wsX12_isOfPass) := goodIn_app (goodIn_of _ (by decide +kernel)) ggX12_clash__X12_isOfPass
set_option maxRecDepth 20000 in
theorem ggX12_clash__X12_clash : GoodIn wsX12_clash_ wsX12_clash := goodIn_r _ [11, 12, 13, 14, 15, 5, 16, 17, 18, 19, 20, 21, 22, 23, 24, 25, 26, 27, 28, 29, 30, 31, 32, 33, 34, 35, 36, 37, 38, 39, 40, 41, 42, 43, 44, 45, 46, 47, 48, 49, 50, 51, 52, 53, 54, 55, 56, 57, 58, 59, 60, 61, 62, 63, 64, 65, 66, 67, 68, 69, 70, 71, 72, 73, 74, 75, 76, 77, 78, 79, 80, 81, 82, 83, 84, 85, 86, 87, 88, 89, 90, 91] rfl (by decide +kernel)
set_option maxRecDepth 20000 in
theorem gX12_clash__X12_clash : GoodIn wsX12_clash_ (wsV RX12 240 RX12 yX12_clash wsX12_clash) := goodIn_app (goodIn_of _ (by decide +kernel)) ggX12_clash__X12_clash
set_option maxRecDepth 20000 in
theorem ggX12_enters__X12_isOfPass : GoodIn wsX12_enters_ wsX12_isOfPass := goodIn_r _ [6, 7, 35, 36, 37, 38, 39, 40, 41, 42, 43, 44, 45, 46, 47, 48, 49, 50, 51, 52, 53, 54, 55, 56, 57, 58, 59, 60, 61, 62, 63, 64, 65, 66, 67, 68, 69, 70, 71, 72, 73, 74, 75, 76, 77, 78, 79, 80, 81, 82, 83, 84, 85, 86, 87] rfl (by decide +kernel)
set_option maxRecDepth 20000 in
theorem gX12_enters__X12_isOfPass : GoodIn wsX12_enters_ (wsV RX12 260 RX12 yX12_isOfPass wsX12_isOfPass) := goodIn_app (goodIn_of _ (by decide +kernel)) ggX12_enters__X12_isOfPass
set_option maxRecDepth 20000 in
theorem ggX12_enters__X12_enters : GoodIn wsX12_enters_ wsX12_enters := goodIn_r _ [11, 12, 13, 14, 15, 16, 17, 5, 18, 19, 20, 21, 22, 23, 24, 25, 26, 27, 28, 29, 30, 31, 32, 33, 34, 35, 36, 37, 38, 39, 40, 41, 42, 43, 44, 45, 46, 47, 48, 49, 50, 51, 52, 53, 54, 55, 56, 57, 58, 59, 60, 61, 62, 63, 64, 65, 66, 67, 68, 69, 70, 71, 72, 73, 74, 75, 76, 77, 78, 79, 80, 81, 82, 83, 84, 85, 86, 87] rfl (by decide +kernel)
set_option maxRecDepth 20000 in
theorem gX12_enters__X12_enters : GoodIn wsX12_enters_ (wsV RX12 236 RX12 yX12_enters wsX12_enters) := goodIn_app (goodIn_of _ (by decide +kernel)) ggX12_enters__X12_enters
set_option maxRecDepth 20000 in
theorem ggX12_clean_X12_isClean : GoodIn wsX12_clean wsX12_isClean := goodIn_r _ [6, 1, 7, 8, 9, 10, 5, 11, 12, 13, 14, 15, 16, 17, 18, 19, 20, 21, 22, 23, 24, 25, 26, 27, 28, 29, 30, 31, 32, 33, 34, 35, 36, 37, 38, 39, 40, 41, 42, 43, 44, 45, 46, 47, 48, 49, 50, 51, 52, 53, 54, 55, 56, 57, 58, 59, 60, 61, 62, 63, 64, 65, 66, 67, 68, 69, 70, 71, 72, 73, 74, 75, 76, 77, 78, 79, 80, 81, 82, 83, 84, 85, 86, 87, 88, 89, 90, 91, 92, 93, 94, 95, 96, 97, 98] rfl (by decide +kernel)
set_option maxRecDepth 20000 in
theorem gX12_clean_X12_isClean : GoodIn wsX12_clean (wsV RX12 265 RX12 yX12_isClean wsX12_isClean) := goodIn_app (goodIn_of _ (by decide +kernel)) ggX12_clean_X12_isClean
set_option maxRecDepth 20000 in
theorem ggX12_part_X12_sumOf : GoodIn wsX12_part wsX12_sumOf := goodIn_r _ [7] rfl (by decide +kernel)
set_option maxRecDepth 20000 in
theorem gX12_part_X12_sumOf : GoodIn wsX12_part (va_wsS RX12 268 yX12_sumOf wsX12_sumOf) := goodIn_app (goodIn_of _ (by decide +kernel)) ggX12_part_X12_sumOf
set_option maxRecDepth 20000 in
theorem ggX12_part_X12_waits : GoodIn wsX12_part wsX12_waits := goodIn_r _ [11, 3, 54, 55, 56, 57, 58, 59, 60, 61, 62, 63, 64, 65, 66, 67, 68, 69, 70, 71, 72, 73, 74, 75, 76, 77, 78, 79, 80, 81, 82, 83, 84, 85, 86, 87, 88, 89, 90, 91, 92, 93, 94, 95, 96, 97, 98, 99, 100, 101, 102, 103, 104, 105, 106] rfl (by decide +kernel)
set_option maxRecDepth 20000 in
theorem gX12_part_X12_waits : GoodIn wsX12_part (wsV RX12 271 RX12 yX12_waits wsX12_waits) := goodIn_app (goodIn_of _ (by decide +kernel)) ggX12_part_X12_waits
set_option maxRecDepth 20000 in
theorem ggX12_part_X12_isClean : GoodIn wsX12_part wsX12_isClean := goodIn_r _ [15, 1, 16, 17, 18, 19, 6, 20, 21, 22, 23, 24, 25, 26, 27, 28, 29, 30, 31, 32, 33, 3, 34, 35, 36, 37, 38, 39, 40, 41, 42, 43, 44, 45, 46, 47, 48, 49, 50, 51, 52, 53, 54, 55, 56, 57, 58, 59, 60, 61, 62, 63, 64, 65, 66, 67, 68, 69, 70, 71, 72, 73, 74, 75, 76, 77, 78, 79, 80, 81, 82, 83, 84, 85, 86, 87, 88, 89, 90, 91, 92, 93, 94, 95, 96, 97, 98, 99, 100, 101, 102, 103, 104, 105, 106] rfl (by decide +kernel)
set_option maxRecDepth 20000 in
theorem gX12_part_X12_isClean : GoodIn wsX12_part (wsV RX12 265 RX12 yX12_isClean wsX12_isClean) := goodIn_app (goodIn_of _ (by decide +kernel)) ggX12_part_X12_isClean
set_option maxRecDepth 20000 in
theorem ggX12_looksAt_X12_begins : GoodIn wsX12_looksAt wsX12_begins := goodIn_r _ [8, 9, 10, 11, 12, 13, 14, 15, 16, 17, 18, 19, 20, 21, 22, 23, 24, 45, 46, 47, 48, 49, 50, 51, 52, 53, 54, 55, 56, 57, 58, 59, 60, 61, 62, 63, 64, 65, 66, 67, 68, 69, 70, 71, 72, 73, 74, 75, 76, 77, 78, 79, 80, 81, 82, 83, 84, 85, 86, 87, 88, 89, 90, 91, 92, 93, 94, 95, 96, 97] rfl (by decide +kernel)
set_option maxRecDepth 20000 in
theorem gX12_looksAt_X12_begins : GoodIn wsX12_looksAt (wsV RX12 253 RX12 yX12_begins wsX12_begins) := goodIn_app (goodIn_of _ (by decide +kernel)) ggX12_looksAt_X12_begins
set_option maxRecDepth 20000 in
theorem ggX12_looksAt_X12_assigns : GoodIn wsX12_looksAt wsX12_assigns := goodIn_r _ [28, 12, 29, 13, 21, 16, 22, 19, 23, 30, 31, 32, 33, 34, 35, 36, 37, 7, 38, 39, 40, 41, 42, 43, 44, 45, 46, 47, 48, 49, 50, 51, 52, 53, 54, 55, 56, 57, 58, 59, 60, 61, 62, 63, 64, 65, 66, 67, 68, 69, 70, 71, 72, 73, 74, 75, 76, 77, 78, 79, 80, 81, 82, 83, 84, 85, 86, 87, 88, 89, 90, 91, 92, 93, 94, 95, 96, 97] rfl (by decide +kernel)
set_option maxRecDepth 20000 in
theorem gX12_looksAt_X12_assigns : GoodIn wsX12_looksAt (wsV RX12 257 RX12 yX12_assigns wsX12_assigns) := goodIn_app (goodIn_of _ (by decide +kernel)) ggX12_looksAt_X12_assigns
set_option maxRecDepth 20000 in
theorem ggX12_scene_X12_isFigure : GoodIn wsX12_scene wsX12_isFigure := goodIn_r _ [17, 18, 67, 68, 69, 70, 71, 72, 73, 74, 75, 76, 77, 78, 79, 80, 81, 82, 83, 84, 85, 86, 87, 88, 89, 90, 91, 92, 93, 94, 95, 96, 97, 98, 99, 100, 101, 102, 103, 104, 105, 106, 107, 108, 109, 110, 111, 112, 113, 114, 115, 116, 117, 118, 119] rfl (by decide +kernel)
set_option maxRecDepth 20000 in
theorem gX12_scene_X12_isFigure : GoodIn wsX12_scene (wsV RX12 200 RX12 yX12_isFigure wsX12_isFigure) := goodIn_app (goodIn_of _ (by decide +kernel)) ggX12_scene_X12_isFigure
set_option maxRecDepth 20000 in
theorem ggX12_scene_X12_isIn : GoodIn wsX12_scene wsX12_isIn := goodIn_r _ [21] rfl (by decide +kernel)
set_option maxRecDepth 20000 in
theorem gX12_scene_X12_isIn : GoodIn wsX12_scene (va_wsS RX12 150 yX12_isIn wsX12_isIn) := goodIn_app (goodIn_of _ (by decide +kernel)) ggX12_scene_X12_isIn
set_option maxRecDepth 20000 in
theorem ggX12_scene_X12_looksAt : GoodIn wsX12_scene wsX12_looksAt := goodIn_r _ [25, 6, 7, 8, 26, 27, 28, 16, 29, 5, 4, 30, 31, 32, 33, 34, 35, 36, 37, 38, 39, 40, 41, 42, 43, 44, 45, 46, 47, 48, 49, 50, 12, 51, 52, 53, 54, 55, 56, 57, 58, 59, 60, 61, 62, 67, 68, 69, 70, 71, 72, 73, 74, 75, 76, 77, 78, 79, 80, 81, 82, 83, 84, 85, 86, 87, 88, 89, 90, 91, 92, 93, 94, 95, 96, 97, 98, 99, 100, 101, 102, 103, 104, 105, 106, 107, 108, 109, 110, 111, 112, 113, 114, 115, 116, 117, 118, 119] rfl (by decide +kernel)
set_option maxRecDepth 20000 in
theorem gX12_scene_X12_looksAt : GoodIn wsX12_scene (wsV RX12 275 RX12 yX12_looksAt wsX12_looksAt) := goodIn_app (goodIn_of _ (by decide +kernel)) ggX12_scene_X12_looksAt
set_option maxRecDepth 20000 in
theorem ggX12_scene_X12_pointAhead : GoodIn wsX12_scene wsX12_pointAhead := goodIn_r _ [66, 11, 67, 68, 69, 70, 71, 72, 73, 74, 75, 76, 77, 78, 79, 80, 81, 82, 83, 84, 85, 86, 87, 88, 89, 90, 91, 92, 93, 94, 95, 96, 97, 98, 99, 100, 101, 102, 103, 104, 105, 106, 107, 108, 109, 110, 111, 112, 113, 114, 115, 116, 117, 118, 119] rfl (by decide +kernel)
set_option maxRecDepth 20000 in
theorem gX12_scene_X12_pointAhead : GoodIn wsX12_scene (wsV RX12 279 RX12 yX12_pointAhead wsX12_pointAhead) := goodIn_app (goodIn_of _ (by decide +kernel)) ggX12_scene_X12_pointAhead
set_option maxRecDepth 20000 in
theorem ggX12_stands_X12_isFlyer : GoodIn wsX12_stands wsX12_isFlyer := goodIn_r _ [6, 7, 13, 14, 15, 16, 17, 18, 19, 20, 21, 22, 23, 24, 25, 26, 27, 28, 29, 30, 31, 32, 33, 34, 35, 36, 37, 38, 39, 40, 41, 42, 43, 44, 45, 46, 47, 48, 49, 50, 51, 52, 53, 54, 55, 56, 57, 58, 59, 60, 61, 62, 63, 64, 65] rfl (by decide +kernel)
set_option maxRecDepth 20000 in
theorem gX12_stands_X12_isFlyer : GoodIn wsX12_stands (wsV RX12 282 RX12 yX12_isFlyer wsX12_isFlyer) := goodIn_app (goodIn_of _ (by decide +kernel)) ggX12_stands_X12_isFlyer
set_option maxRecDepth 20000 in
theorem ggX12_stands_X12_isScene : GoodIn wsX12_stands wsX12_isScene := goodIn_r _ [11, 12, 13, 14, 15, 16, 17, 18, 19, 20, 21, 22, 23, 24, 25, 26, 27, 28, 29, 30, 31, 32, 33, 34, 35, 36, 37, 38, 39, 40, 41, 42, 43, 44, 45, 46, 47, 48, 49, 50, 51, 52, 53, 54, 55, 56, 57, 58, 59, 60, 61, 62, 63, 64, 65] rfl (by decide +kernel)
set_option maxRecDepth 20000 in
theorem gX12_stands_X12_isScene : GoodIn wsX12_stands (wsV RX12 285 RX12 yX12_isScene wsX12_isScene) := goodIn_app (goodIn_of _ (by decide +kernel)) ggX12_stands_X12_isScene
set_option maxRecDepth 20000 in
theorem ggX12_lands_X12_isFlyer : GoodIn wsX12_lands wsX12_isFlyer := goodIn_r _ [7, 8, 58, 59, 60, 61, 62, 63, 64, 65, 66, 67, 68, 69, 70, 71, 72, 73, 74, 75, 76, 77, 78, 79, 80, 81, 82, 83, 84, 85, 86, 87, 88, 89, 90, 91, 92, 93, 94, 95, 96, 97, 98, 99, 100, 101, 102, 103, 104, 105, 106, 107, 108, 109, 110] rfl (by decide +kernel)
set_option maxRecDepth 20000 in
theorem gX12_lands_X12_isFlyer : GoodIn wsX12_lands (wsV RX12 282 RX12 yX12_isFlyer wsX12_isFlyer) := goodIn_app (goodIn_of _ (by decide +kernel)) ggX12_lands_X12_isFlyer
set_option maxRecDepth 20000 in
theorem ggX12_lands_X12_looksAt : GoodIn wsX12_lands wsX12_looksAt := goodIn_r _ [12, 1, 13, 14, 15, 16, 17, 6, 18, 8, 19, 20, 21, 22, 23, 24, 25, 26, 27, 28, 29, 30, 31, 32, 33, 34, 35, 36, 37, 38, 39, 40, 2, 41, 42, 43, 44, 45, 46, 47, 48, 49, 50, 51, 52, 58, 59, 60, 61, 62, 63, 64, 65, 66, 67, 68, 69, 70, 71, 72, 73, 74, 75, 76, 77, 78, 79, 80, 81, 82, 83, 84, 85, 86, 87, 88, 89, 90, 91, 92, 93, 94, 95, 96, 97, 98, 99, 100, 101, 102, 103, 104, 105, 106, 107, 108, 109, 110] rfl (by decide +kernel)
set_option maxRecDepth 20000 in
theorem gX12_lands_X12_looksAt : GoodIn wsX12_lands (wsV RX12 275 RX12 yX12_looksAt wsX12_looksAt) := goodIn_app (goodIn_of _ (by decide +kernel)) ggX12_lands_X12_looksAt
set_option maxRecDepth 20000 in
theorem ggX12_lands_X12_pointAhead : GoodIn wsX12_lands wsX12_pointAhead := goodIn_r _ [56, 57, 58, 59, 60, 61, 62, 63, 64, 65, 66, 67, 68, 69, 70, 71, 72, 73, 74, 75, 76, 77, 78, 79, 80, 81, 82, 83, 84, 85, 86, 87, 88, 89, 90, 91, 92, 93, 94, 95, 96, 97, 98, 99, 100, 101, 102, 103, 104, 105, 106, 107, 108, 109, 110] rfl (by decide +kernel)
set_option maxRecDepth 20000 in
theorem gX12_lands_X12_pointAhead : GoodIn wsX12_lands (wsV RX12 279 RX12 yX12_pointAhead wsX12_pointAhead) := goodIn_app (goodIn_of _ (by decide +kernel)) ggX12_lands_X12_pointAhead
set_option maxRecDepth 20000 in
theorem ggX12_leftTo_X12_heightIn : GoodIn wsX12_leftTo wsX12_heightIn := goodIn_r _ [9, 10, 11, 12, 13, 14, 15, 16, 17, 18, 19, 20, 21, 22, 23, 24, 25, 26, 27, 28, 29, 30, 31, 32, 33, 34, 35, 36, 37, 38, 39, 40, 41, 42, 43, 44, 45, 46, 47, 48, 49, 50, 51, 52, 53, 54, 55, 56, 57, 58, 59, 60, 61, 62, 63, 64, 65] rfl (by decide +kernel)
set_option maxRecDepth 20000 in
theorem gX12_leftTo_X12_heightIn : GoodIn wsX12_leftTo (wsV RX12 288 RX12 yX12_heightIn wsX12_heightIn) := goodIn_app (goodIn_of _ (by decide +kernel)) ggX12_leftTo_X12_heightIn
set_option maxRecDepth 20000 in
theorem ggX12_left_X12_isFlyer : GoodIn wsX12_left wsX12_isFlyer := goodIn_r _ [6, 7, 23, 24, 25, 26, 27, 28, 29, 30, 31, 32, 33, 34, 35, 36, 37, 38, 39, 40, 41, 42, 43, 44, 45, 46, 47, 48, 49, 50, 51, 52, 53, 54, 55, 56, 57, 58, 59, 60, 61, 62, 63, 64, 65, 66, 67, 68, 69, 70, 71, 72, 73, 74, 75] rfl (by decide +kernel)
set_option maxRecDepth 20000 in
theorem gX12_left_X12_isFlyer : GoodIn wsX12_left (wsV RX12 282 RX12 yX12_isFlyer wsX12_isFlyer) := goodIn_app (goodIn_of _ (by decide +kernel)) ggX12_left_X12_isFlyer
set_option maxRecDepth 20000 in
theorem ggX12_left_X12_leftTo : GoodIn wsX12_left wsX12_leftTo := goodIn_r _ [11, 12, 13, 14, 15, 16, 17, 18, 5, 19, 20, 21, 22, 23, 24, 25, 26, 27, 28, 29, 30, 31, 32, 33, 34, 35, 36, 37, 38, 39, 40, 41, 42, 43, 44, 45, 46, 47, 48, 49, 50, 51, 52, 53, 54, 55, 56, 57, 58, 59, 60, 61, 62, 63, 64, 65, 66, 67, 68, 69, 70, 71, 72, 73, 74, 75] rfl (by decide +kernel)
set_option maxRecDepth 20000 in
theorem gX12_left_X12_leftTo : GoodIn wsX12_left (wsV RX12 291 RX12 yX12_leftTo wsX12_leftTo) := goodIn_app (goodIn_of _ (by decide +kernel)) ggX12_left_X12_leftTo
set_option maxRecDepth 20000 in
theorem ggX12_last_X12_leftTo : GoodIn wsX12_last wsX12_leftTo := goodIn_r _ [7, 8, 9, 10, 11, 12, 13, 14, 6, 15, 16, 17, 18, 19, 20, 21, 22, 23, 24, 25, 26, 27, 28, 29, 30, 31, 32, 33, 34, 35, 36, 37, 38, 39, 40, 41, 42, 43, 44, 45, 46, 47, 48, 49, 50, 51, 52, 53, 54, 55, 56, 57, 58, 59, 60, 61, 62, 63, 64, 65, 66, 67, 68, 69, 70, 71] rfl (by decide +kernel)
set_option maxRecDepth 20000 in
theorem gX12_last_X12_leftTo : GoodIn wsX12_last (wsV RX12 291 RX12 yX12_leftTo wsX12_leftTo) := goodIn_app (goodIn_of _ (by decide +kernel)) ggX12_last_X12_leftTo
set_option maxRecDepth 20000 in
theorem ggX12_margin_X12_isIn : GoodIn wsX12_margin wsX12_isIn := goodIn_r _ [6] rfl (by decide +kernel)
set_option maxRecDepth 20000 in
theorem gX12_margin_X12_isIn : GoodIn wsX12_margin (va_wsS RX12 150 yX12_isIn wsX12_isIn) := goodIn_app (goodIn_of _ (by decide +kernel)) ggX12_margin_X12_isIn
set_option maxRecDepth 20000 in
theorem ggX12_colour_X12_length : GoodIn wsX12_colour wsX12_length := goodIn_r _ [9, 1, 2, 4, 13, 14, 15, 16, 17, 18, 19, 20, 21, 22, 23, 24, 25, 26, 27, 28, 29, 30, 31, 32, 33, 34, 35, 36, 37, 38, 39, 40, 41, 42, 43, 44, 45, 46, 47, 48, 49, 50, 51, 52, 53, 54, 55, 56, 57, 58, 59, 60, 61, 62, 63, 64, 65] rfl (by decide +kernel)
set_option maxRecDepth 20000 in
theorem gX12_colour_X12_length : GoodIn wsX12_colour (wsV RX12 297 RX12 yX12_length wsX12_length) := goodIn_app (goodIn_of _ (by decide +kernel)) ggX12_colour_X12_length
set_option maxRecDepth 20000 in
theorem ggX12_colour_X12_isIn : GoodIn wsX12_colour wsX12_isIn := goodIn_r _ [12] rfl (by decide +kernel)
set_option maxRecDepth 20000 in
theorem gX12_colour_X12_isIn : GoodIn wsX12_colour (va_wsS RX12 150 yX12_isIn wsX12_isIn) := goodIn_app (goodIn_of _ (by decide +kernel)) ggX12_colour_X12_isIn
set_option maxRecDepth 20000 in
theorem ggX12_unclean_X12_looksAt : GoodIn wsX12_unclean wsX12_looksAt := goodIn_r _ [6, 1, 7, 8, 9, 10, 11, 5, 12, 13, 14, 15, 16, 17, 18, 19, 20, 21, 22, 23, 24, 25, 26, 27, 28, 29, 30, 31, 32, 33, 34, 35, 36, 37, 38, 39, 40, 41, 42, 43, 44, 45, 46, 47, 48, 84, 85, 86, 87, 88, 89, 90, 91, 92, 93, 94, 95, 96, 97, 98, 99, 100, 101, 102, 103, 104, 105, 106, 107, 108, 109, 110, 111, 112, 113, 114, 115, 116, 117, 118, 119, 120, 121, 122, 123, 124, 125, 126, 127, 128, 129, 130, 131, 132, 133, 134, 135, 136] rfl (by decide +kernel)
set_option maxRecDepth 20000 in
theorem gX12_unclean_X12_looksAt : GoodIn wsX12_unclean (wsV RX12 275 RX12 yX12_looksAt wsX12_looksAt) := goodIn_app (goodIn_of _ (by decide +kernel)) ggX12_unclean_X12_looksAt
set_option maxRecDepth 20000 in
theorem ggX12_unclean_X12_isClean : GoodIn wsX12_unclean wsX12_isClean := goodIn_r _ [52, 16, 15, 53, 54, 55, 5, 56, 57, 58, 59, 60, 61, 62, 63, 17, 25, 64, 65, 66, 67, 28, 68, 69, 70, 71, 20, 26, 72, 73, 74, 75, 76, 77, 78, 79, 80, 81, 82, 83, 23, 27, 84, 85, 86, 87, 88, 89, 90, 91, 92, 93, 94, 95, 96, 97, 98, 99, 100, 101, 102, 103, 104, 105, 106, 107, 108, 109, 110, 111, 112, 113, 114, 115, 116, 117, 118, 119, 120, 121, 122, 123, 124, 125, 126, 127, 128, 129, 130, 131, 132, 133, 134, 135, 136] rfl (by decide +kernel)
set_option maxRecDepth 20000 in
theorem gX12_unclean_X12_isClean : GoodIn wsX12_unclean (wsV RX12 265 RX12 yX12_isClean wsX12_isClean) := goodIn_app (goodIn_of _ (by decide +kernel)) ggX12_unclean_X12_isClean
set_option maxRecDepth 20000 in
theorem ggX12_fails_X12_isFlyer : GoodIn wsX12_fails wsX12_isFlyer := goodIn_r _ [6, 1, 22, 23, 24, 25, 26, 27, 28, 29, 30, 31, 32, 33, 34, 35, 36, 37, 38, 39, 40, 41, 42, 43, 44, 45, 46, 47, 48, 49, 50, 51, 52, 53, 54, 55, 56, 57, 58, 59, 60, 61, 62, 63, 64, 65, 66, 67, 68, 69, 70, 71, 72, 73, 74] rfl (by decide +kernel)
set_option maxRecDepth 20000 in
theorem gX12_fails_X12_isFlyer : GoodIn wsX12_fails (wsV RX12 282 RX12 yX12_isFlyer wsX12_isFlyer) := goodIn_app (goodIn_of _ (by decide +kernel)) ggX12_fails_X12_isFlyer
set_option maxRecDepth 20000 in
theorem ggX12_fails_X12_isScene : GoodIn wsX12_fails wsX12_isScene := goodIn_r _ [10, 11, 22, 23, 24, 25, 26, 27, 28, 29, 30, 31, 32, 33, 34, 35, 36, 37, 38, 39, 40, 41, 42, 43, 44, 45, 46, 47, 48, 49, 50, 51, 52, 53, 54, 55, 56, 57, 58, 59, 60, 61, 62, 63, 64, 65, 66, 67, 68, 69, 70, 71, 72, 73, 74] rfl (by decide +kernel)
set_option maxRecDepth 20000 in
theorem gX12_fails_X12_isScene : GoodIn wsX12_fails (wsV RX12 285 RX12 yX12_isScene wsX12_isScene) := goodIn_app (goodIn_of _ (by decide +kernel)) ggX12_fails_X12_isScene
set_option maxRecDepth 20000 in
theorem ggX12_fails_X12_isIn : GoodIn wsX12_fails wsX12_isIn := goodIn_r _ [14] rfl (by decide +kernel)
set_option maxRecDepth 20000 in
theorem gX12_fails_X12_isIn : GoodIn wsX12_fails (va_wsS RX12 150 yX12_isIn wsX12_isIn) := goodIn_app (goodIn_of _ (by decide +kernel)) ggX12_fails_X12_isIn
set_option maxRecDepth 20000 in
theorem ggX12_fails_X12_worthAt : GoodIn wsX12_fails wsX12_worthAt := goodIn_r _ [18, 19, 20, 21, 22, 23, 24, 25, 26, 27, 28, 29, 30, 31, 32, 33, 34, 35, 36, 37, 38, 39, 40, 41, 42, 43, 44, 45, 46, 47, 48, 49, 50, 51, 52, 53, 54, 55, 56, 57, 58, 59, 60, 61, 62, 63, 64, 65, 66, 67, 68, 69, 70, 71, 72, 73, 74] rfl (by decide +kernel)
set_option maxRecDepth 20000 in
theorem gX12_fails_X12_worthAt : GoodIn wsX12_fails (wsV RX12 300 RX12 yX12_worthAt wsX12_worthAt) := goodIn_app (goodIn_of _ (by decide +kernel)) ggX12_fails_X12_worthAt
set_option maxRecDepth 20000 in
theorem ggX12_mark_X12_isIn : GoodIn wsX12_mark wsX12_isIn := goodIn_r _ [14] rfl (by decide +kernel)
set_option maxRecDepth 20000 in
theorem gX12_mark_X12_isIn : GoodIn wsX12_mark (va_wsS RX12 150 yX12_isIn wsX12_isIn) := goodIn_app (goodIn_of _ (by decide +kernel)) ggX12_mark_X12_isIn
set_option maxRecDepth 20000 in
theorem ggX12_isInZone_X12_isNear : GoodIn wsX12_isInZone wsX12_isNear := goodIn_r _ [11] rfl (by decide +kernel)
set_option maxRecDepth 20000 in
theorem gX12_isInZone_X12_isNear : GoodIn wsX12_isInZone (va_wsS RX12 232 yX12_isNear wsX12_isNear) := goodIn_app (goodIn_of _ (by decide +kernel)) ggX12_isInZone_X12_isNear
set_option maxRecDepth 20000 in
theorem ggX12_areNear_X12_isNear : GoodIn wsX12_areNear wsX12_isNear := goodIn_r _ [10] rfl (by decide +kernel)
set_option maxRecDepth 20000 in
theorem gX12_areNear_X12_isNear : GoodIn wsX12_areNear (va_wsS RX12 232 yX12_isNear wsX12_isNear) := goodIn_app (goodIn_of _ (by decide +kernel)) ggX12_areNear_X12_isNear
set_option maxRecDepth 20000 in
theorem ggX12_findClash_X12_markOf : GoodIn wsX12_findClash wsX12_markOf := goodIn_r _ [9, 10, 11, 12, 31, 32, 33, 34, 35, 36, 37, 38, 39, 40, 41, 42, 43, 44, 45, 46, 47, 48, 49, 50, 51, 52, 53, 54, 55, 56, 57, 58, 59, 60, 61, 62, 63, 64, 65, 66, 67, 68, 69, 70, 71, 72, 73, 74, 75, 76, 77, 78, 79, 80, 81, 82, 83] rfl (by decide +kernel)
set_option maxRecDepth 20000 in
theorem gX12_findClash_X12_markOf : GoodIn wsX12_findClash (wsV RX12 308 RX12 yX12_markOf wsX12_markOf) := goodIn_app (goodIn_of _ (by decide +kernel)) ggX12_findClash_X12_markOf
set_option maxRecDepth 20000 in
theorem ggX12_findClash_X12_isInZone : GoodIn wsX12_findClash wsX12_isInZone := goodIn_r _ [16, 1, 17, 18, 19, 20, 21, 2, 22, 23, 8, 24, 31, 32, 33, 34, 35, 36, 37, 38, 39, 40, 41, 42, 43, 44, 45, 46, 47, 48, 49, 50, 51, 52, 53, 54, 55, 56, 57, 58, 59, 60, 61, 62, 63, 64, 65, 66, 67, 68, 69, 70, 71, 72, 73, 74, 75, 76, 77, 78, 79, 80, 81, 82, 83] rfl (by decide +kernel)
set_option maxRecDepth 20000 in
theorem gX12_findClash_X12_isInZone : GoodIn wsX12_findClash (wsV RX12 311 RX12 yX12_isInZone wsX12_isInZone) := goodIn_app (goodIn_of _ (by decide +kernel)) ggX12_findClash_X12_isInZone
set_option maxRecDepth 20000 in
theorem ggX12_findClash_X12_areNear : GoodIn wsX12_findClash wsX12_areNear := goodIn_r _ [28, 1, 18, 20, 29, 2, 30, 22, 23, 8, 24, 31, 32, 33, 34, 35, 36, 37, 38, 39, 40, 41, 42, 43, 44, 45, 46, 47, 48, 49, 50, 51, 52, 53, 54, 55, 56, 57, 58, 59, 60, 61, 62, 63, 64, 65, 66, 67, 68, 69, 70, 71, 72, 73, 74, 75, 76, 77, 78, 79, 80, 81, 82, 83] rfl (by decide +kernel)
set_option maxRecDepth 20000 in
theorem gX12_findClash_X12_areNear : GoodIn wsX12_findClash (wsV RX12 314 RX12 yX12_areNear wsX12_areNear) := goodIn_app (goodIn_of _ (by decide +kernel)) ggX12_findClash_X12_areNear
set_option maxRecDepth 20000 in
theorem ggX12_first_X12_findClash : GoodIn wsX12_first wsX12_findClash := goodIn_r _ [7, 8, 9, 10, 11, 12, 13, 14, 6, 15, 1, 16, 2, 17, 18, 19, 20, 21, 22, 23, 24, 25, 26, 27, 28, 29, 30, 31, 32, 33, 34, 35, 36, 37, 38, 39, 40, 41, 42, 43, 44, 45, 46, 47, 48, 49, 50, 51, 52, 53, 54, 55, 56, 57, 58, 59, 60, 61, 62, 63, 64, 65, 66, 67, 68, 69, 70, 71, 72, 73, 74, 75, 76, 77, 78, 79, 80, 81, 82, 83, 84, 85, 86, 87] rfl (by decide +kernel)
set_option maxRecDepth 20000 in
theorem gX12_first_X12_findClash : GoodIn wsX12_first (wsV RX12 317 RX12 yX12_findClash wsX12_findClash) := goodIn_app (goodIn_of _ (by decide +kernel)) ggX12_first_X12_findClash
