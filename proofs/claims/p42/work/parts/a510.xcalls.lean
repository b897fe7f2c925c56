/-! ===== the public calls of the class ===== -/
set_option maxRecDepth 100000 in
theorem xk_feed_0 : xOK 26 5 0 := xOK_of (e := cc0_X_feed_9_e) (k := 5) (c := 0) (by decide) (cc0_X_feed_9_ok 60 (by decide)) rfl rfl (by decide +kernel)
set_option maxRecDepth 100000 in
theorem xk_feed_1 : xOK 26 5 1 := xOK_of (e := cc1_X_feed_240_e) (k := 5) (c := 1) (by decide) (cc1_X_feed_240_ok 60 (by decide)) rfl rfl (by decide +kernel)
set_option maxRecDepth 100000 in
theorem xk_feed_2 : xOK 26 5 2 := xOK_of (e := cc2_X_feed_436_e) (k := 5) (c := 2) (by decide) (cc2_X_feed_436_ok 60 (by decide)) rfl rfl (by decide +kernel)
set_option maxRecDepth 100000 in
theorem xk_feed_3 : xOK 26 5 3 := xOK_of (e := cc3_X_feed_506_e) (k := 5) (c := 3) (by decide) (cc3_X_feed_506_ok 60 (by decide)) rfl rfl (by decide +kernel)
set_option maxRecDepth 100000 in
theorem xk_end_0 : xOK 29 1 0 := xOK_of (e := cc0_X_end_10_e) (k := 1) (c := 0) (by decide) (cc0_X_end_10_ok 60 (by decide)) rfl rfl (by decide +kernel)
set_option maxRecDepth 100000 in
theorem xk_end_1 : xOK 29 1 1 := xOK_of (e := cc1_X_end_241_e) (k := 1) (c := 1) (by decide) (cc1_X_end_241_ok 60 (by decide)) rfl rfl (by decide +kernel)
set_option maxRecDepth 100000 in
theorem xk_end_2 : xOK 29 1 2 := xOK_of (e := cc2_X_end_437_e) (k := 1) (c := 2) (by decide) (cc2_X_end_437_ok 60 (by decide)) rfl rfl (by decide +kernel)
set_option maxRecDepth 100000 in
theorem xk_end_3 : xOK 29 1 3 := xOK_of (e := cc3_X_end_507_e) (k := 1) (c := 3) (by decide) (cc3_X_end_507_ok 60 (by decide)) rfl rfl (by decide +kernel)
set_option maxRecDepth 100000 in
theorem xk_town_0 : xOK 60 0 0 := xOK_ofS (e := cc0_X_town_19_e) (k := 0) (c := 0) (c1 := 0) (c2 := 1) (by decide) (by decide) (cc0_X_town_19_ok 60 (by decide)) rfl rfl (by decide +kernel) (by decide +kernel)
set_option maxRecDepth 100000 in
theorem xk_town_1 : xOK 60 0 1 := xOK_ofS (e := cc1_X_town_246_e) (k := 0) (c := 1) (c1 := 1) (c2 := 0) (by decide) (by decide) (cc1_X_town_246_ok 60 (by decide)) rfl rfl (by decide +kernel) (by decide +kernel)
set_option maxRecDepth 100000 in
theorem xk_town_2 : xOK 60 0 2 := xOK_ofS (e := cc2_X_town_438_e) (k := 0) (c := 2) (c1 := 2) (c2 := 3) (by decide) (by decide) (cc2_X_town_438_ok 60 (by decide)) rfl rfl (by decide +kernel) (by decide +kernel)
set_option maxRecDepth 100000 in
theorem xk_town_3 : xOK 60 0 3 := xOK_ofS (e := cc3_X_town_508_e) (k := 0) (c := 3) (c1 := 3) (c2 := 2) (by decide) (by decide) (cc3_X_town_508_ok 60 (by decide)) rfl rfl (by decide +kernel) (by decide +kernel)
set_option maxRecDepth 100000 in
theorem xk_fault_0 : xOK 82 0 0 := xOK_of (e := cc0_X_fault_20_e) (k := 0) (c := 0) (by decide) (cc0_X_fault_20_ok 60 (by decide)) rfl rfl (by decide +kernel)
set_option maxRecDepth 100000 in
theorem xk_fault_1 : xOK 82 0 1 := xOK_of (e := cc1_X_fault_247_e) (k := 0) (c := 1) (by decide) (cc1_X_fault_247_ok 60 (by decide)) rfl rfl (by decide +kernel)
set_option maxRecDepth 100000 in
theorem xk_fault_2 : xOK 82 0 2 := xOK_of (e := cc2_X_fault_439_e) (k := 0) (c := 2) (by decide) (cc2_X_fault_439_ok 60 (by decide)) rfl rfl (by decide +kernel)
set_option maxRecDepth 100000 in
theorem xk_fault_3 : xOK 82 0 3 := xOK_of (e := cc3_X_fault_509_e) (k := 0) (c := 3) (by decide) (cc3_X_fault_509_ok 60 (by decide)) rfl rfl (by decide +kernel)
set_option maxRecDepth 100000 in
theorem xk_person_0 : xOK 91 2 0 := xOK_of (e := cc0_X_person_24_e) (k := 2) (c := 0) (by decide) (cc0_X_person_24_ok 60 (by decide)) rfl rfl (by decide +kernel)
set_option maxRecDepth 100000 in
theorem xk_person_1 : xOK 91 2 1 := xOK_of (e := cc1_X_person_251_e) (k := 2) (c := 1) (by decide) (cc1_X_person_251_ok 60 (by decide)) rfl rfl (by decide +kernel)
set_option maxRecDepth 100000 in
theorem xk_person_2 : xOK 91 2 2 := xOK_of (e := cc2_X_person_440_e) (k := 2) (c := 2) (by decide) (cc2_X_person_440_ok 60 (by decide)) rfl rfl (by decide +kernel)
set_option maxRecDepth 100000 in
theorem xk_person_3 : xOK 91 2 3 := xOK_of (e := cc3_X_person_510_e) (k := 2) (c := 3) (by decide) (cc3_X_person_510_ok 60 (by decide)) rfl rfl (by decide +kernel)
set_option maxRecDepth 100000 in
theorem xk_sort_0 : xOK 102 2 0 := xOK_of (e := cc0_X_sort_28_e) (k := 2) (c := 0) (by decide) (cc0_X_sort_28_ok 60 (by decide)) rfl rfl (by decide +kernel)
set_option maxRecDepth 100000 in
theorem xk_sort_1 : xOK 102 2 1 := xOK_of (e := cc1_X_sort_255_e) (k := 2) (c := 1) (by decide) (cc1_X_sort_255_ok 60 (by decide)) rfl rfl (by decide +kernel)
set_option maxRecDepth 100000 in
theorem xk_sort_2 : xOK 102 2 2 := xOK_of (e := cc2_X_sort_441_e) (k := 2) (c := 2) (by decide) (cc2_X_sort_441_ok 60 (by decide)) rfl rfl (by decide +kernel)
set_option maxRecDepth 100000 in
theorem xk_sort_3 : xOK 102 2 3 := xOK_of (e := cc3_X_sort_511_e) (k := 2) (c := 3) (by decide) (cc3_X_sort_511_ok 60 (by decide)) rfl rfl (by decide +kernel)
set_option maxRecDepth 100000 in
theorem xk_now_0 : xOK 108 1 0 := xOK_of (e := cc0_X_now_39_e) (k := 1) (c := 0) (by decide) (cc0_X_now_39_ok 60 (by decide)) rfl rfl (by decide +kernel)
set_option maxRecDepth 100000 in
theorem xk_now_1 : xOK 108 1 1 := xOK_of (e := cc1_X_now_264_e) (k := 1) (c := 1) (by decide) (cc1_X_now_264_ok 60 (by decide)) rfl rfl (by decide +kernel)
set_option maxRecDepth 100000 in
theorem xk_now_2 : xOK 108 1 2 := xOK_of (e := cc2_X_now_442_e) (k := 1) (c := 2) (by decide) (cc2_X_now_442_ok 60 (by decide)) rfl rfl (by decide +kernel)
set_option maxRecDepth 100000 in
theorem xk_now_3 : xOK 108 1 3 := xOK_of (e := cc3_X_now_512_e) (k := 1) (c := 3) (by decide) (cc3_X_now_512_ok 60 (by decide)) rfl rfl (by decide +kernel)
set_option maxRecDepth 100000 in
theorem xk_fetch_0 : xOK 123 2 0 := xOK_of (e := cc0_X_fetch_42_e) (k := 2) (c := 0) (by decide) (cc0_X_fetch_42_ok 60 (by decide)) rfl rfl (by decide +kernel)
set_option maxRecDepth 100000 in
theorem xk_fetch_1 : xOK 123 2 1 := xOK_of (e := cc1_X_fetch_266_e) (k := 2) (c := 1) (by decide) (cc1_X_fetch_266_ok 60 (by decide)) rfl rfl (by decide +kernel)
set_option maxRecDepth 100000 in
theorem xk_fetch_2 : xOK 123 2 2 := xOK_of (e := cc2_X_fetch_443_e) (k := 2) (c := 2) (by decide) (cc2_X_fetch_443_ok 60 (by decide)) rfl rfl (by decide +kernel)
set_option maxRecDepth 100000 in
theorem xk_fetch_3 : xOK 123 2 3 := xOK_of (e := cc3_X_fetch_513_e) (k := 2) (c := 3) (by decide) (cc3_X_fetch_513_ok 60 (by decide)) rfl rfl (by decide +kernel)
set_option maxRecDepth 100000 in
theorem xk_hand_0 : xOK 130 3 0 := xOK_of (e := cc0_X_hand_43_e) (k := 3) (c := 0) (by decide) (cc0_X_hand_43_ok 60 (by decide)) rfl rfl (by decide +kernel)
set_option maxRecDepth 100000 in
theorem xk_hand_1 : xOK 130 3 1 := xOK_of (e := cc1_X_hand_267_e) (k := 3) (c := 1) (by decide) (cc1_X_hand_267_ok 60 (by decide)) rfl rfl (by decide +kernel)
set_option maxRecDepth 100000 in
theorem xk_hand_2 : xOK 130 3 2 := xOK_of (e := cc2_X_hand_444_e) (k := 3) (c := 2) (by decide) (cc2_X_hand_444_ok 60 (by decide)) rfl rfl (by decide +kernel)
set_option maxRecDepth 100000 in
theorem xk_hand_3 : xOK 130 3 3 := xOK_of (e := cc3_X_hand_514_e) (k := 3) (c := 3) (by decide) (cc3_X_hand_514_ok 60 (by decide)) rfl rfl (by decide +kernel)
set_option maxRecDepth 100000 in
theorem xk_drop_0 : xOK 135 2 0 := xOK_of (e := cc0_X_drop_44_e) (k := 2) (c := 0) (by decide) (cc0_X_drop_44_ok 60 (by decide)) rfl rfl (by decide +kernel)
set_option maxRecDepth 100000 in
theorem xk_drop_1 : xOK 135 2 1 := xOK_of (e := cc1_X_drop_268_e) (k := 2) (c := 1) (by decide) (cc1_X_drop_268_ok 60 (by decide)) rfl rfl (by decide +kernel)
set_option maxRecDepth 100000 in
theorem xk_drop_2 : xOK 135 2 2 := xOK_of (e := cc2_X_drop_445_e) (k := 2) (c := 2) (by decide) (cc2_X_drop_445_ok 60 (by decide)) rfl rfl (by decide +kernel)
set_option maxRecDepth 100000 in
theorem xk_drop_3 : xOK 135 2 3 := xOK_of (e := cc3_X_drop_515_e) (k := 2) (c := 3) (by decide) (cc3_X_drop_515_ok 60 (by decide)) rfl rfl (by decide +kernel)
set_option maxRecDepth 100000 in
theorem xk_home_0 : xOK 140 1 0 := xOK_of (e := cc0_X_home_45_e) (k := 1) (c := 0) (by decide) (cc0_X_home_45_ok 60 (by decide)) rfl rfl (by decide +kernel)
set_option maxRecDepth 100000 in
theorem xk_home_1 : xOK 140 1 1 := xOK_of (e := cc1_X_home_269_e) (k := 1) (c := 1) (by decide) (cc1_X_home_269_ok 60 (by decide)) rfl rfl (by decide +kernel)
set_option maxRecDepth 100000 in
theorem xk_home_2 : xOK 140 1 2 := xOK_of (e := cc2_X_home_446_e) (k := 1) (c := 2) (by decide) (cc2_X_home_446_ok 60 (by decide)) rfl rfl (by decide +kernel)
set_option maxRecDepth 100000 in
theorem xk_home_3 : xOK 140 1 3 := xOK_of (e := cc3_X_home_516_e) (k := 1) (c := 3) (by decide) (cc3_X_home_516_ok 60 (by decide)) rfl rfl (by decide +kernel)
set_option maxRecDepth 100000 in
theorem xk_hours_0 : xOK 149 1 0 := xOK_of (e := cc0_X_hours_59_e) (k := 1) (c := 0) (by decide) (cc0_X_hours_59_ok 60 (by decide)) rfl rfl (by decide +kernel)
set_option maxRecDepth 100000 in
theorem xk_hours_1 : xOK 149 1 1 := xOK_of (e := cc1_X_hours_283_e) (k := 1) (c := 1) (by decide) (cc1_X_hours_283_ok 60 (by decide)) rfl rfl (by decide +kernel)
set_option maxRecDepth 100000 in
theorem xk_hours_2 : xOK 149 1 2 := xOK_of (e := cc2_X_hours_447_e) (k := 1) (c := 2) (by decide) (cc2_X_hours_447_ok 60 (by decide)) rfl rfl (by decide +kernel)
set_option maxRecDepth 100000 in
theorem xk_hours_3 : xOK 149 1 3 := xOK_of (e := cc3_X_hours_517_e) (k := 1) (c := 3) (by decide) (cc3_X_hours_517_ok 60 (by decide)) rfl rfl (by decide +kernel)
set_option maxRecDepth 100000 in
theorem xk_undo_0 : xOK 157 0 0 := xOK_of (e := cc0_X_undo_60_e) (k := 0) (c := 0) (by decide) (cc0_X_undo_60_ok 60 (by decide)) rfl rfl (by decide +kernel)
set_option maxRecDepth 100000 in
theorem xk_undo_1 : xOK 157 0 1 := xOK_of (e := cc1_X_undo_284_e) (k := 0) (c := 1) (by decide) (cc1_X_undo_284_ok 60 (by decide)) rfl rfl (by decide +kernel)
set_option maxRecDepth 100000 in
theorem xk_undo_2 : xOK 157 0 2 := xOK_of (e := cc2_X_undo_448_e) (k := 0) (c := 2) (by decide) (cc2_X_undo_448_ok 60 (by decide)) rfl rfl (by decide +kernel)
set_option maxRecDepth 100000 in
theorem xk_undo_3 : xOK 157 0 3 := xOK_of (e := cc3_X_undo_518_e) (k := 0) (c := 3) (by decide) (cc3_X_undo_518_ok 60 (by decide)) rfl rfl (by decide +kernel)
set_option maxRecDepth 100000 in
theorem xk_can_0 : xOK 159 2 0 := xOK_of (e := cc0_X_can_61_e) (k := 2) (c := 0) (by decide) (cc0_X_can_61_ok 60 (by decide)) rfl rfl (by decide +kernel)
set_option maxRecDepth 100000 in
theorem xk_can_1 : xOK 159 2 1 := xOK_of (e := cc1_X_can_285_e) (k := 2) (c := 1) (by decide) (cc1_X_can_285_ok 60 (by decide)) rfl rfl (by decide +kernel)
set_option maxRecDepth 100000 in
theorem xk_can_2 : xOK 159 2 2 := xOK_of (e := cc2_X_can_449_e) (k := 2) (c := 2) (by decide) (cc2_X_can_449_ok 60 (by decide)) rfl rfl (by decide +kernel)
set_option maxRecDepth 100000 in
theorem xk_can_3 : xOK 159 2 3 := xOK_of (e := cc3_X_can_519_e) (k := 2) (c := 3) (by decide) (cc3_X_can_519_ok 60 (by decide)) rfl rfl (by decide +kernel)
set_option maxRecDepth 100000 in
theorem xk_free_0 : xOK 169 2 0 := xOK_of (e := cc0_X_free_101_e) (k := 2) (c := 0) (by decide) (cc0_X_free_101_ok 60 (by decide)) rfl rfl (by decide +kernel)
set_option maxRecDepth 100000 in
theorem xk_free_1 : xOK 169 2 1 := xOK_of (e := cc1_X_free_306_e) (k := 2) (c := 1) (by decide) (cc1_X_free_306_ok 60 (by decide)) rfl rfl (by decide +kernel)
set_option maxRecDepth 100000 in
theorem xk_free_2 : xOK 169 2 2 := xOK_of (e := cc2_X_free_450_e) (k := 2) (c := 2) (by decide) (cc2_X_free_450_ok 60 (by decide)) rfl rfl (by decide +kernel)
set_option maxRecDepth 100000 in
theorem xk_free_3 : xOK 169 2 3 := xOK_of (e := cc3_X_free_520_e) (k := 2) (c := 3) (by decide) (cc3_X_free_520_ok 60 (by decide)) rfl rfl (by decide +kernel)
set_option maxRecDepth 100000 in
theorem xk_by_0 : xOK 176 1 0 := xOK_of (e := cc0_X_by_102_e) (k := 1) (c := 0) (by decide) (cc0_X_by_102_ok 60 (by decide)) rfl rfl (by decide +kernel)
set_option maxRecDepth 100000 in
theorem xk_by_1 : xOK 176 1 1 := xOK_of (e := cc1_X_by_307_e) (k := 1) (c := 1) (by decide) (cc1_X_by_307_ok 60 (by decide)) rfl rfl (by decide +kernel)
set_option maxRecDepth 100000 in
theorem xk_by_2 : xOK 176 1 2 := xOK_of (e := cc2_X_by_451_e) (k := 1) (c := 2) (by decide) (cc2_X_by_451_ok 60 (by decide)) rfl rfl (by decide +kernel)
set_option maxRecDepth 100000 in
theorem xk_by_3 : xOK 176 1 3 := xOK_of (e := cc3_X_by_521_e) (k := 1) (c := 3) (by decide) (cc3_X_by_521_ok 60 (by decide)) rfl rfl (by decide +kernel)
set_option maxRecDepth 100000 in
theorem xk_fewest_0 : xOK 179 1 0 := xOK_of (e := cc0_X_fewest_105_e) (k := 1) (c := 0) (by decide) (cc0_X_fewest_105_ok 60 (by decide)) rfl rfl (by decide +kernel)
set_option maxRecDepth 100000 in
theorem xk_fewest_1 : xOK 179 1 1 := xOK_of (e := cc1_X_fewest_309_e) (k := 1) (c := 1) (by decide) (cc1_X_fewest_309_ok 60 (by decide)) rfl rfl (by decide +kernel)
set_option maxRecDepth 100000 in
theorem xk_fewest_2 : xOK 179 1 2 := xOK_of (e := cc2_X_fewest_452_e) (k := 1) (c := 2) (by decide) (cc2_X_fewest_452_ok 60 (by decide)) rfl rfl (by decide +kernel)
set_option maxRecDepth 100000 in
theorem xk_fewest_3 : xOK 179 1 3 := xOK_of (e := cc3_X_fewest_522_e) (k := 1) (c := 3) (by decide) (cc3_X_fewest_522_ok 60 (by decide)) rfl rfl (by decide +kernel)
set_option maxRecDepth 100000 in
theorem xk_load_0 : xOK 181 1 0 := xOK_of (e := cc0_X_load_106_e) (k := 1) (c := 0) (by decide) (cc0_X_load_106_ok 60 (by decide)) rfl rfl (by decide +kernel)
set_option maxRecDepth 100000 in
theorem xk_load_1 : xOK 181 1 1 := xOK_of (e := cc1_X_load_310_e) (k := 1) (c := 1) (by decide) (cc1_X_load_310_ok 60 (by decide)) rfl rfl (by decide +kernel)
set_option maxRecDepth 100000 in
theorem xk_load_2 : xOK 181 1 2 := xOK_of (e := cc2_X_load_453_e) (k := 1) (c := 2) (by decide) (cc2_X_load_453_ok 60 (by decide)) rfl rfl (by decide +kernel)
set_option maxRecDepth 100000 in
theorem xk_load_3 : xOK 181 1 3 := xOK_of (e := cc3_X_load_523_e) (k := 1) (c := 3) (by decide) (cc3_X_load_523_ok 60 (by decide)) rfl rfl (by decide +kernel)
set_option maxRecDepth 100000 in
theorem xk_limps_0 : xOK 190 0 0 := xOK_of (e := cc0_X_limps_140_e) (k := 0) (c := 0) (by decide) (cc0_X_limps_140_ok 60 (by decide)) rfl rfl (by decide +kernel)
set_option maxRecDepth 100000 in
theorem xk_limps_1 : xOK 190 0 1 := xOK_of (e := cc1_X_limps_342_e) (k := 0) (c := 1) (by decide) (cc1_X_limps_342_ok 60 (by decide)) rfl rfl (by decide +kernel)
set_option maxRecDepth 100000 in
theorem xk_limps_2 : xOK 190 0 2 := xOK_of (e := cc2_X_limps_454_e) (k := 0) (c := 2) (by decide) (cc2_X_limps_454_ok 60 (by decide)) rfl rfl (by decide +kernel)
set_option maxRecDepth 100000 in
theorem xk_limps_3 : xOK 190 0 3 := xOK_of (e := cc3_X_limps_524_e) (k := 0) (c := 3) (by decide) (cc3_X_limps_524_ok 60 (by decide)) rfl rfl (by decide +kernel)
set_option maxRecDepth 100000 in
theorem xk_surely_0 : xOK 196 1 0 := xOK_of (e := cc0_X_surely_142_e) (k := 1) (c := 0) (by decide) (cc0_X_surely_142_ok 60 (by decide)) rfl rfl (by decide +kernel)
set_option maxRecDepth 100000 in
theorem xk_surely_1 : xOK 196 1 1 := xOK_of (e := cc1_X_surely_343_e) (k := 1) (c := 1) (by decide) (cc1_X_surely_343_ok 60 (by decide)) rfl rfl (by decide +kernel)
set_option maxRecDepth 100000 in
theorem xk_surely_2 : xOK 196 1 2 := xOK_of (e := cc2_X_surely_455_e) (k := 1) (c := 2) (by decide) (cc2_X_surely_455_ok 60 (by decide)) rfl rfl (by decide +kernel)
set_option maxRecDepth 100000 in
theorem xk_surely_3 : xOK 196 1 3 := xOK_of (e := cc3_X_surely_525_e) (k := 1) (c := 3) (by decide) (cc3_X_surely_525_ok 60 (by decide)) rfl rfl (by decide +kernel)
set_option maxRecDepth 100000 in
theorem xk_ask_0 : xOK 199 0 0 := xOK_of (e := cc0_X_ask_144_e) (k := 0) (c := 0) (by decide) (cc0_X_ask_144_ok 60 (by decide)) rfl rfl (by decide +kernel)
set_option maxRecDepth 100000 in
theorem xk_ask_1 : xOK 199 0 1 := xOK_of (e := cc1_X_ask_344_e) (k := 0) (c := 1) (by decide) (cc1_X_ask_344_ok 60 (by decide)) rfl rfl (by decide +kernel)
set_option maxRecDepth 100000 in
theorem xk_ask_2 : xOK 199 0 2 := xOK_of (e := cc2_X_ask_456_e) (k := 0) (c := 2) (by decide) (cc2_X_ask_456_ok 60 (by decide)) rfl rfl (by decide +kernel)
set_option maxRecDepth 100000 in
theorem xk_ask_3 : xOK 199 0 3 := xOK_of (e := cc3_X_ask_526_e) (k := 0) (c := 3) (by decide) (cc3_X_ask_526_ok 60 (by decide)) rfl rfl (by decide +kernel)
set_option maxRecDepth 100000 in
theorem xk_share_0 : xOK 201 2 0 := xOK_of (e := cc0_X_share_146_e) (k := 2) (c := 0) (by decide) (cc0_X_share_146_ok 60 (by decide)) rfl rfl (by decide +kernel)
set_option maxRecDepth 100000 in
theorem xk_share_1 : xOK 201 2 1 := xOK_of (e := cc1_X_share_346_e) (k := 2) (c := 1) (by decide) (cc1_X_share_346_ok 60 (by decide)) rfl rfl (by decide +kernel)
set_option maxRecDepth 100000 in
theorem xk_share_2 : xOK 201 2 2 := xOK_of (e := cc2_X_share_457_e) (k := 2) (c := 2) (by decide) (cc2_X_share_457_ok 60 (by decide)) rfl rfl (by decide +kernel)
set_option maxRecDepth 100000 in
theorem xk_share_3 : xOK 201 2 3 := xOK_of (e := cc3_X_share_527_e) (k := 2) (c := 3) (by decide) (cc3_X_share_527_ok 60 (by decide)) rfl rfl (by decide +kernel)
set_option maxRecDepth 100000 in
theorem xk_rest_0 : xOK 208 0 0 := xOK_of (e := cc0_X_rest_158_e) (k := 0) (c := 0) (by decide) (cc0_X_rest_158_ok 60 (by decide)) rfl rfl (by decide +kernel)
set_option maxRecDepth 100000 in
theorem xk_rest_1 : xOK 208 0 1 := xOK_of (e := cc1_X_rest_358_e) (k := 0) (c := 1) (by decide) (cc1_X_rest_358_ok 60 (by decide)) rfl rfl (by decide +kernel)
set_option maxRecDepth 100000 in
theorem xk_rest_2 : xOK 208 0 2 := xOK_of (e := cc2_X_rest_458_e) (k := 0) (c := 2) (by decide) (cc2_X_rest_458_ok 60 (by decide)) rfl rfl (by decide +kernel)
set_option maxRecDepth 100000 in
theorem xk_rest_3 : xOK 208 0 3 := xOK_of (e := cc3_X_rest_528_e) (k := 0) (c := 3) (by decide) (cc3_X_rest_528_ok 60 (by decide)) rfl rfl (by decide +kernel)
set_option maxRecDepth 100000 in
theorem xk_fee_0 : xOK 213 1 0 := xOK_of (e := cc0_X_fee_159_e) (k := 1) (c := 0) (by decide) (cc0_X_fee_159_ok 60 (by decide)) rfl rfl (by decide +kernel)
set_option maxRecDepth 100000 in
theorem xk_fee_1 : xOK 213 1 1 := xOK_of (e := cc1_X_fee_359_e) (k := 1) (c := 1) (by decide) (cc1_X_fee_359_ok 60 (by decide)) rfl rfl (by decide +kernel)
set_option maxRecDepth 100000 in
theorem xk_fee_2 : xOK 213 1 2 := xOK_of (e := cc2_X_fee_459_e) (k := 1) (c := 2) (by decide) (cc2_X_fee_459_ok 60 (by decide)) rfl rfl (by decide +kernel)
set_option maxRecDepth 100000 in
theorem xk_fee_3 : xOK 213 1 3 := xOK_of (e := cc3_X_fee_529_e) (k := 1) (c := 3) (by decide) (cc3_X_fee_529_ok 60 (by decide)) rfl rfl (by decide +kernel)
set_option maxRecDepth 100000 in
theorem xk_ease_0 : xOK 217 1 0 := xOK_of (e := cc0_X_ease_174_e) (k := 1) (c := 0) (by decide) (cc0_X_ease_174_ok 60 (by decide)) rfl rfl (by decide +kernel)
set_option maxRecDepth 100000 in
theorem xk_ease_1 : xOK 217 1 1 := xOK_of (e := cc1_X_ease_374_e) (k := 1) (c := 1) (by decide) (cc1_X_ease_374_ok 60 (by decide)) rfl rfl (by decide +kernel)
set_option maxRecDepth 100000 in
theorem xk_ease_2 : xOK 217 1 2 := xOK_of (e := cc2_X_ease_460_e) (k := 1) (c := 2) (by decide) (cc2_X_ease_460_ok 60 (by decide)) rfl rfl (by decide +kernel)
set_option maxRecDepth 100000 in
theorem xk_ease_3 : xOK 217 1 3 := xOK_of (e := cc3_X_ease_530_e) (k := 1) (c := 3) (by decide) (cc3_X_ease_530_ok 60 (by decide)) rfl rfl (by decide +kernel)
set_option maxRecDepth 100000 in
theorem xk_later_0 : xOK 221 2 0 := xOK_of (e := cc0_X_later_177_e) (k := 2) (c := 0) (by decide) (cc0_X_later_177_ok 60 (by decide)) rfl rfl (by decide +kernel)
set_option maxRecDepth 100000 in
theorem xk_later_1 : xOK 221 2 1 := xOK_of (e := cc1_X_later_377_e) (k := 2) (c := 1) (by decide) (cc1_X_later_377_ok 60 (by decide)) rfl rfl (by decide +kernel)
set_option maxRecDepth 100000 in
theorem xk_later_2 : xOK 221 2 2 := xOK_of (e := cc2_X_later_461_e) (k := 2) (c := 2) (by decide) (cc2_X_later_461_ok 60 (by decide)) rfl rfl (by decide +kernel)
set_option maxRecDepth 100000 in
theorem xk_later_3 : xOK 221 2 3 := xOK_of (e := cc3_X_later_531_e) (k := 2) (c := 3) (by decide) (cc3_X_later_531_ok 60 (by decide)) rfl rfl (by decide +kernel)
set_option maxRecDepth 100000 in
theorem xk_lasts_0 : xOK 223 1 0 := xOK_of (e := cc0_X_lasts_178_e) (k := 1) (c := 0) (by decide) (cc0_X_lasts_178_ok 60 (by decide)) rfl rfl (by decide +kernel)
set_option maxRecDepth 100000 in
theorem xk_lasts_1 : xOK 223 1 1 := xOK_of (e := cc1_X_lasts_378_e) (k := 1) (c := 1) (by decide) (cc1_X_lasts_378_ok 60 (by decide)) rfl rfl (by decide +kernel)
set_option maxRecDepth 100000 in
theorem xk_lasts_2 : xOK 223 1 2 := xOK_of (e := cc2_X_lasts_462_e) (k := 1) (c := 2) (by decide) (cc2_X_lasts_462_ok 60 (by decide)) rfl rfl (by decide +kernel)
set_option maxRecDepth 100000 in
theorem xk_lasts_3 : xOK 223 1 3 := xOK_of (e := cc3_X_lasts_532_e) (k := 1) (c := 3) (by decide) (cc3_X_lasts_532_ok 60 (by decide)) rfl rfl (by decide +kernel)
set_option maxRecDepth 100000 in
theorem xk_cheapest_0 : xOK 225 1 0 := xOK_of (e := cc0_X_cheapest_183_e) (k := 1) (c := 0) (by decide) (cc0_X_cheapest_183_ok 60 (by decide)) rfl rfl (by decide +kernel)
set_option maxRecDepth 100000 in
theorem xk_cheapest_1 : xOK 225 1 1 := xOK_of (e := cc1_X_cheapest_383_e) (k := 1) (c := 1) (by decide) (cc1_X_cheapest_383_ok 60 (by decide)) rfl rfl (by decide +kernel)
set_option maxRecDepth 100000 in
theorem xk_cheapest_2 : xOK 225 1 2 := xOK_of (e := cc2_X_cheapest_463_e) (k := 1) (c := 2) (by decide) (cc2_X_cheapest_463_ok 60 (by decide)) rfl rfl (by decide +kernel)
set_option maxRecDepth 100000 in
theorem xk_cheapest_3 : xOK 225 1 3 := xOK_of (e := cc3_X_cheapest_533_e) (k := 1) (c := 3) (by decide) (cc3_X_cheapest_533_ok 60 (by decide)) rfl rfl (by decide +kernel)
set_option maxRecDepth 100000 in
theorem xk_hopeless_0 : xOK 228 0 0 := xOK_of (e := cc0_X_hopeless_192_e) (k := 0) (c := 0) (by decide) (cc0_X_hopeless_192_ok 60 (by decide)) rfl rfl (by decide +kernel)
set_option maxRecDepth 100000 in
theorem xk_hopeless_1 : xOK 228 0 1 := xOK_of (e := cc1_X_hopeless_392_e) (k := 0) (c := 1) (by decide) (cc1_X_hopeless_392_ok 60 (by decide)) rfl rfl (by decide +kernel)
set_option maxRecDepth 100000 in
theorem xk_hopeless_2 : xOK 228 0 2 := xOK_of (e := cc2_X_hopeless_472_e) (k := 0) (c := 2) (by decide) (cc2_X_hopeless_472_ok 60 (by decide)) rfl rfl (by decide +kernel)
set_option maxRecDepth 100000 in
theorem xk_hopeless_3 : xOK 228 0 3 := xOK_of (e := cc3_X_hopeless_542_e) (k := 0) (c := 3) (by decide) (cc3_X_hopeless_542_ok 60 (by decide)) rfl rfl (by decide +kernel)
set_option maxRecDepth 100000 in
theorem xk_drawn_0 : xOK 233 2 0 := xOK_of (e := cc0_X_drawn_196_e) (k := 2) (c := 0) (by decide) (cc0_X_drawn_196_ok 60 (by decide)) rfl rfl (by decide +kernel)
set_option maxRecDepth 100000 in
theorem xk_drawn_1 : xOK 233 2 1 := xOK_of (e := cc1_X_drawn_396_e) (k := 2) (c := 1) (by decide) (cc1_X_drawn_396_ok 60 (by decide)) rfl rfl (by decide +kernel)
set_option maxRecDepth 100000 in
theorem xk_drawn_2 : xOK 233 2 2 := xOK_of (e := cc2_X_drawn_473_e) (k := 2) (c := 2) (by decide) (cc2_X_drawn_473_ok 60 (by decide)) rfl rfl (by decide +kernel)
set_option maxRecDepth 100000 in
theorem xk_drawn_3 : xOK 233 2 3 := xOK_of (e := cc3_X_drawn_543_e) (k := 2) (c := 3) (by decide) (cc3_X_drawn_543_ok 60 (by decide)) rfl rfl (by decide +kernel)
set_option maxRecDepth 100000 in
theorem xk_odds_0 : xOK 238 3 0 := xOK_of (e := cc0_X_odds_207_e) (k := 3) (c := 0) (by decide) (cc0_X_odds_207_ok 60 (by decide)) rfl rfl (by decide +kernel)
set_option maxRecDepth 100000 in
theorem xk_odds_1 : xOK 238 3 1 := xOK_of (e := cc1_X_odds_407_e) (k := 3) (c := 1) (by decide) (cc1_X_odds_407_ok 60 (by decide)) rfl rfl (by decide +kernel)
set_option maxRecDepth 100000 in
theorem xk_odds_2 : xOK 238 3 2 := xOK_of (e := cc2_X_odds_474_e) (k := 3) (c := 2) (by decide) (cc2_X_odds_474_ok 60 (by decide)) rfl rfl (by decide +kernel)
set_option maxRecDepth 100000 in
theorem xk_odds_3 : xOK 238 3 3 := xOK_of (e := cc3_X_odds_544_e) (k := 3) (c := 3) (by decide) (cc3_X_odds_544_ok 60 (by decide)) rfl rfl (by decide +kernel)
set_option maxRecDepth 100000 in
theorem xk_logged_0 : xOK 252 1 0 := xOK_of (e := cc0_X_logged_208_e) (k := 1) (c := 0) (by decide) (cc0_X_logged_208_ok 60 (by decide)) rfl rfl (by decide +kernel)
set_option maxRecDepth 100000 in
theorem xk_logged_1 : xOK 252 1 1 := xOK_of (e := cc1_X_logged_408_e) (k := 1) (c := 1) (by decide) (cc1_X_logged_408_ok 60 (by decide)) rfl rfl (by decide +kernel)
set_option maxRecDepth 100000 in
theorem xk_logged_2 : xOK 252 1 2 := xOK_of (e := cc2_X_logged_475_e) (k := 1) (c := 2) (by decide) (cc2_X_logged_475_ok 60 (by decide)) rfl rfl (by decide +kernel)
set_option maxRecDepth 100000 in
theorem xk_logged_3 : xOK 252 1 3 := xOK_of (e := cc3_X_logged_545_e) (k := 1) (c := 3) (by decide) (cc3_X_logged_545_ok 60 (by decide)) rfl rfl (by decide +kernel)
set_option maxRecDepth 100000 in
theorem xk_sentence_0 : xOK 262 0 0 := xOK_ofS (e := cc0_X_sentence_214_e) (k := 0) (c := 0) (c1 := 0) (c2 := 2) (by decide) (by decide) (cc0_X_sentence_214_ok 60 (by decide)) rfl rfl (by decide +kernel) (by decide +kernel)
set_option maxRecDepth 100000 in
theorem xk_sentence_1 : xOK 262 0 1 := xOK_ofS (e := cc1_X_sentence_410_e) (k := 0) (c := 1) (c1 := 1) (c2 := 3) (by decide) (by decide) (cc1_X_sentence_410_ok 60 (by decide)) rfl rfl (by decide +kernel) (by decide +kernel)
set_option maxRecDepth 100000 in
theorem xk_sentence_2 : xOK 262 0 2 := xOK_ofS (e := cc2_X_sentence_480_e) (k := 0) (c := 2) (c1 := 2) (c2 := 0) (by decide) (by decide) (cc2_X_sentence_480_ok 60 (by decide)) rfl rfl (by decide +kernel) (by decide +kernel)
set_option maxRecDepth 100000 in
theorem xk_sentence_3 : xOK 262 0 3 := xOK_ofS (e := cc3_X_sentence_547_e) (k := 0) (c := 3) (c1 := 3) (c2 := 1) (by decide) (by decide) (cc3_X_sentence_547_ok 60 (by decide)) rfl rfl (by decide +kernel) (by decide +kernel)
set_option maxRecDepth 100000 in
theorem xk_said_0 : xOK 275 1 0 := xOK_of (e := cc0_X_said_235_e) (k := 1) (c := 0) (by decide) (cc0_X_said_235_ok 60 (by decide)) rfl rfl (by decide +kernel)
set_option maxRecDepth 100000 in
theorem xk_said_1 : xOK 275 1 1 := xOK_of (e := cc1_X_said_431_e) (k := 1) (c := 1) (by decide) (cc1_X_said_431_ok 60 (by decide)) rfl rfl (by decide +kernel)
set_option maxRecDepth 100000 in
theorem xk_said_2 : xOK 275 1 2 := xOK_of (e := cc2_X_said_501_e) (k := 1) (c := 2) (by decide) (cc2_X_said_501_ok 60 (by decide)) rfl rfl (by decide +kernel)
set_option maxRecDepth 100000 in
theorem xk_said_3 : xOK 275 1 3 := xOK_of (e := cc3_X_said_568_e) (k := 1) (c := 3) (by decide) (cc3_X_said_568_ok 60 (by decide)) rfl rfl (by decide +kernel)
set_option maxRecDepth 100000 in
theorem xk_restore_0 : xOK 283 1 0 := xOK_of (e := cc0_X_restore_237_e) (k := 1) (c := 0) (by decide) (cc0_X_restore_237_ok 60 (by decide)) rfl rfl (by decide +kernel)
set_option maxRecDepth 100000 in
theorem xk_restore_1 : xOK 283 1 1 := xOK_of (e := cc1_X_restore_433_e) (k := 1) (c := 1) (by decide) (cc1_X_restore_433_ok 60 (by decide)) rfl rfl (by decide +kernel)
set_option maxRecDepth 100000 in
theorem xk_restore_2 : xOK 283 1 2 := xOK_of (e := cc2_X_restore_503_e) (k := 1) (c := 2) (by decide) (cc2_X_restore_503_ok 60 (by decide)) rfl rfl (by decide +kernel)
set_option maxRecDepth 100000 in
theorem xk_restore_3 : xOK 283 1 3 := xOK_of (e := cc3_X_restore_570_e) (k := 1) (c := 3) (by decide) (cc3_X_restore_570_ok 60 (by decide)) rfl rfl (by decide +kernel)
set_option maxRecDepth 100000 in
theorem xk_count_0 : xOK 285 1 0 := xOK_of (e := cc0_X_count_238_e) (k := 1) (c := 0) (by decide) (cc0_X_count_238_ok 60 (by decide)) rfl rfl (by decide +kernel)
set_option maxRecDepth 100000 in
theorem xk_count_1 : xOK 285 1 1 := xOK_of (e := cc1_X_count_434_e) (k := 1) (c := 1) (by decide) (cc1_X_count_434_ok 60 (by decide)) rfl rfl (by decide +kernel)
set_option maxRecDepth 100000 in
theorem xk_count_2 : xOK 285 1 2 := xOK_of (e := cc2_X_count_504_e) (k := 1) (c := 2) (by decide) (cc2_X_count_504_ok 60 (by decide)) rfl rfl (by decide +kernel)
set_option maxRecDepth 100000 in
theorem xk_count_3 : xOK 285 1 3 := xOK_of (e := cc3_X_count_571_e) (k := 1) (c := 3) (by decide) (cc3_X_count_571_ok 60 (by decide)) rfl rfl (by decide +kernel)
