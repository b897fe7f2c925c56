/-! ===== the public calls of the reference ===== -/
set_option maxRecDepth 100000 in
theorem mk_feed_0 : mOK 28 5 0 := mOK_of0 (e := cc_M_feed_572_e) (k := 5) (v := 0) (cc_M_feed_572_ok 60 (by decide)) rfl rfl (by decide +kernel) (by decide +kernel)
set_option maxRecDepth 100000 in
theorem mk_feed_1 : mOK 28 5 1 := mOK_of0 (e := cc_M_feed_572_e) (k := 5) (v := 1) (cc_M_feed_572_ok 60 (by decide)) rfl rfl (by decide +kernel) (by decide +kernel)
set_option maxRecDepth 100000 in
theorem mk_feed_2 : mOK 28 5 2 := mOK_of0 (e := cc_M_feed_572_e) (k := 5) (v := 2) (cc_M_feed_572_ok 60 (by decide)) rfl rfl (by decide +kernel) (by decide +kernel)
set_option maxRecDepth 100000 in
theorem mk_feed_3 : mOK 28 5 3 := mOK_of0 (e := cc_M_feed_572_e) (k := 5) (v := 3) (cc_M_feed_572_ok 60 (by decide)) rfl rfl (by decide +kernel) (by decide +kernel)
set_option maxRecDepth 100000 in
theorem mk_end_0 : mOK 30 1 0 := mOK_of0 (e := cc_M_end_573_e) (k := 1) (v := 0) (cc_M_end_573_ok 60 (by decide)) rfl rfl (by decide +kernel) (by decide +kernel)
set_option maxRecDepth 100000 in
theorem mk_end_1 : mOK 30 1 1 := mOK_of0 (e := cc_M_end_573_e) (k := 1) (v := 1) (cc_M_end_573_ok 60 (by decide)) rfl rfl (by decide +kernel) (by decide +kernel)
set_option maxRecDepth 100000 in
theorem mk_end_2 : mOK 30 1 2 := mOK_of0 (e := cc_M_end_573_e) (k := 1) (v := 2) (cc_M_end_573_ok 60 (by decide)) rfl rfl (by decide +kernel) (by decide +kernel)
set_option maxRecDepth 100000 in
theorem mk_end_3 : mOK 30 1 3 := mOK_of0 (e := cc_M_end_573_e) (k := 1) (v := 3) (cc_M_end_573_ok 60 (by decide)) rfl rfl (by decide +kernel) (by decide +kernel)
set_option maxRecDepth 100000 in
theorem mk_fault_0 : mOK 83 0 0 := mOK_of0 (e := cc_M_fault_574_e) (k := 0) (v := 0) (cc_M_fault_574_ok 60 (by decide)) rfl rfl (by decide +kernel) (by decide +kernel)
set_option maxRecDepth 100000 in
theorem mk_fault_1 : mOK 83 0 1 := mOK_of0 (e := cc_M_fault_574_e) (k := 0) (v := 1) (cc_M_fault_574_ok 60 (by decide)) rfl rfl (by decide +kernel) (by decide +kernel)
set_option maxRecDepth 100000 in
theorem mk_fault_2 : mOK 83 0 2 := mOK_of0 (e := cc_M_fault_574_e) (k := 0) (v := 2) (cc_M_fault_574_ok 60 (by decide)) rfl rfl (by decide +kernel) (by decide +kernel)
set_option maxRecDepth 100000 in
theorem mk_fault_3 : mOK 83 0 3 := mOK_of0 (e := cc_M_fault_574_e) (k := 0) (v := 3) (cc_M_fault_574_ok 60 (by decide)) rfl rfl (by decide +kernel) (by decide +kernel)
set_option maxRecDepth 100000 in
theorem mk_pain_0 : mOK 86 2 0 := mOK_of (e := cr0_M_pain_909_e) (k := 2) (v := 0) (cr0_M_pain_909_ok 60 (by decide)) rfl rfl (by decide +kernel)
set_option maxRecDepth 100000 in
theorem mk_pain_1 : mOK 86 2 1 := mOK_of (e := cr1_M_pain_830_e) (k := 2) (v := 1) (cr1_M_pain_830_ok 60 (by decide)) rfl rfl (by decide +kernel)
set_option maxRecDepth 100000 in
theorem mk_pain_2 : mOK 86 2 2 := mOK_of (e := cr2_M_pain_739_e) (k := 2) (v := 2) (cr2_M_pain_739_ok 60 (by decide)) rfl rfl (by decide +kernel)
set_option maxRecDepth 100000 in
theorem mk_pain_3 : mOK 86 2 3 := mOK_of (e := cr3_M_pain_575_e) (k := 2) (v := 3) (cr3_M_pain_575_ok 60 (by decide)) rfl rfl (by decide +kernel)
set_option maxRecDepth 100000 in
theorem mk_person_0 : mOK 96 2 0 := mOK_of (e := cr0_M_person_912_e) (k := 2) (v := 0) (cr0_M_person_912_ok 60 (by decide)) rfl rfl (by decide +kernel)
set_option maxRecDepth 100000 in
theorem mk_person_1 : mOK 96 2 1 := mOK_of (e := cr1_M_person_833_e) (k := 2) (v := 1) (cr1_M_person_833_ok 60 (by decide)) rfl rfl (by decide +kernel)
set_option maxRecDepth 100000 in
theorem mk_person_2 : mOK 96 2 2 := mOK_of (e := cr2_M_person_742_e) (k := 2) (v := 2) (cr2_M_person_742_ok 60 (by decide)) rfl rfl (by decide +kernel)
set_option maxRecDepth 100000 in
theorem mk_person_3 : mOK 96 2 3 := mOK_of (e := cr3_M_person_578_e) (k := 2) (v := 3) (cr3_M_person_578_ok 60 (by decide)) rfl rfl (by decide +kernel)
set_option maxRecDepth 100000 in
theorem mk_porter_0 : mOK 101 2 0 := mOK_of (e := cr0_M_porter_913_e) (k := 2) (v := 0) (cr0_M_porter_913_ok 60 (by decide)) rfl rfl (by decide +kernel)
set_option maxRecDepth 100000 in
theorem mk_porter_1 : mOK 101 2 1 := mOK_of (e := cr1_M_porter_834_e) (k := 2) (v := 1) (cr1_M_porter_834_ok 60 (by decide)) rfl rfl (by decide +kernel)
set_option maxRecDepth 100000 in
theorem mk_porter_2 : mOK 101 2 2 := mOK_of (e := cr2_M_porter_745_e) (k := 2) (v := 2) (cr2_M_porter_745_ok 60 (by decide)) rfl rfl (by decide +kernel)
set_option maxRecDepth 100000 in
theorem mk_porter_3 : mOK 101 2 3 := mOK_of (e := cr3_M_porter_581_e) (k := 2) (v := 3) (cr3_M_porter_581_ok 60 (by decide)) rfl rfl (by decide +kernel)
set_option maxRecDepth 100000 in
theorem mk_sort_0 : mOK 103 2 0 := mOK_of (e := cr0_M_sort_914_e) (k := 2) (v := 0) (cr0_M_sort_914_ok 60 (by decide)) rfl rfl (by decide +kernel)
set_option maxRecDepth 100000 in
theorem mk_sort_1 : mOK 103 2 1 := mOK_of (e := cr1_M_sort_835_e) (k := 2) (v := 1) (cr1_M_sort_835_ok 60 (by decide)) rfl rfl (by decide +kernel)
set_option maxRecDepth 100000 in
theorem mk_sort_2 : mOK 103 2 2 := mOK_of (e := cr2_M_sort_746_e) (k := 2) (v := 2) (cr2_M_sort_746_ok 60 (by decide)) rfl rfl (by decide +kernel)
set_option maxRecDepth 100000 in
theorem mk_sort_3 : mOK 103 2 3 := mOK_of (e := cr3_M_sort_582_e) (k := 2) (v := 3) (cr3_M_sort_582_ok 60 (by decide)) rfl rfl (by decide +kernel)
set_option maxRecDepth 100000 in
theorem mk_now_0 : mOK 113 1 0 := mOK_of (e := cr0_M_now_923_e) (k := 1) (v := 0) (cr0_M_now_923_ok 60 (by decide)) rfl rfl (by decide +kernel)
set_option maxRecDepth 100000 in
theorem mk_now_1 : mOK 113 1 1 := mOK_of (e := cr1_M_now_844_e) (k := 1) (v := 1) (cr1_M_now_844_ok 60 (by decide)) rfl rfl (by decide +kernel)
set_option maxRecDepth 100000 in
theorem mk_now_2 : mOK 113 1 2 := mOK_of (e := cr2_M_now_755_e) (k := 1) (v := 2) (cr2_M_now_755_ok 60 (by decide)) rfl rfl (by decide +kernel)
set_option maxRecDepth 100000 in
theorem mk_now_3 : mOK 113 1 3 := mOK_of (e := cr3_M_now_591_e) (k := 1) (v := 3) (cr3_M_now_591_ok 60 (by decide)) rfl rfl (by decide +kernel)
set_option maxRecDepth 100000 in
theorem mk_fetch_0 : mOK 128 2 0 := mOK_of (e := cr0_M_fetch_924_e) (k := 2) (v := 0) (cr0_M_fetch_924_ok 60 (by decide)) rfl rfl (by decide +kernel)
set_option maxRecDepth 100000 in
theorem mk_fetch_1 : mOK 128 2 1 := mOK_of (e := cr1_M_fetch_845_e) (k := 2) (v := 1) (cr1_M_fetch_845_ok 60 (by decide)) rfl rfl (by decide +kernel)
set_option maxRecDepth 100000 in
theorem mk_fetch_2 : mOK 128 2 2 := mOK_of (e := cr2_M_fetch_756_e) (k := 2) (v := 2) (cr2_M_fetch_756_ok 60 (by decide)) rfl rfl (by decide +kernel)
set_option maxRecDepth 100000 in
theorem mk_fetch_3 : mOK 128 2 3 := mOK_of (e := cr3_M_fetch_594_e) (k := 2) (v := 3) (cr3_M_fetch_594_ok 60 (by decide)) rfl rfl (by decide +kernel)
set_option maxRecDepth 100000 in
theorem mk_hand_0 : mOK 132 3 0 := mOK_of (e := cr0_M_hand_925_e) (k := 3) (v := 0) (cr0_M_hand_925_ok 60 (by decide)) rfl rfl (by decide +kernel)
set_option maxRecDepth 100000 in
theorem mk_hand_1 : mOK 132 3 1 := mOK_of (e := cr1_M_hand_846_e) (k := 3) (v := 1) (cr1_M_hand_846_ok 60 (by decide)) rfl rfl (by decide +kernel)
set_option maxRecDepth 100000 in
theorem mk_hand_2 : mOK 132 3 2 := mOK_of (e := cr2_M_hand_757_e) (k := 3) (v := 2) (cr2_M_hand_757_ok 60 (by decide)) rfl rfl (by decide +kernel)
set_option maxRecDepth 100000 in
theorem mk_hand_3 : mOK 132 3 3 := mOK_of (e := cr3_M_hand_595_e) (k := 3) (v := 3) (cr3_M_hand_595_ok 60 (by decide)) rfl rfl (by decide +kernel)
set_option maxRecDepth 100000 in
theorem mk_drop_0 : mOK 138 2 0 := mOK_of (e := cr0_M_drop_926_e) (k := 2) (v := 0) (cr0_M_drop_926_ok 60 (by decide)) rfl rfl (by decide +kernel)
set_option maxRecDepth 100000 in
theorem mk_drop_1 : mOK 138 2 1 := mOK_of (e := cr1_M_drop_847_e) (k := 2) (v := 1) (cr1_M_drop_847_ok 60 (by decide)) rfl rfl (by decide +kernel)
set_option maxRecDepth 100000 in
theorem mk_drop_2 : mOK 138 2 2 := mOK_of (e := cr2_M_drop_758_e) (k := 2) (v := 2) (cr2_M_drop_758_ok 60 (by decide)) rfl rfl (by decide +kernel)
set_option maxRecDepth 100000 in
theorem mk_drop_3 : mOK 138 2 3 := mOK_of (e := cr3_M_drop_596_e) (k := 2) (v := 3) (cr3_M_drop_596_ok 60 (by decide)) rfl rfl (by decide +kernel)
set_option maxRecDepth 100000 in
theorem mk_home_0 : mOK 142 1 0 := mOK_of (e := cr0_M_home_927_e) (k := 1) (v := 0) (cr0_M_home_927_ok 60 (by decide)) rfl rfl (by decide +kernel)
set_option maxRecDepth 100000 in
theorem mk_home_1 : mOK 142 1 1 := mOK_of (e := cr1_M_home_849_e) (k := 1) (v := 1) (cr1_M_home_849_ok 60 (by decide)) rfl rfl (by decide +kernel)
set_option maxRecDepth 100000 in
theorem mk_home_2 : mOK 142 1 2 := mOK_of (e := cr2_M_home_759_e) (k := 1) (v := 2) (cr2_M_home_759_ok 60 (by decide)) rfl rfl (by decide +kernel)
set_option maxRecDepth 100000 in
theorem mk_home_3 : mOK 142 1 3 := mOK_of (e := cr3_M_home_597_e) (k := 1) (v := 3) (cr3_M_home_597_ok 60 (by decide)) rfl rfl (by decide +kernel)
set_option maxRecDepth 100000 in
theorem mk_hours_0 : mOK 155 1 0 := mOK_of (e := cr0_M_hours_930_e) (k := 1) (v := 0) (cr0_M_hours_930_ok 60 (by decide)) rfl rfl (by decide +kernel)
set_option maxRecDepth 100000 in
theorem mk_hours_1 : mOK 155 1 1 := mOK_of (e := cr1_M_hours_851_e) (k := 1) (v := 1) (cr1_M_hours_851_ok 60 (by decide)) rfl rfl (by decide +kernel)
set_option maxRecDepth 100000 in
theorem mk_hours_2 : mOK 155 1 2 := mOK_of (e := cr2_M_hours_762_e) (k := 1) (v := 2) (cr2_M_hours_762_ok 60 (by decide)) rfl rfl (by decide +kernel)
set_option maxRecDepth 100000 in
theorem mk_hours_3 : mOK 155 1 3 := mOK_of (e := cr3_M_hours_599_e) (k := 1) (v := 3) (cr3_M_hours_599_ok 60 (by decide)) rfl rfl (by decide +kernel)
set_option maxRecDepth 100000 in
theorem mk_undo_0 : mOK 158 0 0 := mOK_of (e := cr0_M_undo_931_e) (k := 0) (v := 0) (cr0_M_undo_931_ok 60 (by decide)) rfl rfl (by decide +kernel)
set_option maxRecDepth 100000 in
theorem mk_undo_1 : mOK 158 0 1 := mOK_of (e := cr1_M_undo_852_e) (k := 0) (v := 1) (cr1_M_undo_852_ok 60 (by decide)) rfl rfl (by decide +kernel)
set_option maxRecDepth 100000 in
theorem mk_undo_2 : mOK 158 0 2 := mOK_of (e := cr2_M_undo_763_e) (k := 0) (v := 2) (cr2_M_undo_763_ok 60 (by decide)) rfl rfl (by decide +kernel)
set_option maxRecDepth 100000 in
theorem mk_undo_3 : mOK 158 0 3 := mOK_of (e := cr3_M_undo_600_e) (k := 0) (v := 3) (cr3_M_undo_600_ok 60 (by decide)) rfl rfl (by decide +kernel)
set_option maxRecDepth 100000 in
theorem mk_can_0 : mOK 160 2 0 := mOK_of (e := cr0_M_can_932_e) (k := 2) (v := 0) (cr0_M_can_932_ok 60 (by decide)) rfl rfl (by decide +kernel)
set_option maxRecDepth 100000 in
theorem mk_can_1 : mOK 160 2 1 := mOK_of (e := cr1_M_can_853_e) (k := 2) (v := 1) (cr1_M_can_853_ok 60 (by decide)) rfl rfl (by decide +kernel)
set_option maxRecDepth 100000 in
theorem mk_can_2 : mOK 160 2 2 := mOK_of (e := cr2_M_can_764_e) (k := 2) (v := 2) (cr2_M_can_764_ok 60 (by decide)) rfl rfl (by decide +kernel)
set_option maxRecDepth 100000 in
theorem mk_can_3 : mOK 160 2 3 := mOK_of (e := cr3_M_can_601_e) (k := 2) (v := 3) (cr3_M_can_601_ok 60 (by decide)) rfl rfl (by decide +kernel)
set_option maxRecDepth 100000 in
theorem mk_free_0 : mOK 175 2 0 := mOK_of (e := cr0_M_free_938_e) (k := 2) (v := 0) (cr0_M_free_938_ok 60 (by decide)) rfl rfl (by decide +kernel)
set_option maxRecDepth 100000 in
theorem mk_free_1 : mOK 175 2 1 := mOK_of (e := cr1_M_free_859_e) (k := 2) (v := 1) (cr1_M_free_859_ok 60 (by decide)) rfl rfl (by decide +kernel)
set_option maxRecDepth 100000 in
theorem mk_free_2 : mOK 175 2 2 := mOK_of (e := cr2_M_free_787_e) (k := 2) (v := 2) (cr2_M_free_787_ok 60 (by decide)) rfl rfl (by decide +kernel)
set_option maxRecDepth 100000 in
theorem mk_free_3 : mOK 175 2 3 := mOK_of (e := cr3_M_free_627_e) (k := 2) (v := 3) (cr3_M_free_627_ok 60 (by decide)) rfl rfl (by decide +kernel)
set_option maxRecDepth 100000 in
theorem mk_by_0 : mOK 177 1 0 := mOK_of0 (e := cc_M_by_628_e) (k := 1) (v := 0) (cc_M_by_628_ok 60 (by decide)) rfl rfl (by decide +kernel) (by decide +kernel)
set_option maxRecDepth 100000 in
theorem mk_by_1 : mOK 177 1 1 := mOK_of0 (e := cc_M_by_628_e) (k := 1) (v := 1) (cc_M_by_628_ok 60 (by decide)) rfl rfl (by decide +kernel) (by decide +kernel)
set_option maxRecDepth 100000 in
theorem mk_by_2 : mOK 177 1 2 := mOK_of0 (e := cc_M_by_628_e) (k := 1) (v := 2) (cc_M_by_628_ok 60 (by decide)) rfl rfl (by decide +kernel) (by decide +kernel)
set_option maxRecDepth 100000 in
theorem mk_by_3 : mOK 177 1 3 := mOK_of0 (e := cc_M_by_628_e) (k := 1) (v := 3) (cc_M_by_628_ok 60 (by decide)) rfl rfl (by decide +kernel) (by decide +kernel)
set_option maxRecDepth 100000 in
theorem mk_fewest_0 : mOK 180 1 0 := mOK_of (e := cr0_M_fewest_939_e) (k := 1) (v := 0) (cr0_M_fewest_939_ok 60 (by decide)) rfl rfl (by decide +kernel)
set_option maxRecDepth 100000 in
theorem mk_fewest_1 : mOK 180 1 1 := mOK_of (e := cr1_M_fewest_860_e) (k := 1) (v := 1) (cr1_M_fewest_860_ok 60 (by decide)) rfl rfl (by decide +kernel)
set_option maxRecDepth 100000 in
theorem mk_fewest_2 : mOK 180 1 2 := mOK_of (e := cr2_M_fewest_788_e) (k := 1) (v := 2) (cr2_M_fewest_788_ok 60 (by decide)) rfl rfl (by decide +kernel)
set_option maxRecDepth 100000 in
theorem mk_fewest_3 : mOK 180 1 3 := mOK_of (e := cr3_M_fewest_630_e) (k := 1) (v := 3) (cr3_M_fewest_630_ok 60 (by decide)) rfl rfl (by decide +kernel)
set_option maxRecDepth 100000 in
theorem mk_load_0 : mOK 182 1 0 := mOK_of0 (e := cc_M_load_631_e) (k := 1) (v := 0) (cc_M_load_631_ok 60 (by decide)) rfl rfl (by decide +kernel) (by decide +kernel)
set_option maxRecDepth 100000 in
theorem mk_load_1 : mOK 182 1 1 := mOK_of0 (e := cc_M_load_631_e) (k := 1) (v := 1) (cc_M_load_631_ok 60 (by decide)) rfl rfl (by decide +kernel) (by decide +kernel)
set_option maxRecDepth 100000 in
theorem mk_load_2 : mOK 182 1 2 := mOK_of0 (e := cc_M_load_631_e) (k := 1) (v := 2) (cc_M_load_631_ok 60 (by decide)) rfl rfl (by decide +kernel) (by decide +kernel)
set_option maxRecDepth 100000 in
theorem mk_load_3 : mOK 182 1 3 := mOK_of0 (e := cc_M_load_631_e) (k := 1) (v := 3) (cc_M_load_631_ok 60 (by decide)) rfl rfl (by decide +kernel) (by decide +kernel)
set_option maxRecDepth 100000 in
theorem mk_limps_0 : mOK 194 0 0 := mOK_of (e := cr0_M_limps_964_e) (k := 0) (v := 0) (cr0_M_limps_964_ok 60 (by decide)) rfl rfl (by decide +kernel)
set_option maxRecDepth 100000 in
theorem mk_limps_1 : mOK 194 0 1 := mOK_of (e := cr1_M_limps_885_e) (k := 0) (v := 1) (cr1_M_limps_885_ok 60 (by decide)) rfl rfl (by decide +kernel)
set_option maxRecDepth 100000 in
theorem mk_limps_2 : mOK 194 0 2 := mOK_of (e := cr2_M_limps_813_e) (k := 0) (v := 2) (cr2_M_limps_813_ok 60 (by decide)) rfl rfl (by decide +kernel)
set_option maxRecDepth 100000 in
theorem mk_limps_3 : mOK 194 0 3 := mOK_of (e := cr3_M_limps_657_e) (k := 0) (v := 3) (cr3_M_limps_657_ok 60 (by decide)) rfl rfl (by decide +kernel)
set_option maxRecDepth 100000 in
theorem mk_surely_0 : mOK 197 1 0 := mOK_of0 (e := cc_M_surely_658_e) (k := 1) (v := 0) (cc_M_surely_658_ok 60 (by decide)) rfl rfl (by decide +kernel) (by decide +kernel)
set_option maxRecDepth 100000 in
theorem mk_surely_1 : mOK 197 1 1 := mOK_of0 (e := cc_M_surely_658_e) (k := 1) (v := 1) (cc_M_surely_658_ok 60 (by decide)) rfl rfl (by decide +kernel) (by decide +kernel)
set_option maxRecDepth 100000 in
theorem mk_surely_2 : mOK 197 1 2 := mOK_of0 (e := cc_M_surely_658_e) (k := 1) (v := 2) (cc_M_surely_658_ok 60 (by decide)) rfl rfl (by decide +kernel) (by decide +kernel)
set_option maxRecDepth 100000 in
theorem mk_surely_3 : mOK 197 1 3 := mOK_of0 (e := cc_M_surely_658_e) (k := 1) (v := 3) (cc_M_surely_658_ok 60 (by decide)) rfl rfl (by decide +kernel) (by decide +kernel)
set_option maxRecDepth 100000 in
theorem mk_ask_0 : mOK 200 0 0 := mOK_of0 (e := cc_M_ask_659_e) (k := 0) (v := 0) (cc_M_ask_659_ok 60 (by decide)) rfl rfl (by decide +kernel) (by decide +kernel)
set_option maxRecDepth 100000 in
theorem mk_ask_1 : mOK 200 0 1 := mOK_of0 (e := cc_M_ask_659_e) (k := 0) (v := 1) (cc_M_ask_659_ok 60 (by decide)) rfl rfl (by decide +kernel) (by decide +kernel)
set_option maxRecDepth 100000 in
theorem mk_ask_2 : mOK 200 0 2 := mOK_of0 (e := cc_M_ask_659_e) (k := 0) (v := 2) (cc_M_ask_659_ok 60 (by decide)) rfl rfl (by decide +kernel) (by decide +kernel)
set_option maxRecDepth 100000 in
theorem mk_ask_3 : mOK 200 0 3 := mOK_of0 (e := cc_M_ask_659_e) (k := 0) (v := 3) (cc_M_ask_659_ok 60 (by decide)) rfl rfl (by decide +kernel) (by decide +kernel)
set_option maxRecDepth 100000 in
theorem mk_share_0 : mOK 202 2 0 := mOK_of (e := cr0_M_share_965_e) (k := 2) (v := 0) (cr0_M_share_965_ok 60 (by decide)) rfl rfl (by decide +kernel)
set_option maxRecDepth 100000 in
theorem mk_share_1 : mOK 202 2 1 := mOK_of (e := cr1_M_share_886_e) (k := 2) (v := 1) (cr1_M_share_886_ok 60 (by decide)) rfl rfl (by decide +kernel)
set_option maxRecDepth 100000 in
theorem mk_share_2 : mOK 202 2 2 := mOK_of (e := cr2_M_share_814_e) (k := 2) (v := 2) (cr2_M_share_814_ok 60 (by decide)) rfl rfl (by decide +kernel)
set_option maxRecDepth 100000 in
theorem mk_share_3 : mOK 202 2 3 := mOK_of (e := cr3_M_share_660_e) (k := 2) (v := 3) (cr3_M_share_660_ok 60 (by decide)) rfl rfl (by decide +kernel)
set_option maxRecDepth 100000 in
theorem mk_rest_0 : mOK 212 0 0 := mOK_of (e := cr0_M_rest_967_e) (k := 0) (v := 0) (cr0_M_rest_967_ok 60 (by decide)) rfl rfl (by decide +kernel)
set_option maxRecDepth 100000 in
theorem mk_rest_1 : mOK 212 0 1 := mOK_of (e := cr1_M_rest_896_e) (k := 0) (v := 1) (cr1_M_rest_896_ok 60 (by decide)) rfl rfl (by decide +kernel)
set_option maxRecDepth 100000 in
theorem mk_rest_2 : mOK 212 0 2 := mOK_of (e := cr2_M_rest_817_e) (k := 0) (v := 2) (cr2_M_rest_817_ok 60 (by decide)) rfl rfl (by decide +kernel)
set_option maxRecDepth 100000 in
theorem mk_rest_3 : mOK 212 0 3 := mOK_of (e := cr3_M_rest_672_e) (k := 0) (v := 3) (cr3_M_rest_672_ok 60 (by decide)) rfl rfl (by decide +kernel)
set_option maxRecDepth 100000 in
theorem mk_fee_0 : mOK 214 1 0 := mOK_of0 (e := cc_M_fee_673_e) (k := 1) (v := 0) (cc_M_fee_673_ok 60 (by decide)) rfl rfl (by decide +kernel) (by decide +kernel)
set_option maxRecDepth 100000 in
theorem mk_fee_1 : mOK 214 1 1 := mOK_of0 (e := cc_M_fee_673_e) (k := 1) (v := 1) (cc_M_fee_673_ok 60 (by decide)) rfl rfl (by decide +kernel) (by decide +kernel)
set_option maxRecDepth 100000 in
theorem mk_fee_2 : mOK 214 1 2 := mOK_of0 (e := cc_M_fee_673_e) (k := 1) (v := 2) (cc_M_fee_673_ok 60 (by decide)) rfl rfl (by decide +kernel) (by decide +kernel)
set_option maxRecDepth 100000 in
theorem mk_fee_3 : mOK 214 1 3 := mOK_of0 (e := cc_M_fee_673_e) (k := 1) (v := 3) (cc_M_fee_673_ok 60 (by decide)) rfl rfl (by decide +kernel) (by decide +kernel)
set_option maxRecDepth 100000 in
theorem mk_unharmed_0 : mOK 216 2 0 := mOK_of (e := cr0_M_unharmed_968_e) (k := 2) (v := 0) (cr0_M_unharmed_968_ok 60 (by decide)) rfl rfl (by decide +kernel)
set_option maxRecDepth 100000 in
theorem mk_unharmed_1 : mOK 216 2 1 := mOK_of (e := cr1_M_unharmed_897_e) (k := 2) (v := 1) (cr1_M_unharmed_897_ok 60 (by decide)) rfl rfl (by decide +kernel)
set_option maxRecDepth 100000 in
theorem mk_unharmed_2 : mOK 216 2 2 := mOK_of (e := cr2_M_unharmed_818_e) (k := 2) (v := 2) (cr2_M_unharmed_818_ok 60 (by decide)) rfl rfl (by decide +kernel)
set_option maxRecDepth 100000 in
theorem mk_unharmed_3 : mOK 216 2 3 := mOK_of (e := cr3_M_unharmed_679_e) (k := 2) (v := 3) (cr3_M_unharmed_679_ok 60 (by decide)) rfl rfl (by decide +kernel)
set_option maxRecDepth 100000 in
theorem mk_ease_0 : mOK 220 1 0 := mOK_of (e := cr0_M_ease_971_e) (k := 1) (v := 0) (cr0_M_ease_971_ok 60 (by decide)) rfl rfl (by decide +kernel)
set_option maxRecDepth 100000 in
theorem mk_ease_1 : mOK 220 1 1 := mOK_of (e := cr1_M_ease_900_e) (k := 1) (v := 1) (cr1_M_ease_900_ok 60 (by decide)) rfl rfl (by decide +kernel)
set_option maxRecDepth 100000 in
theorem mk_ease_2 : mOK 220 1 2 := mOK_of (e := cr2_M_ease_821_e) (k := 1) (v := 2) (cr2_M_ease_821_ok 60 (by decide)) rfl rfl (by decide +kernel)
set_option maxRecDepth 100000 in
theorem mk_ease_3 : mOK 220 1 3 := mOK_of (e := cr3_M_ease_682_e) (k := 1) (v := 3) (cr3_M_ease_682_ok 60 (by decide)) rfl rfl (by decide +kernel)
set_option maxRecDepth 100000 in
theorem mk_later_0 : mOK 222 2 0 := mOK_of (e := cr0_M_later_973_e) (k := 2) (v := 0) (cr0_M_later_973_ok 60 (by decide)) rfl rfl (by decide +kernel)
set_option maxRecDepth 100000 in
theorem mk_later_1 : mOK 222 2 1 := mOK_of (e := cr1_M_later_902_e) (k := 2) (v := 1) (cr1_M_later_902_ok 60 (by decide)) rfl rfl (by decide +kernel)
set_option maxRecDepth 100000 in
theorem mk_later_2 : mOK 222 2 2 := mOK_of (e := cr2_M_later_823_e) (k := 2) (v := 2) (cr2_M_later_823_ok 60 (by decide)) rfl rfl (by decide +kernel)
set_option maxRecDepth 100000 in
theorem mk_later_3 : mOK 222 2 3 := mOK_of (e := cr3_M_later_684_e) (k := 2) (v := 3) (cr3_M_later_684_ok 60 (by decide)) rfl rfl (by decide +kernel)
set_option maxRecDepth 100000 in
theorem mk_lasts_0 : mOK 224 1 0 := mOK_of (e := cr0_M_lasts_974_e) (k := 1) (v := 0) (cr0_M_lasts_974_ok 60 (by decide)) rfl rfl (by decide +kernel)
set_option maxRecDepth 100000 in
theorem mk_lasts_1 : mOK 224 1 1 := mOK_of (e := cr1_M_lasts_903_e) (k := 1) (v := 1) (cr1_M_lasts_903_ok 60 (by decide)) rfl rfl (by decide +kernel)
set_option maxRecDepth 100000 in
theorem mk_lasts_2 : mOK 224 1 2 := mOK_of (e := cr2_M_lasts_824_e) (k := 1) (v := 2) (cr2_M_lasts_824_ok 60 (by decide)) rfl rfl (by decide +kernel)
set_option maxRecDepth 100000 in
theorem mk_lasts_3 : mOK 224 1 3 := mOK_of (e := cr3_M_lasts_685_e) (k := 1) (v := 3) (cr3_M_lasts_685_ok 60 (by decide)) rfl rfl (by decide +kernel)
set_option maxRecDepth 100000 in
theorem mk_cheapest_0 : mOK 226 1 0 := mOK_of (e := cr0_M_cheapest_975_e) (k := 1) (v := 0) (cr0_M_cheapest_975_ok 60 (by decide)) rfl rfl (by decide +kernel)
set_option maxRecDepth 100000 in
theorem mk_cheapest_1 : mOK 226 1 1 := mOK_of (e := cr1_M_cheapest_904_e) (k := 1) (v := 1) (cr1_M_cheapest_904_ok 60 (by decide)) rfl rfl (by decide +kernel)
set_option maxRecDepth 100000 in
theorem mk_cheapest_2 : mOK 226 1 2 := mOK_of (e := cr2_M_cheapest_825_e) (k := 1) (v := 2) (cr2_M_cheapest_825_ok 60 (by decide)) rfl rfl (by decide +kernel)
set_option maxRecDepth 100000 in
theorem mk_cheapest_3 : mOK 226 1 3 := mOK_of (e := cr3_M_cheapest_694_e) (k := 1) (v := 3) (cr3_M_cheapest_694_ok 60 (by decide)) rfl rfl (by decide +kernel)
set_option maxRecDepth 100000 in
theorem mk_hopeless_0 : mOK 229 0 0 := mOK_of (e := cr0_M_hopeless_976_e) (k := 0) (v := 0) (cr0_M_hopeless_976_ok 60 (by decide)) rfl rfl (by decide +kernel)
set_option maxRecDepth 100000 in
theorem mk_hopeless_1 : mOK 229 0 1 := mOK_of (e := cr1_M_hopeless_905_e) (k := 0) (v := 1) (cr1_M_hopeless_905_ok 60 (by decide)) rfl rfl (by decide +kernel)
set_option maxRecDepth 100000 in
theorem mk_hopeless_2 : mOK 229 0 2 := mOK_of (e := cr2_M_hopeless_826_e) (k := 0) (v := 2) (cr2_M_hopeless_826_ok 60 (by decide)) rfl rfl (by decide +kernel)
set_option maxRecDepth 100000 in
theorem mk_hopeless_3 : mOK 229 0 3 := mOK_of (e := cr3_M_hopeless_730_e) (k := 0) (v := 3) (cr3_M_hopeless_730_ok 60 (by decide)) rfl rfl (by decide +kernel)
set_option maxRecDepth 100000 in
theorem mk_drawn_0 : mOK 237 2 0 := mOK_of (e := cr0_M_drawn_977_e) (k := 2) (v := 0) (cr0_M_drawn_977_ok 60 (by decide)) rfl rfl (by decide +kernel)
set_option maxRecDepth 100000 in
theorem mk_drawn_1 : mOK 237 2 1 := mOK_of (e := cr1_M_drawn_906_e) (k := 2) (v := 1) (cr1_M_drawn_906_ok 60 (by decide)) rfl rfl (by decide +kernel)
set_option maxRecDepth 100000 in
theorem mk_drawn_2 : mOK 237 2 2 := mOK_of (e := cr2_M_drawn_827_e) (k := 2) (v := 2) (cr2_M_drawn_827_ok 60 (by decide)) rfl rfl (by decide +kernel)
set_option maxRecDepth 100000 in
theorem mk_drawn_3 : mOK 237 2 3 := mOK_of (e := cr3_M_drawn_734_e) (k := 2) (v := 3) (cr3_M_drawn_734_ok 60 (by decide)) rfl rfl (by decide +kernel)
set_option maxRecDepth 100000 in
theorem mk_odds_0 : mOK 239 3 0 := mOK_of (e := cr0_M_odds_978_e) (k := 3) (v := 0) (cr0_M_odds_978_ok 60 (by decide)) rfl rfl (by decide +kernel)
set_option maxRecDepth 100000 in
theorem mk_odds_1 : mOK 239 3 1 := mOK_of (e := cr1_M_odds_907_e) (k := 3) (v := 1) (cr1_M_odds_907_ok 60 (by decide)) rfl rfl (by decide +kernel)
set_option maxRecDepth 100000 in
theorem mk_odds_2 : mOK 239 3 2 := mOK_of (e := cr2_M_odds_828_e) (k := 3) (v := 2) (cr2_M_odds_828_ok 60 (by decide)) rfl rfl (by decide +kernel)
set_option maxRecDepth 100000 in
theorem mk_odds_3 : mOK 239 3 3 := mOK_of (e := cr3_M_odds_736_e) (k := 3) (v := 3) (cr3_M_odds_736_ok 60 (by decide)) rfl rfl (by decide +kernel)
set_option maxRecDepth 100000 in
theorem mk_logged_0 : mOK 253 1 0 := mOK_of0 (e := cc_M_logged_737_e) (k := 1) (v := 0) (cc_M_logged_737_ok 60 (by decide)) rfl rfl (by decide +kernel) (by decide +kernel)
set_option maxRecDepth 100000 in
theorem mk_logged_1 : mOK 253 1 1 := mOK_of0 (e := cc_M_logged_737_e) (k := 1) (v := 1) (cc_M_logged_737_ok 60 (by decide)) rfl rfl (by decide +kernel) (by decide +kernel)
set_option maxRecDepth 100000 in
theorem mk_logged_2 : mOK 253 1 2 := mOK_of0 (e := cc_M_logged_737_e) (k := 1) (v := 2) (cc_M_logged_737_ok 60 (by decide)) rfl rfl (by decide +kernel) (by decide +kernel)
set_option maxRecDepth 100000 in
theorem mk_logged_3 : mOK 253 1 3 := mOK_of0 (e := cc_M_logged_737_e) (k := 1) (v := 3) (cc_M_logged_737_ok 60 (by decide)) rfl rfl (by decide +kernel) (by decide +kernel)
set_option maxRecDepth 100000 in
theorem mk_count_0 : mOK 286 1 0 := mOK_of (e := cr0_M_count_979_e) (k := 1) (v := 0) (cr0_M_count_979_ok 60 (by decide)) rfl rfl (by decide +kernel)
set_option maxRecDepth 100000 in
theorem mk_count_1 : mOK 286 1 1 := mOK_of (e := cr1_M_count_908_e) (k := 1) (v := 1) (cr1_M_count_908_ok 60 (by decide)) rfl rfl (by decide +kernel)
set_option maxRecDepth 100000 in
theorem mk_count_2 : mOK 286 1 2 := mOK_of (e := cr2_M_count_829_e) (k := 1) (v := 2) (cr2_M_count_829_ok 60 (by decide)) rfl rfl (by decide +kernel)
set_option maxRecDepth 100000 in
theorem mk_count_3 : mOK 286 1 3 := mOK_of (e := cr3_M_count_738_e) (k := 1) (v := 3) (cr3_M_count_738_ok 60 (by decide)) rfl rfl (by decide +kernel)
