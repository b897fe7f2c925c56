/-! ===== the tables are the code: 6 ===== -/
set_option maxRecDepth 100000 in
theorem m_X8_isFirstOfSort_ok : vMOK vms vdf m_X8_isFirstOfSort := vMOK_of (lk := vlk_RX8) vlk_RX8_ok vkn (by decide +kernel) (by decide +kernel)
set_option maxRecDepth 100000 in
theorem m_X8_practise_ok : vMOK vms vdf m_X8_practise := vMOK_of (lk := vlk_RX8) vlk_RX8_ok vkn (by decide +kernel) (by decide +kernel)
set_option maxRecDepth 100000 in
theorem m_X8_wearOff_ok : vMOK vms vdf m_X8_wearOff := vMOK_of (lk := vlk_RX8) vlk_RX8_ok vkn (by decide +kernel) (by decide +kernel)
set_option maxRecDepth 100000 in
theorem m_X8_fallOnSomebody_ok : vMOK vms vdf m_X8_fallOnSomebody := vMOK_of (lk := vlk_RX8) vlk_RX8_ok vkn (by decide +kernel) (by decide +kernel)
set_option maxRecDepth 100000 in
theorem m_X8_passHours_ok : vMOK vms vdf m_X8_passHours := vMOK_of (lk := vlk_RX8) vlk_RX8_ok vkn (by decide +kernel) (by decide +kernel)
set_option maxRecDepth 100000 in
theorem m_X11_hours_ok : vMOK vms vdf m_X11_hours := vMOK_of (lk := vlk_RX11) vlk_RX11_ok vkn (by decide +kernel) (by decide +kernel)
set_option maxRecDepth 100000 in
theorem m_X12_pays_ok : vMOK vms vdf m_X12_pays := vMOK_of (lk := vlk_RX12) vlk_RX12_ok vkn (by decide +kernel) (by decide +kernel)
set_option maxRecDepth 100000 in
theorem m_X12_lesser_ok : vMOK vms vdf m_X12_lesser := vMOK_of (lk := vlk_RX12) vlk_RX12_ok vkn (by decide +kernel) (by decide +kernel)
set_option maxRecDepth 100000 in
theorem m_X12_learns_ok : vMOK vms vdf m_X12_learns := vMOK_of (lk := vlk_RX12) vlk_RX12_ok vkn (by decide +kernel) (by decide +kernel)
set_option maxRecDepth 100000 in
theorem m_X12_hour_ok : vMOK vms vdf m_X12_hour := vMOK_of (lk := vlk_RX12) vlk_RX12_ok vkn (by decide +kernel) (by decide +kernel)
set_option maxRecDepth 100000 in
theorem m_X12_goesOn_ok : vMOK vms vdf m_X12_goesOn := vMOK_of (lk := vlk_RX12) vlk_RX12_ok vkn (by decide +kernel) (by decide +kernel)
set_option maxRecDepth 100000 in
theorem m_X12_hours_ok : vMOK vms vdf m_X12_hours := vMOK_of (lk := vlk_RX12) vlk_RX12_ok vkn (by decide +kernel) (by decide +kernel)
set_option maxRecDepth 100000 in
theorem m_X5_bringBack_ok : vMOK vms vdf m_X5_bringBack := vMOK_of (lk := vlk_RX5) vlk_RX5_ok vkn (by decide +kernel) (by decide +kernel)
set_option maxRecDepth 100000 in
theorem m_X11_undo_ok : vMOK vms vdf m_X11_undo := vMOK_of (lk := vlk_RX11) vlk_RX11_ok vkn (by decide +kernel) (by decide +kernel)
set_option maxRecDepth 100000 in
theorem m_X12_undo_ok : vMOK vms vdf m_X12_undo := vMOK_of (lk := vlk_RX12) vlk_RX12_ok vkn (by decide +kernel) (by decide +kernel)
set_option maxRecDepth 100000 in
theorem m_X11_can_ok : vMOK vms vdf m_X11_can := vMOK_of (lk := vlk_RX11) vlk_RX11_ok vkn (by decide +kernel) (by decide +kernel)
set_option maxRecDepth 100000 in
theorem m_X12_can_ok : vMOK vms vdf m_X12_can := vMOK_of (lk := vlk_RX12) vlk_RX12_ok vkn (by decide +kernel) (by decide +kernel)
set_option maxRecDepth 100000 in
theorem m_X11_isAmong_ok : vMOK vms vdf m_X11_isAmong := vMOK_of (lk := vlk_RX11) vlk_RX11_ok vkn (by decide +kernel) (by decide +kernel)
set_option maxRecDepth 100000 in
theorem m_X3_gather_ok : vMOK vms vdf m_X3_gather := vMOK_of (lk := vlk_RX3) vlk_RX3_ok vkn (by decide +kernel) (by decide +kernel)
set_option maxRecDepth 100000 in
theorem m_X3_findKeys_ok : vMOK vms vdf m_X3_findKeys := vMOK_of (lk := vlk_RX3) vlk_RX3_ok vkn (by decide +kernel) (by decide +kernel)
set_option maxRecDepth 100000 in
theorem m_J9_min_f86c9_ok : vMOK vms vdf m_J9_min_f86c9 := vMOK_of (lk := []) (fun _ h => nomatch h) vkn (by decide +kernel) (by decide +kernel)
set_option maxRecDepth 100000 in
theorem m_X3_addPorter_ok : vMOK vms vdf m_X3_addPorter := vMOK_of (lk := vlk_RX3) vlk_RX3_ok vkn (by decide +kernel) (by decide +kernel)
set_option maxRecDepth 100000 in
theorem m_X3_leastCost_ok : vMOK vms vdf m_X3_leastCost := vMOK_of (lk := vlk_RX3) vlk_RX3_ok vkn (by decide +kernel) (by decide +kernel)
set_option maxRecDepth 100000 in
theorem m_X3_freeing_ok : vMOK vms vdf m_X3_freeing := vMOK_of (lk := vlk_RX3) vlk_RX3_ok vkn (by decide +kernel) (by decide +kernel)
