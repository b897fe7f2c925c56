/-! ===== the tables are the code: 1 ===== -/
set_option maxRecDepth 100000 in
theorem m_X12_feed_ok : vMOK vms vdf m_X12_feed := vMOK_of (lk := vlk_RX12) vlk_RX12_ok vkn (by decide +kernel) (by decide +kernel)
set_option maxRecDepth 100000 in
theorem m_X11_end_ok : vMOK vms vdf m_X11_end := vMOK_of (lk := vlk_RX11) vlk_RX11_ok vkn (by decide +kernel) (by decide +kernel)
set_option maxRecDepth 100000 in
theorem m_X12_end_ok : vMOK vms vdf m_X12_end := vMOK_of (lk := vlk_RX12) vlk_RX12_ok vkn (by decide +kernel) (by decide +kernel)
set_option maxRecDepth 100000 in
theorem m_J9_min_7cf53_ok : vMOK vms vdf m_J9_min_7cf53 := vMOK_of (lk := []) (fun _ h => nomatch h) vkn (by decide +kernel) (by decide +kernel)
set_option maxRecDepth 100000 in
theorem m_X6_begin_ok : vMOK vms vdf m_X6_begin := vMOK_of (lk := vlk_RX6) vlk_RX6_ok vkn (by decide +kernel) (by decide +kernel)
set_option maxRecDepth 100000 in
theorem m_X11_takeTape_ok : vMOK vms vdf m_X11_takeTape := vMOK_of (lk := vlk_RX11) vlk_RX11_ok vkn (by decide +kernel) (by decide +kernel)
set_option maxRecDepth 100000 in
theorem m_X9_clear_ok : vMOK vms vdf m_X9_clear := vMOK_of (lk := vlk_RX9) vlk_RX9_ok vkn (by decide +kernel) (by decide +kernel)
set_option maxRecDepth 100000 in
theorem m_X6_advance_ok : vMOK vms vdf m_X6_advance := vMOK_of (lk := vlk_RX6) vlk_RX6_ok vkn (by decide +kernel) (by decide +kernel)
set_option maxRecDepth 100000 in
theorem m_X9_findClashes_ok : vMOK vms vdf m_X9_findClashes := vMOK_of (lk := vlk_RX9) vlk_RX9_ok vkn (by decide +kernel) (by decide +kernel)
set_option maxRecDepth 100000 in
theorem m_X6_fail_ok : vMOK vms vdf m_X6_fail := vMOK_of (lk := vlk_RX6) vlk_RX6_ok vkn (by decide +kernel) (by decide +kernel)
set_option maxRecDepth 100000 in
theorem m_X10_read_ok : vMOK vms vdf m_X10_read := vMOK_of (lk := vlk_RX10) vlk_RX10_ok vkn (by decide +kernel) (by decide +kernel)
set_option maxRecDepth 100000 in
theorem m_X8_begin_ok : vMOK vms vdf m_X8_begin := vMOK_of (lk := vlk_RX8) vlk_RX8_ok vkn (by decide +kernel) (by decide +kernel)
set_option maxRecDepth 100000 in
theorem m_X7_forget_ok : vMOK vms vdf m_X7_forget := vMOK_of (lk := vlk_RX7) vlk_RX7_ok vkn (by decide +kernel) (by decide +kernel)
set_option maxRecDepth 100000 in
theorem m_X5_forget_ok : vMOK vms vdf m_X5_forget := vMOK_of (lk := vlk_RX5) vlk_RX5_ok vkn (by decide +kernel) (by decide +kernel)
set_option maxRecDepth 100000 in
theorem m_X11_town_ok : vMOK vms vdf m_X11_town := vMOK_of (lk := vlk_RX11) vlk_RX11_ok vkn (by decide +kernel) (by decide +kernel)
set_option maxRecDepth 100000 in
theorem m_X12_taken_ok : vMOK vms vdf m_X12_taken := vMOK_of (lk := vlk_RX12) vlk_RX12_ok vkn (by decide +kernel) (by decide +kernel)
set_option maxRecDepth 100000 in
theorem m_X12_peek_ok : vMOK vms vdf m_X12_peek := vMOK_of (lk := vlk_RX12) vlk_RX12_ok vkn (by decide +kernel) (by decide +kernel)
set_option maxRecDepth 100000 in
theorem m_X12_next_ok : vMOK vms vdf m_X12_next := vMOK_of (lk := vlk_RX12) vlk_RX12_ok vkn (by decide +kernel) (by decide +kernel)
set_option maxRecDepth 100000 in
theorem m_X12_isWord_ok : vMOK vms vdf m_X12_isWord := vMOK_of (lk := vlk_RX12) vlk_RX12_ok vkn (by decide +kernel) (by decide +kernel)
set_option maxRecDepth 100000 in
theorem m_X12_bad_ok : vMOK vms vdf m_X12_bad := vMOK_of (lk := vlk_RX12) vlk_RX12_ok vkn (by decide +kernel) (by decide +kernel)
set_option maxRecDepth 100000 in
theorem m_X12_isIn_ok : vMOK vms vdf m_X12_isIn := vMOK_of (lk := vlk_RX12) vlk_RX12_ok vkn (by decide +kernel) (by decide +kernel)
set_option maxRecDepth 100000 in
theorem m_X12_isSign_ok : vMOK vms vdf m_X12_isSign := vMOK_of (lk := vlk_RX12) vlk_RX12_ok vkn (by decide +kernel) (by decide +kernel)
set_option maxRecDepth 100000 in
theorem m_X12_town_ok : vMOK vms vdf m_X12_town := vMOK_of (lk := vlk_RX12) vlk_RX12_ok vkn (by decide +kernel) (by decide +kernel)
set_option maxRecDepth 100000 in
theorem m_X11_fault_ok : vMOK vms vdf m_X11_fault := vMOK_of (lk := vlk_RX11) vlk_RX11_ok vkn (by decide +kernel) (by decide +kernel)
