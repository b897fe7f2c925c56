/-! ===== the tables are the code: 1 ===== -/
set_option maxRecDepth 100000 in
theorem m_X12_init_ok : vMOK vms vdf m_X12_init := vMOK_of (lk := vlk_RX12) vlk_RX12_ok vkn (by decide +kernel) (by decide +kernel)
set_option maxRecDepth 100000 in
theorem m_X11_putNumber_ok : vMOK vms vdf m_X11_putNumber := vMOK_of (lk := vlk_RX11) vlk_RX11_ok vkn (by decide +kernel) (by decide +kernel)
set_option maxRecDepth 100000 in
theorem m_X11_feed_ok : vMOK vms vdf m_X11_feed := vMOK_of (lk := vlk_RX11) vlk_RX11_ok vkn (by decide +kernel) (by decide +kernel)
set_option maxRecDepth 100000 in
theorem m_X12_four_ok : vMOK vms vdf m_X12_four := vMOK_of (lk := vlk_RX12) vlk_RX12_ok vkn (by decide +kernel) (by decide +kernel)
set_option maxRecDepth 100000 in
theorem m_X12_feed_ok : vMOK vms vdf m_X12_feed := vMOK_of (lk := vlk_RX12) vlk_RX12_ok vkn (by decide +kernel) (by decide +kernel)
set_option maxRecDepth 100000 in
theorem m_X11_end_ok : vMOK vms vdf m_X11_end := vMOK_of (lk := vlk_RX11) vlk_RX11_ok vkn (by decide +kernel) (by decide +kernel)
set_option maxRecDepth 100000 in
theorem m_X12_end_ok : vMOK vms vdf m_X12_end := vMOK_of (lk := vlk_RX12) vlk_RX12_ok vkn (by decide +kernel) (by decide +kernel)
set_option maxRecDepth 100000 in
theorem m_J9_min_7cf53_ok : vMOK vms vdf m_J9_min_7cf53 := vMOK_of (lk := []) (fun _ h => nomatch h) vkn (by decide +kernel) (by decide +kernel)
set_option maxRecDepth 100000 in
theorem m_X6_begin_ok : vMOK vms vdf m_X6_begin := vMOK_of (lk := vlk_RX6) vlk_RX6_ok vkn (by decide +kernel) (by decide +kernel)
set_option maxRecDepth 100000 in
theorem m_X11_takeTape_ok : vMOK vms vdf m_X11_takeTape := vMOK_of (lk := vlk_RX11) vlk_RX11_ok vkn (by decide +kernel) (by decide +kernel)
set_option maxRecDepth 100000 in
theorem m_X9_clear_ok : vMOK vms vdf m_X9_clear := vMOK_of (lk := vlk_RX9) vlk_RX9_ok vkn (by decide +kernel) (by decide +kernel)
set_option maxRecDepth 100000 in
theorem m_X6_findKeyword_ok : vMOK vms vdf m_X6_findKeyword := vMOK_of (lk := vlk_RX6) vlk_RX6_ok vkn (by decide +kernel) (by decide +kernel)
set_option maxRecDepth 100000 in
theorem m_X6_readRun_ok : vMOK vms vdf m_X6_readRun := vMOK_of (lk := vlk_RX6) vlk_RX6_ok vkn (by decide +kernel) (by decide +kernel)
set_option maxRecDepth 100000 in
theorem m_X6_advance_ok : vMOK vms vdf m_X6_advance := vMOK_of (lk := vlk_RX6) vlk_RX6_ok vkn (by decide +kernel) (by decide +kernel)
set_option maxRecDepth 100000 in
theorem m_X9_findClashes_ok : vMOK vms vdf m_X9_findClashes := vMOK_of (lk := vlk_RX9) vlk_RX9_ok vkn (by decide +kernel) (by decide +kernel)
set_option maxRecDepth 100000 in
theorem m_X6_fail_ok : vMOK vms vdf m_X6_fail := vMOK_of (lk := vlk_RX6) vlk_RX6_ok vkn (by decide +kernel) (by decide +kernel)
set_option maxRecDepth 100000 in
theorem m_X6_isName_ok : vMOK vms vdf m_X6_isName := vMOK_of (lk := vlk_RX6) vlk_RX6_ok vkn (by decide +kernel) (by decide +kernel)
set_option maxRecDepth 100000 in
theorem m_X9_find_ok : vMOK vms vdf m_X9_find := vMOK_of (lk := vlk_RX9) vlk_RX9_ok vkn (by decide +kernel) (by decide +kernel)
set_option maxRecDepth 100000 in
theorem m_X9_name_ok : vMOK vms vdf m_X9_name := vMOK_of (lk := vlk_RX9) vlk_RX9_ok vkn (by decide +kernel) (by decide +kernel)
set_option maxRecDepth 100000 in
theorem m_X10_readNewName_ok : vMOK vms vdf m_X10_readNewName := vMOK_of (lk := vlk_RX10) vlk_RX10_ok vkn (by decide +kernel) (by decide +kernel)
set_option maxRecDepth 100000 in
theorem m_X6_endsLine_ok : vMOK vms vdf m_X6_endsLine := vMOK_of (lk := vlk_RX6) vlk_RX6_ok vkn (by decide +kernel) (by decide +kernel)
set_option maxRecDepth 100000 in
theorem m_X10_readSort_ok : vMOK vms vdf m_X10_readSort := vMOK_of (lk := vlk_RX10) vlk_RX10_ok vkn (by decide +kernel) (by decide +kernel)
set_option maxRecDepth 100000 in
theorem m_X6_readName_ok : vMOK vms vdf m_X6_readName := vMOK_of (lk := vlk_RX6) vlk_RX6_ok vkn (by decide +kernel) (by decide +kernel)
set_option maxRecDepth 100000 in
theorem m_X6_nextEndsLine_ok : vMOK vms vdf m_X6_nextEndsLine := vMOK_of (lk := vlk_RX6) vlk_RX6_ok vkn (by decide +kernel) (by decide +kernel)
