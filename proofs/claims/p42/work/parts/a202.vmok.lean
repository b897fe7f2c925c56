/-! ===== the tables are the code: 2 ===== -/
set_option maxRecDepth 100000 in
theorem m_X10_readTalks_ok : vMOK vms vdf m_X10_readTalks := vMOK_of (lk := vlk_RX10) vlk_RX10_ok vkn (by decide +kernel) (by decide +kernel)
set_option maxRecDepth 100000 in
theorem m_X6_readNumber_ok : vMOK vms vdf m_X6_readNumber := vMOK_of (lk := vlk_RX6) vlk_RX6_ok vkn (by decide +kernel) (by decide +kernel)
set_option maxRecDepth 100000 in
theorem m_X10_readPerson_ok : vMOK vms vdf m_X10_readPerson := vMOK_of (lk := vlk_RX10) vlk_RX10_ok vkn (by decide +kernel) (by decide +kernel)
set_option maxRecDepth 100000 in
theorem m_X10_readPorter_ok : vMOK vms vdf m_X10_readPorter := vMOK_of (lk := vlk_RX10) vlk_RX10_ok vkn (by decide +kernel) (by decide +kernel)
set_option maxRecDepth 100000 in
theorem m_X10_readBars_ok : vMOK vms vdf m_X10_readBars := vMOK_of (lk := vlk_RX10) vlk_RX10_ok vkn (by decide +kernel) (by decide +kernel)
set_option maxRecDepth 100000 in
theorem m_X10_readPain_ok : vMOK vms vdf m_X10_readPain := vMOK_of (lk := vlk_RX10) vlk_RX10_ok vkn (by decide +kernel) (by decide +kernel)
set_option maxRecDepth 100000 in
theorem m_X10_readHarm_ok : vMOK vms vdf m_X10_readHarm := vMOK_of (lk := vlk_RX10) vlk_RX10_ok vkn (by decide +kernel) (by decide +kernel)
set_option maxRecDepth 100000 in
theorem m_X10_readLine_ok : vMOK vms vdf m_X10_readLine := vMOK_of (lk := vlk_RX10) vlk_RX10_ok vkn (by decide +kernel) (by decide +kernel)
set_option maxRecDepth 100000 in
theorem m_X10_read_ok : vMOK vms vdf m_X10_read := vMOK_of (lk := vlk_RX10) vlk_RX10_ok vkn (by decide +kernel) (by decide +kernel)
set_option maxRecDepth 100000 in
theorem m_X8_begin_ok : vMOK vms vdf m_X8_begin := vMOK_of (lk := vlk_RX8) vlk_RX8_ok vkn (by decide +kernel) (by decide +kernel)
set_option maxRecDepth 100000 in
theorem m_X7_forget_ok : vMOK vms vdf m_X7_forget := vMOK_of (lk := vlk_RX7) vlk_RX7_ok vkn (by decide +kernel) (by decide +kernel)
set_option maxRecDepth 100000 in
theorem m_X5_forget_ok : vMOK vms vdf m_X5_forget := vMOK_of (lk := vlk_RX5) vlk_RX5_ok vkn (by decide +kernel) (by decide +kernel)
set_option maxRecDepth 100000 in
theorem m_X11_town_ok : vMOK vms vdf m_X11_town := vMOK_of (lk := vlk_RX11) vlk_RX11_ok vkn (by decide +kernel) (by decide +kernel)
set_option maxRecDepth 100000 in
theorem m_X12_taken_ok : vMOK vms vdf m_X12_taken := vMOK_of (lk := vlk_RX12) vlk_RX12_ok vkn (by decide +kernel) (by decide +kernel)
set_option maxRecDepth 100000 in
theorem m_X12_peek_ok : vMOK vms vdf m_X12_peek := vMOK_of (lk := vlk_RX12) vlk_RX12_ok vkn (by decide +kernel) (by decide +kernel)
set_option maxRecDepth 100000 in
theorem m_X12_isSmall_ok : vMOK vms vdf m_X12_isSmall := vMOK_of (lk := vlk_RX12) vlk_RX12_ok vkn (by decide +kernel) (by decide +kernel)
set_option maxRecDepth 100000 in
theorem m_X12_isDigit_ok : vMOK vms vdf m_X12_isDigit := vMOK_of (lk := vlk_RX12) vlk_RX12_ok vkn (by decide +kernel) (by decide +kernel)
set_option maxRecDepth 100000 in
theorem m_X12_next_ok : vMOK vms vdf m_X12_next := vMOK_of (lk := vlk_RX12) vlk_RX12_ok vkn (by decide +kernel) (by decide +kernel)
set_option maxRecDepth 100000 in
theorem m_X12_isWord_ok : vMOK vms vdf m_X12_isWord := vMOK_of (lk := vlk_RX12) vlk_RX12_ok vkn (by decide +kernel) (by decide +kernel)
set_option maxRecDepth 100000 in
theorem m_X12_bad_ok : vMOK vms vdf m_X12_bad := vMOK_of (lk := vlk_RX12) vlk_RX12_ok vkn (by decide +kernel) (by decide +kernel)
set_option maxRecDepth 100000 in
theorem m_X12_isName_ok : vMOK vms vdf m_X12_isName := vMOK_of (lk := vlk_RX12) vlk_RX12_ok vkn (by decide +kernel) (by decide +kernel)
set_option maxRecDepth 100000 in
theorem m_X12_find_ok : vMOK vms vdf m_X12_find := vMOK_of (lk := vlk_RX12) vlk_RX12_ok vkn (by decide +kernel) (by decide +kernel)
set_option maxRecDepth 100000 in
theorem m_X12_fresh_ok : vMOK vms vdf m_X12_fresh := vMOK_of (lk := vlk_RX12) vlk_RX12_ok vkn (by decide +kernel) (by decide +kernel)
set_option maxRecDepth 100000 in
theorem m_X12_looksAt_ok : vMOK vms vdf m_X12_looksAt := vMOK_of (lk := vlk_RX12) vlk_RX12_ok vkn (by decide +kernel) (by decide +kernel)
