/-! ===== the tables are the code: 10 ===== -/
set_option maxRecDepth 100000 in
theorem m_X4_readHour_ok : vMOK vms vdf m_X4_readHour := vMOK_of (lk := vlk_RX4) vlk_RX4_ok vkn (by decide +kernel) (by decide +kernel)
set_option maxRecDepth 100000 in
theorem m_X4_readHome_ok : vMOK vms vdf m_X4_readHome := vMOK_of (lk := vlk_RX4) vlk_RX4_ok vkn (by decide +kernel) (by decide +kernel)
set_option maxRecDepth 100000 in
theorem m_X4_readDeed_ok : vMOK vms vdf m_X4_readDeed := vMOK_of (lk := vlk_RX4) vlk_RX4_ok vkn (by decide +kernel) (by decide +kernel)
set_option maxRecDepth 100000 in
theorem m_X4_readLine_ok : vMOK vms vdf m_X4_readLine := vMOK_of (lk := vlk_RX4) vlk_RX4_ok vkn (by decide +kernel) (by decide +kernel)
set_option maxRecDepth 100000 in
theorem m_X4_read_ok : vMOK vms vdf m_X4_read := vMOK_of (lk := vlk_RX4) vlk_RX4_ok vkn (by decide +kernel) (by decide +kernel)
set_option maxRecDepth 100000 in
theorem m_X4_liveHanding_ok : vMOK vms vdf m_X4_liveHanding := vMOK_of (lk := vlk_RX4) vlk_RX4_ok vkn (by decide +kernel) (by decide +kernel)
set_option maxRecDepth 100000 in
theorem m_X4_liveLine_ok : vMOK vms vdf m_X4_liveLine := vMOK_of (lk := vlk_RX4) vlk_RX4_ok vkn (by decide +kernel) (by decide +kernel)
set_option maxRecDepth 100000 in
theorem m_X4_goodLines_ok : vMOK vms vdf m_X4_goodLines := vMOK_of (lk := vlk_RX4) vlk_RX4_ok vkn (by decide +kernel) (by decide +kernel)
set_option maxRecDepth 100000 in
theorem m_X11_log_ok : vMOK vms vdf m_X11_log := vMOK_of (lk := vlk_RX11) vlk_RX11_ok vkn (by decide +kernel) (by decide +kernel)
set_option maxRecDepth 100000 in
theorem m_X12_logLine_ok : vMOK vms vdf m_X12_logLine := vMOK_of (lk := vlk_RX12) vlk_RX12_ok vkn (by decide +kernel) (by decide +kernel)
set_option maxRecDepth 100000 in
theorem m_X12_does_ok : vMOK vms vdf m_X12_does := vMOK_of (lk := vlk_RX12) vlk_RX12_ok vkn (by decide +kernel) (by decide +kernel)
set_option maxRecDepth 100000 in
theorem m_X12_log_ok : vMOK vms vdf m_X12_log := vMOK_of (lk := vlk_RX12) vlk_RX12_ok vkn (by decide +kernel) (by decide +kernel)
set_option maxRecDepth 100000 in
theorem m_X11_logged_ok : vMOK vms vdf m_X11_logged := vMOK_of (lk := vlk_RX11) vlk_RX11_ok vkn (by decide +kernel) (by decide +kernel)
set_option maxRecDepth 100000 in
theorem m_X12_logged_ok : vMOK vms vdf m_X12_logged := vMOK_of (lk := vlk_RX12) vlk_RX12_ok vkn (by decide +kernel) (by decide +kernel)
set_option maxRecDepth 100000 in
theorem m_X7_putOpen_ok : vMOK vms vdf m_X7_putOpen := vMOK_of (lk := vlk_RX7) vlk_RX7_ok vkn (by decide +kernel) (by decide +kernel)
set_option maxRecDepth 100000 in
theorem m_X7_step_ok : vMOK vms vdf m_X7_step := vMOK_of (lk := vlk_RX7) vlk_RX7_ok vkn (by decide +kernel) (by decide +kernel)
set_option maxRecDepth 100000 in
theorem m_X7_readPlain_ok : vMOK vms vdf m_X7_readPlain := vMOK_of (lk := vlk_RX7) vlk_RX7_ok vkn (by decide +kernel) (by decide +kernel)
set_option maxRecDepth 100000 in
theorem m_X7_closeNots_ok : vMOK vms vdf m_X7_closeNots := vMOK_of (lk := vlk_RX7) vlk_RX7_ok vkn (by decide +kernel) (by decide +kernel)
set_option maxRecDepth 100000 in
theorem m_X7_readOne_ok : vMOK vms vdf m_X7_readOne := vMOK_of (lk := vlk_RX7) vlk_RX7_ok vkn (by decide +kernel) (by decide +kernel)
set_option maxRecDepth 100000 in
theorem m_X7_closeJoins_ok : vMOK vms vdf m_X7_closeJoins := vMOK_of (lk := vlk_RX7) vlk_RX7_ok vkn (by decide +kernel) (by decide +kernel)
set_option maxRecDepth 100000 in
theorem m_X7_readBetween_ok : vMOK vms vdf m_X7_readBetween := vMOK_of (lk := vlk_RX7) vlk_RX7_ok vkn (by decide +kernel) (by decide +kernel)
set_option maxRecDepth 100000 in
theorem m_X7_read_ok : vMOK vms vdf m_X7_read := vMOK_of (lk := vlk_RX7) vlk_RX7_ok vkn (by decide +kernel) (by decide +kernel)
set_option maxRecDepth 100000 in
theorem m_X11_sentence_ok : vMOK vms vdf m_X11_sentence := vMOK_of (lk := vlk_RX11) vlk_RX11_ok vkn (by decide +kernel) (by decide +kernel)
set_option maxRecDepth 100000 in
theorem m_X12_code_ok : vMOK vms vdf m_X12_code := vMOK_of (lk := vlk_RX12) vlk_RX12_ok vkn (by decide +kernel) (by decide +kernel)
