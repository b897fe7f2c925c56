/-! ===== the tables are the code: 6 ===== -/
set_option maxRecDepth 100000 in
theorem m_X11_cheapest_ok : vMOK vms vdf m_X11_cheapest := vMOK_of (lk := vlk_RX11) vlk_RX11_ok vkn (by decide +kernel) (by decide +kernel)
set_option maxRecDepth 100000 in
theorem m_X12_cheapest_ok : vMOK vms vdf m_X12_cheapest := vMOK_of (lk := vlk_RX12) vlk_RX12_ok vkn (by decide +kernel) (by decide +kernel)
set_option maxRecDepth 100000 in
theorem m_X11_hopeless_ok : vMOK vms vdf m_X11_hopeless := vMOK_of (lk := vlk_RX11) vlk_RX11_ok vkn (by decide +kernel) (by decide +kernel)
set_option maxRecDepth 100000 in
theorem m_X12_hopeless_ok : vMOK vms vdf m_X12_hopeless := vMOK_of (lk := vlk_RX12) vlk_RX12_ok vkn (by decide +kernel) (by decide +kernel)
set_option maxRecDepth 100000 in
theorem m_X11_drawn_ok : vMOK vms vdf m_X11_drawn := vMOK_of (lk := vlk_RX11) vlk_RX11_ok vkn (by decide +kernel) (by decide +kernel)
set_option maxRecDepth 100000 in
theorem m_X12_drawn_ok : vMOK vms vdf m_X12_drawn := vMOK_of (lk := vlk_RX12) vlk_RX12_ok vkn (by decide +kernel) (by decide +kernel)
set_option maxRecDepth 100000 in
theorem m_X11_odds_ok : vMOK vms vdf m_X11_odds := vMOK_of (lk := vlk_RX11) vlk_RX11_ok vkn (by decide +kernel) (by decide +kernel)
set_option maxRecDepth 100000 in
theorem m_X12_odds_ok : vMOK vms vdf m_X12_odds := vMOK_of (lk := vlk_RX12) vlk_RX12_ok vkn (by decide +kernel) (by decide +kernel)
set_option maxRecDepth 100000 in
theorem m_X4_read_ok : vMOK vms vdf m_X4_read := vMOK_of (lk := vlk_RX4) vlk_RX4_ok vkn (by decide +kernel) (by decide +kernel)
set_option maxRecDepth 100000 in
theorem m_X4_goodLines_ok : vMOK vms vdf m_X4_goodLines := vMOK_of (lk := vlk_RX4) vlk_RX4_ok vkn (by decide +kernel) (by decide +kernel)
set_option maxRecDepth 100000 in
theorem m_X11_log_ok : vMOK vms vdf m_X11_log := vMOK_of (lk := vlk_RX11) vlk_RX11_ok vkn (by decide +kernel) (by decide +kernel)
set_option maxRecDepth 100000 in
theorem m_X12_log_ok : vMOK vms vdf m_X12_log := vMOK_of (lk := vlk_RX12) vlk_RX12_ok vkn (by decide +kernel) (by decide +kernel)
set_option maxRecDepth 100000 in
theorem m_X11_logged_ok : vMOK vms vdf m_X11_logged := vMOK_of (lk := vlk_RX11) vlk_RX11_ok vkn (by decide +kernel) (by decide +kernel)
set_option maxRecDepth 100000 in
theorem m_X12_logged_ok : vMOK vms vdf m_X12_logged := vMOK_of (lk := vlk_RX12) vlk_RX12_ok vkn (by decide +kernel) (by decide +kernel)
set_option maxRecDepth 100000 in
theorem m_X7_readOne_ok : vMOK vms vdf m_X7_readOne := vMOK_of (lk := vlk_RX7) vlk_RX7_ok vkn (by decide +kernel) (by decide +kernel)
set_option maxRecDepth 100000 in
theorem m_X7_read_ok : vMOK vms vdf m_X7_read := vMOK_of (lk := vlk_RX7) vlk_RX7_ok vkn (by decide +kernel) (by decide +kernel)
set_option maxRecDepth 100000 in
theorem m_X11_sentence_ok : vMOK vms vdf m_X11_sentence := vMOK_of (lk := vlk_RX11) vlk_RX11_ok vkn (by decide +kernel) (by decide +kernel)
set_option maxRecDepth 100000 in
theorem m_X12_leafOf_ok : vMOK vms vdf m_X12_leafOf := vMOK_of (lk := vlk_RX12) vlk_RX12_ok vkn (by decide +kernel) (by decide +kernel)
set_option maxRecDepth 100000 in
theorem m_X12_operand_ok : vMOK vms vdf m_X12_operand := vMOK_of (lk := vlk_RX12) vlk_RX12_ok vkn (by decide +kernel) (by decide +kernel)
set_option maxRecDepth 100000 in
theorem m_X12_sentence_ok : vMOK vms vdf m_X12_sentence := vMOK_of (lk := vlk_RX12) vlk_RX12_ok vkn (by decide +kernel) (by decide +kernel)
set_option maxRecDepth 100000 in
theorem m_X11_said_ok : vMOK vms vdf m_X11_said := vMOK_of (lk := vlk_RX11) vlk_RX11_ok vkn (by decide +kernel) (by decide +kernel)
set_option maxRecDepth 100000 in
theorem m_X12_said_ok : vMOK vms vdf m_X12_said := vMOK_of (lk := vlk_RX12) vlk_RX12_ok vkn (by decide +kernel) (by decide +kernel)
set_option maxRecDepth 100000 in
theorem m_X9_copyFrom_ok : vMOK vms vdf m_X9_copyFrom := vMOK_of (lk := vlk_RX9) vlk_RX9_ok vkn (by decide +kernel) (by decide +kernel)
set_option maxRecDepth 100000 in
theorem m_X7_copyFrom_ok : vMOK vms vdf m_X7_copyFrom := vMOK_of (lk := vlk_RX7) vlk_RX7_ok vkn (by decide +kernel) (by decide +kernel)
