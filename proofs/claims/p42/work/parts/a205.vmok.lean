/-! ===== the tables are the code: 5 ===== -/
set_option maxRecDepth 100000 in
theorem m_X8_copyFrom_ok : vMOK vms vdf m_X8_copyFrom := vMOK_of (lk := vlk_RX8) vlk_RX8_ok vkn (by decide +kernel) (by decide +kernel)
set_option maxRecDepth 100000 in
theorem m_X5_keep_ok : vMOK vms vdf m_X5_keep := vMOK_of (lk := vlk_RX5) vlk_RX5_ok vkn (by decide +kernel) (by decide +kernel)
set_option maxRecDepth 100000 in
theorem m_X8_give_ok : vMOK vms vdf m_X8_give := vMOK_of (lk := vlk_RX8) vlk_RX8_ok vkn (by decide +kernel) (by decide +kernel)
set_option maxRecDepth 100000 in
theorem m_X11_fetch_ok : vMOK vms vdf m_X11_fetch := vMOK_of (lk := vlk_RX11) vlk_RX11_ok vkn (by decide +kernel) (by decide +kernel)
set_option maxRecDepth 100000 in
theorem m_X12_cant_ok : vMOK vms vdf m_X12_cant := vMOK_of (lk := vlk_RX12) vlk_RX12_ok vkn (by decide +kernel) (by decide +kernel)
set_option maxRecDepth 100000 in
theorem m_X12_cantNow_ok : vMOK vms vdf m_X12_cantNow := vMOK_of (lk := vlk_RX12) vlk_RX12_ok vkn (by decide +kernel) (by decide +kernel)
set_option maxRecDepth 100000 in
theorem m_X12_whyFetch_ok : vMOK vms vdf m_X12_whyFetch := vMOK_of (lk := vlk_RX12) vlk_RX12_ok vkn (by decide +kernel) (by decide +kernel)
set_option maxRecDepth 100000 in
theorem m_X12_keep_ok : vMOK vms vdf m_X12_keep := vMOK_of (lk := vlk_RX12) vlk_RX12_ok vkn (by decide +kernel) (by decide +kernel)
set_option maxRecDepth 100000 in
theorem m_X12_fetch_ok : vMOK vms vdf m_X12_fetch := vMOK_of (lk := vlk_RX12) vlk_RX12_ok vkn (by decide +kernel) (by decide +kernel)
set_option maxRecDepth 100000 in
theorem m_X8_whyNotHand_ok : vMOK vms vdf m_X8_whyNotHand := vMOK_of (lk := vlk_RX8) vlk_RX8_ok vkn (by decide +kernel) (by decide +kernel)
set_option maxRecDepth 100000 in
theorem m_X11_hand_ok : vMOK vms vdf m_X11_hand := vMOK_of (lk := vlk_RX11) vlk_RX11_ok vkn (by decide +kernel) (by decide +kernel)
set_option maxRecDepth 100000 in
theorem m_X12_whyHand_ok : vMOK vms vdf m_X12_whyHand := vMOK_of (lk := vlk_RX12) vlk_RX12_ok vkn (by decide +kernel) (by decide +kernel)
set_option maxRecDepth 100000 in
theorem m_X12_hand_ok : vMOK vms vdf m_X12_hand := vMOK_of (lk := vlk_RX12) vlk_RX12_ok vkn (by decide +kernel) (by decide +kernel)
set_option maxRecDepth 100000 in
theorem m_X8_whyNotDrop_ok : vMOK vms vdf m_X8_whyNotDrop := vMOK_of (lk := vlk_RX8) vlk_RX8_ok vkn (by decide +kernel) (by decide +kernel)
set_option maxRecDepth 100000 in
theorem m_X8_letFall_ok : vMOK vms vdf m_X8_letFall := vMOK_of (lk := vlk_RX8) vlk_RX8_ok vkn (by decide +kernel) (by decide +kernel)
set_option maxRecDepth 100000 in
theorem m_X11_drop_ok : vMOK vms vdf m_X11_drop := vMOK_of (lk := vlk_RX11) vlk_RX11_ok vkn (by decide +kernel) (by decide +kernel)
set_option maxRecDepth 100000 in
theorem m_X12_whyDrop_ok : vMOK vms vdf m_X12_whyDrop := vMOK_of (lk := vlk_RX12) vlk_RX12_ok vkn (by decide +kernel) (by decide +kernel)
set_option maxRecDepth 100000 in
theorem m_X12_drops_ok : vMOK vms vdf m_X12_drops := vMOK_of (lk := vlk_RX12) vlk_RX12_ok vkn (by decide +kernel) (by decide +kernel)
set_option maxRecDepth 100000 in
theorem m_X12_drop_ok : vMOK vms vdf m_X12_drop := vMOK_of (lk := vlk_RX12) vlk_RX12_ok vkn (by decide +kernel) (by decide +kernel)
set_option maxRecDepth 100000 in
theorem m_X8_whyNotHome_ok : vMOK vms vdf m_X8_whyNotHome := vMOK_of (lk := vlk_RX8) vlk_RX8_ok vkn (by decide +kernel) (by decide +kernel)
set_option maxRecDepth 100000 in
theorem m_X11_home_ok : vMOK vms vdf m_X11_home := vMOK_of (lk := vlk_RX11) vlk_RX11_ok vkn (by decide +kernel) (by decide +kernel)
set_option maxRecDepth 100000 in
theorem m_X12_whyHome_ok : vMOK vms vdf m_X12_whyHome := vMOK_of (lk := vlk_RX12) vlk_RX12_ok vkn (by decide +kernel) (by decide +kernel)
set_option maxRecDepth 100000 in
theorem m_X12_home_ok : vMOK vms vdf m_X12_home := vMOK_of (lk := vlk_RX12) vlk_RX12_ok vkn (by decide +kernel) (by decide +kernel)
set_option maxRecDepth 100000 in
theorem m_X8_payPorters_ok : vMOK vms vdf m_X8_payPorters := vMOK_of (lk := vlk_RX8) vlk_RX8_ok vkn (by decide +kernel) (by decide +kernel)
