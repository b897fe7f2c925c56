/-! ===== the tables are the code: 3 ===== -/
set_option maxRecDepth 100000 in
theorem m_X11_isPain_ok : vMOK vms vdf m_X11_isPain := vMOK_of (lk := vlk_RX11) vlk_RX11_ok vkn (by decide +kernel) (by decide +kernel)
set_option maxRecDepth 100000 in
theorem m_X8_copyFrom_ok : vMOK vms vdf m_X8_copyFrom := vMOK_of (lk := vlk_RX8) vlk_RX8_ok vkn (by decide +kernel) (by decide +kernel)
set_option maxRecDepth 100000 in
theorem m_X5_keep_ok : vMOK vms vdf m_X5_keep := vMOK_of (lk := vlk_RX5) vlk_RX5_ok vkn (by decide +kernel) (by decide +kernel)
set_option maxRecDepth 100000 in
theorem m_X11_fetch_ok : vMOK vms vdf m_X11_fetch := vMOK_of (lk := vlk_RX11) vlk_RX11_ok vkn (by decide +kernel) (by decide +kernel)
set_option maxRecDepth 100000 in
theorem m_X12_keep_ok : vMOK vms vdf m_X12_keep := vMOK_of (lk := vlk_RX12) vlk_RX12_ok vkn (by decide +kernel) (by decide +kernel)
set_option maxRecDepth 100000 in
theorem m_X12_fetch_ok : vMOK vms vdf m_X12_fetch := vMOK_of (lk := vlk_RX12) vlk_RX12_ok vkn (by decide +kernel) (by decide +kernel)
set_option maxRecDepth 100000 in
theorem m_X11_hand_ok : vMOK vms vdf m_X11_hand := vMOK_of (lk := vlk_RX11) vlk_RX11_ok vkn (by decide +kernel) (by decide +kernel)
set_option maxRecDepth 100000 in
theorem m_X12_hand_ok : vMOK vms vdf m_X12_hand := vMOK_of (lk := vlk_RX12) vlk_RX12_ok vkn (by decide +kernel) (by decide +kernel)
set_option maxRecDepth 100000 in
theorem m_X11_drop_ok : vMOK vms vdf m_X11_drop := vMOK_of (lk := vlk_RX11) vlk_RX11_ok vkn (by decide +kernel) (by decide +kernel)
set_option maxRecDepth 100000 in
theorem m_X12_drop_ok : vMOK vms vdf m_X12_drop := vMOK_of (lk := vlk_RX12) vlk_RX12_ok vkn (by decide +kernel) (by decide +kernel)
set_option maxRecDepth 100000 in
theorem m_X11_home_ok : vMOK vms vdf m_X11_home := vMOK_of (lk := vlk_RX11) vlk_RX11_ok vkn (by decide +kernel) (by decide +kernel)
set_option maxRecDepth 100000 in
theorem m_X12_home_ok : vMOK vms vdf m_X12_home := vMOK_of (lk := vlk_RX12) vlk_RX12_ok vkn (by decide +kernel) (by decide +kernel)
set_option maxRecDepth 100000 in
theorem m_X8_payPorters_ok : vMOK vms vdf m_X8_payPorters := vMOK_of (lk := vlk_RX8) vlk_RX8_ok vkn (by decide +kernel) (by decide +kernel)
set_option maxRecDepth 100000 in
theorem m_X8_practise_ok : vMOK vms vdf m_X8_practise := vMOK_of (lk := vlk_RX8) vlk_RX8_ok vkn (by decide +kernel) (by decide +kernel)
set_option maxRecDepth 100000 in
theorem m_X8_wearOff_ok : vMOK vms vdf m_X8_wearOff := vMOK_of (lk := vlk_RX8) vlk_RX8_ok vkn (by decide +kernel) (by decide +kernel)
set_option maxRecDepth 100000 in
theorem m_X8_fallOnSomebody_ok : vMOK vms vdf m_X8_fallOnSomebody := vMOK_of (lk := vlk_RX8) vlk_RX8_ok vkn (by decide +kernel) (by decide +kernel)
set_option maxRecDepth 100000 in
theorem m_X8_passHours_ok : vMOK vms vdf m_X8_passHours := vMOK_of (lk := vlk_RX8) vlk_RX8_ok vkn (by decide +kernel) (by decide +kernel)
set_option maxRecDepth 100000 in
theorem m_X11_hours_ok : vMOK vms vdf m_X11_hours := vMOK_of (lk := vlk_RX11) vlk_RX11_ok vkn (by decide +kernel) (by decide +kernel)
set_option maxRecDepth 100000 in
theorem m_X12_learns_ok : vMOK vms vdf m_X12_learns := vMOK_of (lk := vlk_RX12) vlk_RX12_ok vkn (by decide +kernel) (by decide +kernel)
set_option maxRecDepth 100000 in
theorem m_X12_hour_ok : vMOK vms vdf m_X12_hour := vMOK_of (lk := vlk_RX12) vlk_RX12_ok vkn (by decide +kernel) (by decide +kernel)
set_option maxRecDepth 100000 in
theorem m_X12_goesOn_ok : vMOK vms vdf m_X12_goesOn := vMOK_of (lk := vlk_RX12) vlk_RX12_ok vkn (by decide +kernel) (by decide +kernel)
set_option maxRecDepth 100000 in
theorem m_X12_hours_ok : vMOK vms vdf m_X12_hours := vMOK_of (lk := vlk_RX12) vlk_RX12_ok vkn (by decide +kernel) (by decide +kernel)
set_option maxRecDepth 100000 in
theorem m_X5_bringBack_ok : vMOK vms vdf m_X5_bringBack := vMOK_of (lk := vlk_RX5) vlk_RX5_ok vkn (by decide +kernel) (by decide +kernel)
set_option maxRecDepth 100000 in
theorem m_X11_undo_ok : vMOK vms vdf m_X11_undo := vMOK_of (lk := vlk_RX11) vlk_RX11_ok vkn (by decide +kernel) (by decide +kernel)
