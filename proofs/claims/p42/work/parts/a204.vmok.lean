/-! ===== the tables are the code: 4 ===== -/
set_option maxRecDepth 100000 in
theorem m_X12_person_ok : vMOK vms vdf m_X12_person := vMOK_of (lk := vlk_RX12) vlk_RX12_ok vkn (by decide +kernel) (by decide +kernel)
set_option maxRecDepth 100000 in
theorem m_X12_isPorter_ok : vMOK vms vdf m_X12_isPorter := vMOK_of (lk := vlk_RX12) vlk_RX12_ok vkn (by decide +kernel) (by decide +kernel)
set_option maxRecDepth 100000 in
theorem m_X12_hasLearnt_ok : vMOK vms vdf m_X12_hasLearnt := vMOK_of (lk := vlk_RX12) vlk_RX12_ok vkn (by decide +kernel) (by decide +kernel)
set_option maxRecDepth 100000 in
theorem m_X12_heaves_ok : vMOK vms vdf m_X12_heaves := vMOK_of (lk := vlk_RX12) vlk_RX12_ok vkn (by decide +kernel) (by decide +kernel)
set_option maxRecDepth 100000 in
theorem m_X12_heavesAll_ok : vMOK vms vdf m_X12_heavesAll := vMOK_of (lk := vlk_RX12) vlk_RX12_ok vkn (by decide +kernel) (by decide +kernel)
set_option maxRecDepth 100000 in
theorem m_X12_porter_ok : vMOK vms vdf m_X12_porter := vMOK_of (lk := vlk_RX12) vlk_RX12_ok vkn (by decide +kernel) (by decide +kernel)
set_option maxRecDepth 100000 in
theorem m_X11_sort_ok : vMOK vms vdf m_X11_sort := vMOK_of (lk := vlk_RX11) vlk_RX11_ok vkn (by decide +kernel) (by decide +kernel)
set_option maxRecDepth 100000 in
theorem m_X12_sort_ok : vMOK vms vdf m_X12_sort := vMOK_of (lk := vlk_RX12) vlk_RX12_ok vkn (by decide +kernel) (by decide +kernel)
set_option maxRecDepth 100000 in
theorem m_X8_painless_ok : vMOK vms vdf m_X8_painless := vMOK_of (lk := vlk_RX8) vlk_RX8_ok vkn (by decide +kernel) (by decide +kernel)
set_option maxRecDepth 100000 in
theorem m_X11_sum_ok : vMOK vms vdf m_X11_sum := vMOK_of (lk := vlk_RX11) vlk_RX11_ok vkn (by decide +kernel) (by decide +kernel)
set_option maxRecDepth 100000 in
theorem m_X8_isCarried_ok : vMOK vms vdf m_X8_isCarried := vMOK_of (lk := vlk_RX8) vlk_RX8_ok vkn (by decide +kernel) (by decide +kernel)
set_option maxRecDepth 100000 in
theorem m_X8_carriedNow_ok : vMOK vms vdf m_X8_carriedNow := vMOK_of (lk := vlk_RX8) vlk_RX8_ok vkn (by decide +kernel) (by decide +kernel)
set_option maxRecDepth 100000 in
theorem m_X11_now_ok : vMOK vms vdf m_X11_now := vMOK_of (lk := vlk_RX11) vlk_RX11_ok vkn (by decide +kernel) (by decide +kernel)
set_option maxRecDepth 100000 in
theorem m_X12_freeSet_ok : vMOK vms vdf m_X12_freeSet := vMOK_of (lk := vlk_RX12) vlk_RX12_ok vkn (by decide +kernel) (by decide +kernel)
set_option maxRecDepth 100000 in
theorem m_X12_sum_ok : vMOK vms vdf m_X12_sum := vMOK_of (lk := vlk_RX12) vlk_RX12_ok vkn (by decide +kernel) (by decide +kernel)
set_option maxRecDepth 100000 in
theorem m_X12_isCarried_ok : vMOK vms vdf m_X12_isCarried := vMOK_of (lk := vlk_RX12) vlk_RX12_ok vkn (by decide +kernel) (by decide +kernel)
set_option maxRecDepth 100000 in
theorem m_X12_carriedSet_ok : vMOK vms vdf m_X12_carriedSet := vMOK_of (lk := vlk_RX12) vlk_RX12_ok vkn (by decide +kernel) (by decide +kernel)
set_option maxRecDepth 100000 in
theorem m_X12_now_ok : vMOK vms vdf m_X12_now := vMOK_of (lk := vlk_RX12) vlk_RX12_ok vkn (by decide +kernel) (by decide +kernel)
set_option maxRecDepth 100000 in
theorem m_X11_isPorter_ok : vMOK vms vdf m_X11_isPorter := vMOK_of (lk := vlk_RX11) vlk_RX11_ok vkn (by decide +kernel) (by decide +kernel)
set_option maxRecDepth 100000 in
theorem m_X11_isPain_ok : vMOK vms vdf m_X11_isPain := vMOK_of (lk := vlk_RX11) vlk_RX11_ok vkn (by decide +kernel) (by decide +kernel)
set_option maxRecDepth 100000 in
theorem m_X9_isForbidden_ok : vMOK vms vdf m_X9_isForbidden := vMOK_of (lk := vlk_RX9) vlk_RX9_ok vkn (by decide +kernel) (by decide +kernel)
set_option maxRecDepth 100000 in
theorem m_X8_heaveOf_ok : vMOK vms vdf m_X8_heaveOf := vMOK_of (lk := vlk_RX8) vlk_RX8_ok vkn (by decide +kernel) (by decide +kernel)
set_option maxRecDepth 100000 in
theorem m_X8_whyNotCarry_ok : vMOK vms vdf m_X8_whyNotCarry := vMOK_of (lk := vlk_RX8) vlk_RX8_ok vkn (by decide +kernel) (by decide +kernel)
set_option maxRecDepth 100000 in
theorem m_X8_whyNotFetch_ok : vMOK vms vdf m_X8_whyNotFetch := vMOK_of (lk := vlk_RX8) vlk_RX8_ok vkn (by decide +kernel) (by decide +kernel)
