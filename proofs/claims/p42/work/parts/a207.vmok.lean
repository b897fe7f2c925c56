/-! ===== the tables are the code: 7 ===== -/
set_option maxRecDepth 100000 in
theorem m_X3_tell_ok : vMOK vms vdf m_X3_tell := vMOK_of (lk := vlk_RX3) vlk_RX3_ok vkn (by decide +kernel) (by decide +kernel)
set_option maxRecDepth 100000 in
theorem m_X11_free_ok : vMOK vms vdf m_X11_free := vMOK_of (lk := vlk_RX11) vlk_RX11_ok vkn (by decide +kernel) (by decide +kernel)
set_option maxRecDepth 100000 in
theorem m_X12_lists_ok : vMOK vms vdf m_X12_lists := vMOK_of (lk := vlk_RX12) vlk_RX12_ok vkn (by decide +kernel) (by decide +kernel)
set_option maxRecDepth 100000 in
theorem m_X12_bits_ok : vMOK vms vdf m_X12_bits := vMOK_of (lk := vlk_RX12) vlk_RX12_ok vkn (by decide +kernel) (by decide +kernel)
set_option maxRecDepth 100000 in
theorem m_X12_costTo_ok : vMOK vms vdf m_X12_costTo := vMOK_of (lk := vlk_RX12) vlk_RX12_ok vkn (by decide +kernel) (by decide +kernel)
set_option maxRecDepth 100000 in
theorem m_X12_assigns_ok : vMOK vms vdf m_X12_assigns := vMOK_of (lk := vlk_RX12) vlk_RX12_ok vkn (by decide +kernel) (by decide +kernel)
set_option maxRecDepth 100000 in
theorem m_X12_tells_ok : vMOK vms vdf m_X12_tells := vMOK_of (lk := vlk_RX12) vlk_RX12_ok vkn (by decide +kernel) (by decide +kernel)
set_option maxRecDepth 100000 in
theorem m_X12_free_ok : vMOK vms vdf m_X12_free := vMOK_of (lk := vlk_RX12) vlk_RX12_ok vkn (by decide +kernel) (by decide +kernel)
set_option maxRecDepth 100000 in
theorem m_X11_by_ok : vMOK vms vdf m_X11_by := vMOK_of (lk := vlk_RX11) vlk_RX11_ok vkn (by decide +kernel) (by decide +kernel)
set_option maxRecDepth 100000 in
theorem m_X12_by_ok : vMOK vms vdf m_X12_by := vMOK_of (lk := vlk_RX12) vlk_RX12_ok vkn (by decide +kernel) (by decide +kernel)
set_option maxRecDepth 100000 in
theorem m_X3_fewestFor_ok : vMOK vms vdf m_X3_fewestFor := vMOK_of (lk := vlk_RX3) vlk_RX3_ok vkn (by decide +kernel) (by decide +kernel)
set_option maxRecDepth 100000 in
theorem m_X11_fewest_ok : vMOK vms vdf m_X11_fewest := vMOK_of (lk := vlk_RX11) vlk_RX11_ok vkn (by decide +kernel) (by decide +kernel)
set_option maxRecDepth 100000 in
theorem m_X12_fewest_ok : vMOK vms vdf m_X12_fewest := vMOK_of (lk := vlk_RX12) vlk_RX12_ok vkn (by decide +kernel) (by decide +kernel)
set_option maxRecDepth 100000 in
theorem m_X11_load_ok : vMOK vms vdf m_X11_load := vMOK_of (lk := vlk_RX11) vlk_RX11_ok vkn (by decide +kernel) (by decide +kernel)
set_option maxRecDepth 100000 in
theorem m_X12_load_ok : vMOK vms vdf m_X12_load := vMOK_of (lk := vlk_RX12) vlk_RX12_ok vkn (by decide +kernel) (by decide +kernel)
set_option maxRecDepth 100000 in
theorem m_J6_bitCount_0f7a4_ok : vMOK vms vdf m_J6_bitCount_0f7a4 := vMOK_of (lk := vlk_RJ6) vlk_RJ6_ok vkn (by decide +kernel) (by decide +kernel)
set_option maxRecDepth 100000 in
theorem m_X2_findLost_ok : vMOK vms vdf m_X2_findLost := vMOK_of (lk := vlk_RX2) vlk_RX2_ok vkn (by decide +kernel) (by decide +kernel)
set_option maxRecDepth 100000 in
theorem m_X2_layDown_ok : vMOK vms vdf m_X2_layDown := vMOK_of (lk := vlk_RX2) vlk_RX2_ok vkn (by decide +kernel) (by decide +kernel)
set_option maxRecDepth 100000 in
theorem m_X2_bearsThat_ok : vMOK vms vdf m_X2_bearsThat := vMOK_of (lk := vlk_RX2) vlk_RX2_ok vkn (by decide +kernel) (by decide +kernel)
set_option maxRecDepth 100000 in
theorem m_X2_noteWay_ok : vMOK vms vdf m_X2_noteWay := vMOK_of (lk := vlk_RX2) vlk_RX2_ok vkn (by decide +kernel) (by decide +kernel)
set_option maxRecDepth 100000 in
theorem m_X2_countWays_ok : vMOK vms vdf m_X2_countWays := vMOK_of (lk := vlk_RX2) vlk_RX2_ok vkn (by decide +kernel) (by decide +kernel)
set_option maxRecDepth 100000 in
theorem m_X2_waysBy_ok : vMOK vms vdf m_X2_waysBy := vMOK_of (lk := vlk_RX2) vlk_RX2_ok vkn (by decide +kernel) (by decide +kernel)
set_option maxRecDepth 100000 in
theorem m_X11_limps_ok : vMOK vms vdf m_X11_limps := vMOK_of (lk := vlk_RX11) vlk_RX11_ok vkn (by decide +kernel) (by decide +kernel)
set_option maxRecDepth 100000 in
theorem m_X12_octet_ok : vMOK vms vdf m_X12_octet := vMOK_of (lk := vlk_RX12) vlk_RX12_ok vkn (by decide +kernel) (by decide +kernel)
