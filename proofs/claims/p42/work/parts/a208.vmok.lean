/-! ===== the tables are the code: 8 ===== -/
set_option maxRecDepth 100000 in
theorem m_X12_limpsBy_ok : vMOK vms vdf m_X12_limpsBy := vMOK_of (lk := vlk_RX12) vlk_RX12_ok vkn (by decide +kernel) (by decide +kernel)
set_option maxRecDepth 100000 in
theorem m_X12_tellsLimps_ok : vMOK vms vdf m_X12_tellsLimps := vMOK_of (lk := vlk_RX12) vlk_RX12_ok vkn (by decide +kernel) (by decide +kernel)
set_option maxRecDepth 100000 in
theorem m_X12_limps_ok : vMOK vms vdf m_X12_limps := vMOK_of (lk := vlk_RX12) vlk_RX12_ok vkn (by decide +kernel) (by decide +kernel)
set_option maxRecDepth 100000 in
theorem m_X2_sureHolder_ok : vMOK vms vdf m_X2_sureHolder := vMOK_of (lk := vlk_RX2) vlk_RX2_ok vkn (by decide +kernel) (by decide +kernel)
set_option maxRecDepth 100000 in
theorem m_X11_surely_ok : vMOK vms vdf m_X11_surely := vMOK_of (lk := vlk_RX11) vlk_RX11_ok vkn (by decide +kernel) (by decide +kernel)
set_option maxRecDepth 100000 in
theorem m_X12_surely_ok : vMOK vms vdf m_X12_surely := vMOK_of (lk := vlk_RX12) vlk_RX12_ok vkn (by decide +kernel) (by decide +kernel)
set_option maxRecDepth 100000 in
theorem m_X2_bestQuestion_ok : vMOK vms vdf m_X2_bestQuestion := vMOK_of (lk := vlk_RX2) vlk_RX2_ok vkn (by decide +kernel) (by decide +kernel)
set_option maxRecDepth 100000 in
theorem m_X11_ask_ok : vMOK vms vdf m_X11_ask := vMOK_of (lk := vlk_RX11) vlk_RX11_ok vkn (by decide +kernel) (by decide +kernel)
set_option maxRecDepth 100000 in
theorem m_X12_ask_ok : vMOK vms vdf m_X12_ask := vMOK_of (lk := vlk_RX12) vlk_RX12_ok vkn (by decide +kernel) (by decide +kernel)
set_option maxRecDepth 100000 in
theorem m_X11_share_ok : vMOK vms vdf m_X11_share := vMOK_of (lk := vlk_RX11) vlk_RX11_ok vkn (by decide +kernel) (by decide +kernel)
set_option maxRecDepth 100000 in
theorem m_X12_share_ok : vMOK vms vdf m_X12_share := vMOK_of (lk := vlk_RX12) vlk_RX12_ok vkn (by decide +kernel) (by decide +kernel)
set_option maxRecDepth 100000 in
theorem m_X3_cheapestFor_ok : vMOK vms vdf m_X3_cheapestFor := vMOK_of (lk := vlk_RX3) vlk_RX3_ok vkn (by decide +kernel) (by decide +kernel)
set_option maxRecDepth 100000 in
theorem m_X3_shareByFees_ok : vMOK vms vdf m_X3_shareByFees := vMOK_of (lk := vlk_RX3) vlk_RX3_ok vkn (by decide +kernel) (by decide +kernel)
set_option maxRecDepth 100000 in
theorem m_J9_max_7cf53_ok : vMOK vms vdf m_J9_max_7cf53 := vMOK_of (lk := []) (fun _ h => nomatch h) vkn (by decide +kernel) (by decide +kernel)
set_option maxRecDepth 100000 in
theorem m_X3_changeFees_ok : vMOK vms vdf m_X3_changeFees := vMOK_of (lk := vlk_RX3) vlk_RX3_ok vkn (by decide +kernel) (by decide +kernel)
set_option maxRecDepth 100000 in
theorem m_X3_settleFees_ok : vMOK vms vdf m_X3_settleFees := vMOK_of (lk := vlk_RX3) vlk_RX3_ok vkn (by decide +kernel) (by decide +kernel)
set_option maxRecDepth 100000 in
theorem m_X11_rest_ok : vMOK vms vdf m_X11_rest := vMOK_of (lk := vlk_RX11) vlk_RX11_ok vkn (by decide +kernel) (by decide +kernel)
set_option maxRecDepth 100000 in
theorem m_X12_goesTo_ok : vMOK vms vdf m_X12_goesTo := vMOK_of (lk := vlk_RX12) vlk_RX12_ok vkn (by decide +kernel) (by decide +kernel)
set_option maxRecDepth 100000 in
theorem m_X12_greater_ok : vMOK vms vdf m_X12_greater := vMOK_of (lk := vlk_RX12) vlk_RX12_ok vkn (by decide +kernel) (by decide +kernel)
set_option maxRecDepth 100000 in
theorem m_X12_round_ok : vMOK vms vdf m_X12_round := vMOK_of (lk := vlk_RX12) vlk_RX12_ok vkn (by decide +kernel) (by decide +kernel)
set_option maxRecDepth 100000 in
theorem m_X12_rest_ok : vMOK vms vdf m_X12_rest := vMOK_of (lk := vlk_RX12) vlk_RX12_ok vkn (by decide +kernel) (by decide +kernel)
set_option maxRecDepth 100000 in
theorem m_X11_fee_ok : vMOK vms vdf m_X11_fee := vMOK_of (lk := vlk_RX11) vlk_RX11_ok vkn (by decide +kernel) (by decide +kernel)
set_option maxRecDepth 100000 in
theorem m_X12_fee_ok : vMOK vms vdf m_X12_fee := vMOK_of (lk := vlk_RX12) vlk_RX12_ok vkn (by decide +kernel) (by decide +kernel)
set_option maxRecDepth 100000 in
theorem m_X12_part_ok : vMOK vms vdf m_X12_part := vMOK_of (lk := vlk_RX12) vlk_RX12_ok vkn (by decide +kernel) (by decide +kernel)
