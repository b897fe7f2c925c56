/-! ===== the tables are the code: 11 ===== -/
set_option maxRecDepth 100000 in
theorem m_X12_nots_ok : vMOK vms vdf m_X12_nots := vMOK_of (lk := vlk_RX12) vlk_RX12_ok vkn (by decide +kernel) (by decide +kernel)
set_option maxRecDepth 100000 in
theorem m_X12_joins_ok : vMOK vms vdf m_X12_joins := vMOK_of (lk := vlk_RX12) vlk_RX12_ok vkn (by decide +kernel) (by decide +kernel)
set_option maxRecDepth 100000 in
theorem m_X12_behind_ok : vMOK vms vdf m_X12_behind := vMOK_of (lk := vlk_RX12) vlk_RX12_ok vkn (by decide +kernel) (by decide +kernel)
set_option maxRecDepth 100000 in
theorem m_X12_leafOf_ok : vMOK vms vdf m_X12_leafOf := vMOK_of (lk := vlk_RX12) vlk_RX12_ok vkn (by decide +kernel) (by decide +kernel)
set_option maxRecDepth 100000 in
theorem m_X12_looksAtBoth_ok : vMOK vms vdf m_X12_looksAtBoth := vMOK_of (lk := vlk_RX12) vlk_RX12_ok vkn (by decide +kernel) (by decide +kernel)
set_option maxRecDepth 100000 in
theorem m_X12_operand_ok : vMOK vms vdf m_X12_operand := vMOK_of (lk := vlk_RX12) vlk_RX12_ok vkn (by decide +kernel) (by decide +kernel)
set_option maxRecDepth 100000 in
theorem m_X12_sentence_ok : vMOK vms vdf m_X12_sentence := vMOK_of (lk := vlk_RX12) vlk_RX12_ok vkn (by decide +kernel) (by decide +kernel)
set_option maxRecDepth 100000 in
theorem m_X7_compares_ok : vMOK vms vdf m_X7_compares := vMOK_of (lk := vlk_RX7) vlk_RX7_ok vkn (by decide +kernel) (by decide +kernel)
set_option maxRecDepth 100000 in
theorem m_X7_holds_ok : vMOK vms vdf m_X7_holds := vMOK_of (lk := vlk_RX7) vlk_RX7_ok vkn (by decide +kernel) (by decide +kernel)
set_option maxRecDepth 100000 in
theorem m_X7_plainSet_ok : vMOK vms vdf m_X7_plainSet := vMOK_of (lk := vlk_RX7) vlk_RX7_ok vkn (by decide +kernel) (by decide +kernel)
set_option maxRecDepth 100000 in
theorem m_X7_saidOf_ok : vMOK vms vdf m_X7_saidOf := vMOK_of (lk := vlk_RX7) vlk_RX7_ok vkn (by decide +kernel) (by decide +kernel)
set_option maxRecDepth 100000 in
theorem m_X11_said_ok : vMOK vms vdf m_X11_said := vMOK_of (lk := vlk_RX11) vlk_RX11_ok vkn (by decide +kernel) (by decide +kernel)
set_option maxRecDepth 100000 in
theorem m_X12_isLeaf_ok : vMOK vms vdf m_X12_isLeaf := vMOK_of (lk := vlk_RX12) vlk_RX12_ok vkn (by decide +kernel) (by decide +kernel)
set_option maxRecDepth 100000 in
theorem m_X12_isSaid_ok : vMOK vms vdf m_X12_isSaid := vMOK_of (lk := vlk_RX12) vlk_RX12_ok vkn (by decide +kernel) (by decide +kernel)
set_option maxRecDepth 100000 in
theorem m_X12_said_ok : vMOK vms vdf m_X12_said := vMOK_of (lk := vlk_RX12) vlk_RX12_ok vkn (by decide +kernel) (by decide +kernel)
set_option maxRecDepth 100000 in
theorem m_X9_copyFrom_ok : vMOK vms vdf m_X9_copyFrom := vMOK_of (lk := vlk_RX9) vlk_RX9_ok vkn (by decide +kernel) (by decide +kernel)
set_option maxRecDepth 100000 in
theorem m_X7_copyFrom_ok : vMOK vms vdf m_X7_copyFrom := vMOK_of (lk := vlk_RX7) vlk_RX7_ok vkn (by decide +kernel) (by decide +kernel)
set_option maxRecDepth 100000 in
theorem m_X11_image_ok : vMOK vms vdf m_X11_image := vMOK_of (lk := vlk_RX11) vlk_RX11_ok vkn (by decide +kernel) (by decide +kernel)
set_option maxRecDepth 100000 in
theorem m_X12_image_ok : vMOK vms vdf m_X12_image := vMOK_of (lk := vlk_RX12) vlk_RX12_ok vkn (by decide +kernel) (by decide +kernel)
set_option maxRecDepth 100000 in
theorem m_X11_restore_ok : vMOK vms vdf m_X11_restore := vMOK_of (lk := vlk_RX11) vlk_RX11_ok vkn (by decide +kernel) (by decide +kernel)
set_option maxRecDepth 100000 in
theorem m_X12_restore_ok : vMOK vms vdf m_X12_restore := vMOK_of (lk := vlk_RX12) vlk_RX12_ok vkn (by decide +kernel) (by decide +kernel)
set_option maxRecDepth 100000 in
theorem m_X11_count_ok : vMOK vms vdf m_X11_count := vMOK_of (lk := vlk_RX11) vlk_RX11_ok vkn (by decide +kernel) (by decide +kernel)
set_option maxRecDepth 100000 in
theorem m_X12_count_ok : vMOK vms vdf m_X12_count := vMOK_of (lk := vlk_RX12) vlk_RX12_ok vkn (by decide +kernel) (by decide +kernel)
set_option maxRecDepth 100000 in
theorem m_X11_pain_ok : vMOK vms vdf m_X11_pain := vMOK_of (lk := vlk_RX11) vlk_RX11_ok vkn (by decide +kernel) (by decide +kernel)
