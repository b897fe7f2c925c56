/-! ===== the tables are the code: 12 ===== -/
set_option maxRecDepth 100000 in
theorem m_X8_learntBy_ok : vMOK vms vdf m_X8_learntBy := vMOK_of (lk := vlk_RX8) vlk_RX8_ok vkn (by decide +kernel) (by decide +kernel)
set_option maxRecDepth 100000 in
theorem m_X11_porter_ok : vMOK vms vdf m_X11_porter := vMOK_of (lk := vlk_RX11) vlk_RX11_ok vkn (by decide +kernel) (by decide +kernel)
set_option maxRecDepth 100000 in
theorem m_X11_unharmed_ok : vMOK vms vdf m_X11_unharmed := vMOK_of (lk := vlk_RX11) vlk_RX11_ok vkn (by decide +kernel) (by decide +kernel)
