/-! ===== the tables are the code: 0 ===== -/
set_option maxRecDepth 100000 in
theorem m_J0_coder_7d493_ok : vMOK vms vdf m_J0_coder_7d493 := vMOK_of (lk := vlk_RJ0) vlk_RJ0_ok vkn (by decide +kernel) (by decide +kernel)
set_option maxRecDepth 100000 in
theorem m_J0_length_8abf5_ok : vMOK vms vdf m_J0_length_8abf5 := vMOK_of (lk := vlk_RJ0) vlk_RJ0_ok vkn (by decide +kernel) (by decide +kernel)
set_option maxRecDepth 100000 in
theorem m_J0_isLatin1_aae02_ok : vMOK vms vdf m_J0_isLatin1_aae02 := vMOK_of (lk := vlk_RJ0) vlk_RJ0_ok vkn (by decide +kernel) (by decide +kernel)
set_option maxRecDepth 100000 in
theorem m_J3_checkIndex_8e157_ok : vMOK vms vdf m_J3_checkIndex_8e157 := vMOK_of (lk := []) (fun _ h => nomatch h) vkn (by decide +kernel) (by decide +kernel)
set_option maxRecDepth 100000 in
theorem m_J0_checkIndex_df160_ok : vMOK vms vdf m_J0_checkIndex_df160 := vMOK_of (lk := vlk_RJ0) vlk_RJ0_ok vkn (by decide +kernel) (by decide +kernel)
set_option maxRecDepth 100000 in
theorem m_J1_charAt_3b067_ok : vMOK vms vdf m_J1_charAt_3b067 := vMOK_of (lk := vlk_RJ1) vlk_RJ1_ok vkn (by decide +kernel) (by decide +kernel)
set_option maxRecDepth 100000 in
theorem m_J2_length_9d52b_ok : vMOK vms vdf m_J2_length_9d52b := vMOK_of (lk := vlk_RJ2) vlk_RJ2_ok vkn (by decide +kernel) (by decide +kernel)
set_option maxRecDepth 100000 in
theorem m_J2_checkIndex_2214a_ok : vMOK vms vdf m_J2_checkIndex_2214a := vMOK_of (lk := vlk_RJ2) vlk_RJ2_ok vkn (by decide +kernel) (by decide +kernel)
set_option maxRecDepth 100000 in
theorem m_J2_getChar_3b067_ok : vMOK vms vdf m_J2_getChar_3b067 := vMOK_of (lk := vlk_RJ2) vlk_RJ2_ok vkn (by decide +kernel) (by decide +kernel)
set_option maxRecDepth 100000 in
theorem m_J2_charAt_3b067_ok : vMOK vms vdf m_J2_charAt_3b067 := vMOK_of (lk := vlk_RJ2) vlk_RJ2_ok vkn (by decide +kernel) (by decide +kernel)
set_option maxRecDepth 100000 in
theorem m_J0_charAt_5068e_ok : vMOK vms vdf m_J0_charAt_5068e := vMOK_of (lk := vlk_RJ0) vlk_RJ0_ok vkn (by decide +kernel) (by decide +kernel)
set_option maxRecDepth 100000 in
theorem m_X6_joined_ok : vMOK vms vdf m_X6_joined := vMOK_of (lk := vlk_RX6) vlk_RX6_ok vkn (by decide +kernel) (by decide +kernel)
set_option maxRecDepth 100000 in
theorem m_X6_init_ok : vMOK vms vdf m_X6_init := vMOK_of (lk := vlk_RX6) vlk_RX6_ok vkn (by decide +kernel) (by decide +kernel)
set_option maxRecDepth 100000 in
theorem m_X9_init_ok : vMOK vms vdf m_X9_init := vMOK_of (lk := vlk_RX9) vlk_RX9_ok vkn (by decide +kernel) (by decide +kernel)
set_option maxRecDepth 100000 in
theorem m_X10_init_ok : vMOK vms vdf m_X10_init := vMOK_of (lk := vlk_RX10) vlk_RX10_ok vkn (by decide +kernel) (by decide +kernel)
set_option maxRecDepth 100000 in
theorem m_X8_init_ok : vMOK vms vdf m_X8_init := vMOK_of (lk := vlk_RX8) vlk_RX8_ok vkn (by decide +kernel) (by decide +kernel)
set_option maxRecDepth 100000 in
theorem m_X7_init_ok : vMOK vms vdf m_X7_init := vMOK_of (lk := vlk_RX7) vlk_RX7_ok vkn (by decide +kernel) (by decide +kernel)
set_option maxRecDepth 100000 in
theorem m_X4_init_ok : vMOK vms vdf m_X4_init := vMOK_of (lk := vlk_RX4) vlk_RX4_ok vkn (by decide +kernel) (by decide +kernel)
set_option maxRecDepth 100000 in
theorem m_X5_init_ok : vMOK vms vdf m_X5_init := vMOK_of (lk := vlk_RX5) vlk_RX5_ok vkn (by decide +kernel) (by decide +kernel)
set_option maxRecDepth 100000 in
theorem m_X3_init_ok : vMOK vms vdf m_X3_init := vMOK_of (lk := vlk_RX3) vlk_RX3_ok vkn (by decide +kernel) (by decide +kernel)
set_option maxRecDepth 100000 in
theorem m_X2_init_ok : vMOK vms vdf m_X2_init := vMOK_of (lk := vlk_RX2) vlk_RX2_ok vkn (by decide +kernel) (by decide +kernel)
set_option maxRecDepth 100000 in
theorem m_X0_init_ok : vMOK vms vdf m_X0_init := vMOK_of (lk := vlk_RX0) vlk_RX0_ok vkn (by decide +kernel) (by decide +kernel)
set_option maxRecDepth 100000 in
theorem m_X1_init_ok : vMOK vms vdf m_X1_init := vMOK_of (lk := vlk_RX1) vlk_RX1_ok vkn (by decide +kernel) (by decide +kernel)
set_option maxRecDepth 100000 in
theorem m_X11_init_ok : vMOK vms vdf m_X11_init := vMOK_of (lk := vlk_RX11) vlk_RX11_ok vkn (by decide +kernel) (by decide +kernel)
