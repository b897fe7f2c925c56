/-! ===== pain, porter, unharmed: the cases ===== -/
set_option maxRecDepth 100000 in
theorem vHok_pain : vHok yL_pain cL_pain 44 7 287 m_X11_pain vt_Hpain 358 18 :=
  ⟨⟨by decide, rfl, fun pc i len a b t hg => ⟨(vGet_ok vtb_Hpain hg).1, vChk_ok (R := vHrm) vlk_H_ok vkn (vGet_ok vtb_Hpain hg).2⟩, by decide +kernel, by decide +kernel, by decide +kernel, by decide +kernel, by decide +kernel⟩,
   ⟨rfl, rfl, by decide, fun pc i len a b t hg => ⟨(vGet_ok vtb_Xpain hg).1, vChk_ok (R := mRx m_X11_pain) vlk_RX11_ok vkn (vGet_ok vtb_Xpain hg).2⟩, by decide, by decide⟩,
   ⟨by decide +kernel, by decide +kernel, by decide +kernel, by decide +kernel⟩,
   ⟨vHgood (vHw_pain _ List.mem_cons_self) (vHw_pain _ (List.mem_cons_of_mem _ List.mem_cons_self)) (vHw_a _ (List.mem_cons_of_mem _ List.mem_cons_self)) vHw_pain_c, ⟨by decide, by decide, by decide⟩, by decide +kernel⟩⟩
theorem vHst_pain : vHst vt_Hpain := ⟨by decide +kernel, by decide +kernel, by decide +kernel, by decide +kernel, by decide +kernel, by decide +kernel, by decide +kernel, by decide +kernel, by decide +kernel⟩
theorem vnew_pain : vGet m_X11_pain.2.2.2.2.1 18 = some (.new 148, 3, 98, 0, 0) := by decide +kernel
set_option maxRecDepth 100000 in
theorem zx_4 : zCl 376 86 2 12 = true := by decide +kernel
set_option maxRecDepth 100000 in
theorem vHok_porter : vHok yL_porter cL_porter 54 15 289 m_X11_porter vt_Hporter 435 18 :=
  ⟨⟨by decide, rfl, fun pc i len a b t hg => ⟨(vGet_ok vtb_Hporter hg).1, vChk_ok (R := vHrm) vlk_H_ok vkn (vGet_ok vtb_Hporter hg).2⟩, by decide +kernel, by decide +kernel, by decide +kernel, by decide +kernel, by decide +kernel⟩,
   ⟨rfl, rfl, by decide, fun pc i len a b t hg => ⟨(vGet_ok vtb_Xporter hg).1, vChk_ok (R := mRx m_X11_porter) vlk_RX11_ok vkn (vGet_ok vtb_Xporter hg).2⟩, by decide, by decide⟩,
   ⟨by decide +kernel, by decide +kernel, by decide +kernel, by decide +kernel⟩,
   ⟨vHgood (vHw_porter _ List.mem_cons_self) (vHw_porter _ (List.mem_cons_of_mem _ List.mem_cons_self)) (vHw_a _ (List.mem_cons_of_mem _ List.mem_cons_self)) vHw_porter_c, ⟨by decide, by decide, by decide⟩, by decide +kernel⟩⟩
theorem vHst_porter : vHst vt_Hporter := ⟨by decide +kernel, by decide +kernel, by decide +kernel, by decide +kernel, by decide +kernel, by decide +kernel, by decide +kernel, by decide +kernel, by decide +kernel⟩
theorem vnew_porter : vGet m_X11_porter.2.2.2.2.1 18 = some (.new 148, 3, 98, 0, 0) := by decide +kernel
set_option maxRecDepth 100000 in
theorem zx_6 : zCl 453 101 2 12 = true := by decide +kernel
set_option maxRecDepth 100000 in
theorem vHok_unharmed : vHok yL_unharmed cL_unharmed 135 18 290 m_X11_unharmed vt_Hunharmed 998 19 :=
  ⟨⟨by decide, rfl, fun pc i len a b t hg => ⟨(vGet_ok vtb_Hunharmed hg).1, vChk_ok (R := vHrm) vlk_H_ok vkn (vGet_ok vtb_Hunharmed hg).2⟩, by decide +kernel, by decide +kernel, by decide +kernel, by decide +kernel, by decide +kernel⟩,
   ⟨rfl, rfl, by decide, fun pc i len a b t hg => ⟨(vGet_ok vtb_Xunharmed hg).1, vChk_ok (R := mRx m_X11_unharmed) vlk_RX11_ok vkn (vGet_ok vtb_Xunharmed hg).2⟩, by decide, by decide⟩,
   ⟨by decide +kernel, by decide +kernel, by decide +kernel, by decide +kernel⟩,
   ⟨vHgood (vHw_unharmed _ List.mem_cons_self) (vHw_unharmed _ (List.mem_cons_of_mem _ List.mem_cons_self)) (vHw_a _ (List.mem_cons_of_mem _ List.mem_cons_self)) vHw_unharmed_c, ⟨by decide, by decide, by decide⟩, by decide +kernel⟩⟩
theorem vHst_unharmed : vHst vt_Hunharmed := ⟨by decide +kernel, by decide +kernel, by decide +kernel, by decide +kernel, by decide +kernel, by decide +kernel, by decide +kernel, by decide +kernel, by decide +kernel⟩
theorem vnew_unharmed : vGet m_X11_unharmed.2.2.2.2.1 19 = some (.new 148, 3, 98, 0, 0) := by decide +kernel
set_option maxRecDepth 100000 in
theorem zx_26 : zCl 1016 216 2 12 = true := by decide +kernel
