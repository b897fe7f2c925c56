/-! ===== contracts of the reference, 48 ===== -/

def cc_M_image_988_e : sCtE := (282, [.inl (.inr (.inr (.inr (.inl (some 220))))), .inr [(0, 2147483647), (2147483650, 4294967295)]], [220], some (.inr [(2147483648, 2147483648)]), [(220, 0, 0)])
def cc_M_image_988_c : List sCut := []
set_option maxRecDepth 1000000 in
theorem cc_M_image_988_k : cChk vms hT (sCalI vms (sCt hT cc_M_image_988_e.2.2.2.2 []) cc_M_image_988_e.2.2.2.2 3000 6) 3000 cc_M_image_988_e ([], [(18, 2, 18)], []) [] cc_M_image_988_c = true := by decide +kernel
theorem cc_M_image_988_ok (d : Nat) (hd : 7 ≤ d) : cOK vms vdf d hT cc_M_image_988_e := by
  obtain ⟨d', rfl⟩ : ∃ d', d = d' + 1 := ⟨d - 1, by omega⟩
  exact cOK_of (fun hp0 => sCalI_ok (d0 := 0) (fun m hm => sCt_ok (T := hT) (cs_nil)) 6 d' (by omega)) cc_M_image_988_k
