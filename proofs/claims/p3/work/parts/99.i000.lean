/-! ===== image() of the class by its argument, 0 ===== -/
def cc0_X_image_1071_e : sCtE := (281, [.inl (.inr (.inr (.inr (.inl (some 0))))), .inr [(2147483648, 2147483648)]], [0, 4, 5, 6, 7, 8, 9, 10, 11, 12, 13, 14, 15, 16, 31, 32, 33, 34, 35, 36, 37, 38, 39, 49, 50, 51, 52, 141, 162, 163, 164, 165, 166, 167, 168, 169, 170, 171, 172, 173, 174, 175, 176, 177, 178, 179, 180, 181, 182, 183, 184, 185, 186, 187, 188], some (.inr [(2147483649, 2147483649)]), [(162, 3, 3), (163, 0, 5), (163, 18, 18), (164, 0, 5), (165, 0, 4), (166, 0, 4), (167, 0, 4), (168, 0, 4), (169, 0, 7), (170, 0, 7), (171, 0, 7), (172, 0, 7), (173, 0, 7), (174, 0, 23), (175, 0, 23), (176, 0, 0), (177, 0, 4), (178, 0, 4), (179, 0, 4), (180, 0, 29), (181, 0, 7), (182, 0, 7), (183, 0, 7), (184, 0, 7), (185, 0, 2), (186, 0, 39), (187, 0, 39), (188, 0, 39)])
def cc0_X_image_1071_c : List sCut := []
set_option maxRecDepth 1000000 in
theorem cc0_X_image_1071_k : cChk vms hTc0 (sCalI vms (sCt hTc0 cc0_X_image_1071_e.2.2.2.2 []) cc0_X_image_1071_e.2.2.2.2 3000 6) 3000 cc0_X_image_1071_e ([], [], []) [] cc0_X_image_1071_c = true := by decide +kernel
theorem cc0_X_image_1071_ok (d : Nat) (hd : 7 ≤ d) : cOK vms vdf d hTc0 cc0_X_image_1071_e := by
  obtain ⟨d', rfl⟩ : ∃ d', d = d' + 1 := ⟨d - 1, by omega⟩
  exact cOK_of (fun hp0 => sCalI_ok (d0 := 0) (fun m hm => sCt_ok (T := hTc0) (cs_nil)) 6 d' (by omega)) cc0_X_image_1071_k

def cc0_X_image_1072_e : sCtE := (281, [.inl (.inr (.inr (.inr (.inl (some 0))))), .inr [(2147483649, 2147483649)]], [0, 4, 5, 6, 7, 8, 9, 10, 11, 12, 13, 14, 15, 16, 31, 32, 33, 34, 35, 36, 37, 38, 39, 49, 50, 51, 52, 141, 191, 192, 193, 194, 195, 196, 197, 198, 199, 200, 201, 202, 203, 204, 205, 206, 207, 208, 209, 210, 211, 212, 213, 214, 215, 216, 217], some (.inr [(2147483649, 2147483649)]), [(191, 3, 3), (192, 0, 5), (192, 18, 18), (193, 0, 5), (194, 0, 4), (195, 0, 4), (196, 0, 4), (197, 0, 4), (198, 0, 7), (199, 0, 7), (200, 0, 7), (201, 0, 7), (202, 0, 7), (203, 0, 23), (204, 0, 23), (205, 0, 0), (206, 0, 4), (207, 0, 4), (208, 0, 4), (209, 0, 29), (210, 0, 7), (211, 0, 7), (212, 0, 7), (213, 0, 7), (214, 0, 2), (215, 0, 39), (216, 0, 39), (217, 0, 39)])
def cc0_X_image_1072_c : List sCut := []
set_option maxRecDepth 1000000 in
theorem cc0_X_image_1072_k : cChk vms hTc0 (sCalI vms (sCt hTc0 cc0_X_image_1072_e.2.2.2.2 []) cc0_X_image_1072_e.2.2.2.2 3000 6) 3000 cc0_X_image_1072_e ([], [], []) [] cc0_X_image_1072_c = true := by decide +kernel
theorem cc0_X_image_1072_ok (d : Nat) (hd : 7 ≤ d) : cOK vms vdf d hTc0 cc0_X_image_1072_e := by
  obtain ⟨d', rfl⟩ : ∃ d', d = d' + 1 := ⟨d - 1, by omega⟩
  exact cOK_of (fun hp0 => sCalI_ok (d0 := 0) (fun m hm => sCt_ok (T := hTc0) (cs_nil)) 6 d' (by omega)) cc0_X_image_1072_k

def cc_X_image_1073_e : sCtE := (281, [.inl (.inr (.inr (.inr (.inl (some 0))))), .inr [(0, 2147483647), (2147483650, 4294967295)]], [], some (.inr [(2147483648, 2147483648)]), [])
def cc_X_image_1073_c : List sCut := []
set_option maxRecDepth 1000000 in
theorem cc_X_image_1073_k : cChk vms hT (sCalI vms (sCt hT cc_X_image_1073_e.2.2.2.2 []) cc_X_image_1073_e.2.2.2.2 3000 6) 3000 cc_X_image_1073_e ([], [], []) [] cc_X_image_1073_c = true := by decide +kernel
theorem cc_X_image_1073_ok (d : Nat) (hd : 7 ≤ d) : cOK vms vdf d hT cc_X_image_1073_e := by
  obtain ⟨d', rfl⟩ : ∃ d', d = d' + 1 := ⟨d - 1, by omega⟩
  exact cOK_of (fun hp0 => sCalI_ok (d0 := 0) (fun m hm => sCt_ok (T := hT) (cs_nil)) 6 d' (by omega)) cc_X_image_1073_k

def cc1_X_image_1074_e : sCtE := (281, [.inl (.inr (.inr (.inr (.inl (some 0))))), .inr [(2147483648, 2147483648)]], [0, 17, 18, 19, 20, 21, 22, 23, 24, 25, 26, 27, 28, 29, 31, 32, 33, 34, 35, 36, 37, 38, 39, 49, 50, 51, 52, 141, 162, 163, 164, 165, 166, 167, 168, 169, 170, 171, 172, 173, 174, 175, 176, 177, 178, 179, 180, 181, 182, 183, 184, 185, 186, 187, 188], some (.inr [(2147483649, 2147483649)]), [(162, 3, 3), (163, 0, 5), (163, 18, 18), (164, 0, 5), (165, 0, 4), (166, 0, 4), (167, 0, 4), (168, 0, 4), (169, 0, 7), (170, 0, 7), (171, 0, 7), (172, 0, 7), (173, 0, 7), (174, 0, 23), (175, 0, 23), (176, 0, 0), (177, 0, 4), (178, 0, 4), (179, 0, 4), (180, 0, 29), (181, 0, 7), (182, 0, 7), (183, 0, 7), (184, 0, 7), (185, 0, 2), (186, 0, 39), (187, 0, 39), (188, 0, 39)])
def cc1_X_image_1074_c : List sCut := []
set_option maxRecDepth 1000000 in
theorem cc1_X_image_1074_k : cChk vms hTc1 (sCalI vms (sCt hTc1 cc1_X_image_1074_e.2.2.2.2 []) cc1_X_image_1074_e.2.2.2.2 3000 6) 3000 cc1_X_image_1074_e ([], [], []) [] cc1_X_image_1074_c = true := by decide +kernel
theorem cc1_X_image_1074_ok (d : Nat) (hd : 7 ≤ d) : cOK vms vdf d hTc1 cc1_X_image_1074_e := by
  obtain ⟨d', rfl⟩ : ∃ d', d = d' + 1 := ⟨d - 1, by omega⟩
  exact cOK_of (fun hp0 => sCalI_ok (d0 := 0) (fun m hm => sCt_ok (T := hTc1) (cs_nil)) 6 d' (by omega)) cc1_X_image_1074_k

def cc1_X_image_1075_e : sCtE := (281, [.inl (.inr (.inr (.inr (.inl (some 0))))), .inr [(2147483649, 2147483649)]], [0, 17, 18, 19, 20, 21, 22, 23, 24, 25, 26, 27, 28, 29, 31, 32, 33, 34, 35, 36, 37, 38, 39, 49, 50, 51, 52, 141, 191, 192, 193, 194, 195, 196, 197, 198, 199, 200, 201, 202, 203, 204, 205, 206, 207, 208, 209, 210, 211, 212, 213, 214, 215, 216, 217], some (.inr [(2147483649, 2147483649)]), [(191, 3, 3), (192, 0, 5), (192, 18, 18), (193, 0, 5), (194, 0, 4), (195, 0, 4), (196, 0, 4), (197, 0, 4), (198, 0, 7), (199, 0, 7), (200, 0, 7), (201, 0, 7), (202, 0, 7), (203, 0, 23), (204, 0, 23), (205, 0, 0), (206, 0, 4), (207, 0, 4), (208, 0, 4), (209, 0, 29), (210, 0, 7), (211, 0, 7), (212, 0, 7), (213, 0, 7), (214, 0, 2), (215, 0, 39), (216, 0, 39), (217, 0, 39)])
def cc1_X_image_1075_c : List sCut := []
set_option maxRecDepth 1000000 in
theorem cc1_X_image_1075_k : cChk vms hTc1 (sCalI vms (sCt hTc1 cc1_X_image_1075_e.2.2.2.2 []) cc1_X_image_1075_e.2.2.2.2 3000 6) 3000 cc1_X_image_1075_e ([], [], []) [] cc1_X_image_1075_c = true := by decide +kernel
theorem cc1_X_image_1075_ok (d : Nat) (hd : 7 ≤ d) : cOK vms vdf d hTc1 cc1_X_image_1075_e := by
  obtain ⟨d', rfl⟩ : ∃ d', d = d' + 1 := ⟨d - 1, by omega⟩
  exact cOK_of (fun hp0 => sCalI_ok (d0 := 0) (fun m hm => sCt_ok (T := hTc1) (cs_nil)) 6 d' (by omega)) cc1_X_image_1075_k

def cc2_X_image_1076_e : sCtE := (281, [.inl (.inr (.inr (.inr (.inl (some 0))))), .inr [(2147483648, 2147483648)]], [0, 4, 5, 6, 7, 8, 9, 10, 11, 12, 13, 14, 15, 16, 31, 32, 33, 34, 35, 36, 37, 38, 39, 55, 56, 57, 58, 141, 162, 163, 164, 165, 166, 167, 168, 169, 170, 171, 172, 173, 174, 175, 176, 177, 178, 179, 180, 181, 182, 183, 184, 185, 186, 187, 188], some (.inr [(2147483649, 2147483649)]), [(162, 3, 3), (163, 0, 5), (163, 18, 18), (164, 0, 5), (165, 0, 4), (166, 0, 4), (167, 0, 4), (168, 0, 4), (169, 0, 7), (170, 0, 7), (171, 0, 7), (172, 0, 7), (173, 0, 7), (174, 0, 23), (175, 0, 23), (176, 0, 0), (177, 0, 4), (178, 0, 4), (179, 0, 4), (180, 0, 29), (181, 0, 7), (182, 0, 7), (183, 0, 7), (184, 0, 7), (185, 0, 2), (186, 0, 39), (187, 0, 39), (188, 0, 39)])
def cc2_X_image_1076_c : List sCut := []
set_option maxRecDepth 1000000 in
theorem cc2_X_image_1076_k : cChk vms hTc2 (sCalI vms (sCt hTc2 cc2_X_image_1076_e.2.2.2.2 []) cc2_X_image_1076_e.2.2.2.2 3000 6) 3000 cc2_X_image_1076_e ([], [], []) [] cc2_X_image_1076_c = true := by decide +kernel
theorem cc2_X_image_1076_ok (d : Nat) (hd : 7 ≤ d) : cOK vms vdf d hTc2 cc2_X_image_1076_e := by
  obtain ⟨d', rfl⟩ : ∃ d', d = d' + 1 := ⟨d - 1, by omega⟩
  exact cOK_of (fun hp0 => sCalI_ok (d0 := 0) (fun m hm => sCt_ok (T := hTc2) (cs_nil)) 6 d' (by omega)) cc2_X_image_1076_k

def cc2_X_image_1077_e : sCtE := (281, [.inl (.inr (.inr (.inr (.inl (some 0))))), .inr [(2147483649, 2147483649)]], [0, 4, 5, 6, 7, 8, 9, 10, 11, 12, 13, 14, 15, 16, 31, 32, 33, 34, 35, 36, 37, 38, 39, 55, 56, 57, 58, 141, 191, 192, 193, 194, 195, 196, 197, 198, 199, 200, 201, 202, 203, 204, 205, 206, 207, 208, 209, 210, 211, 212, 213, 214, 215, 216, 217], some (.inr [(2147483649, 2147483649)]), [(191, 3, 3), (192, 0, 5), (192, 18, 18), (193, 0, 5), (194, 0, 4), (195, 0, 4), (196, 0, 4), (197, 0, 4), (198, 0, 7), (199, 0, 7), (200, 0, 7), (201, 0, 7), (202, 0, 7), (203, 0, 23), (204, 0, 23), (205, 0, 0), (206, 0, 4), (207, 0, 4), (208, 0, 4), (209, 0, 29), (210, 0, 7), (211, 0, 7), (212, 0, 7), (213, 0, 7), (214, 0, 2), (215, 0, 39), (216, 0, 39), (217, 0, 39)])
def cc2_X_image_1077_c : List sCut := []
set_option maxRecDepth 1000000 in
theorem cc2_X_image_1077_k : cChk vms hTc2 (sCalI vms (sCt hTc2 cc2_X_image_1077_e.2.2.2.2 []) cc2_X_image_1077_e.2.2.2.2 3000 6) 3000 cc2_X_image_1077_e ([], [], []) [] cc2_X_image_1077_c = true := by decide +kernel
theorem cc2_X_image_1077_ok (d : Nat) (hd : 7 ≤ d) : cOK vms vdf d hTc2 cc2_X_image_1077_e := by
  obtain ⟨d', rfl⟩ : ∃ d', d = d' + 1 := ⟨d - 1, by omega⟩
  exact cOK_of (fun hp0 => sCalI_ok (d0 := 0) (fun m hm => sCt_ok (T := hTc2) (cs_nil)) 6 d' (by omega)) cc2_X_image_1077_k

def cc3_X_image_1078_e : sCtE := (281, [.inl (.inr (.inr (.inr (.inl (some 0))))), .inr [(2147483648, 2147483648)]], [0, 17, 18, 19, 20, 21, 22, 23, 24, 25, 26, 27, 28, 29, 31, 32, 33, 34, 35, 36, 37, 38, 39, 55, 56, 57, 58, 141, 162, 163, 164, 165, 166, 167, 168, 169, 170, 171, 172, 173, 174, 175, 176, 177, 178, 179, 180, 181, 182, 183, 184, 185, 186, 187, 188], some (.inr [(2147483649, 2147483649)]), [(162, 3, 3), (163, 0, 5), (163, 18, 18), (164, 0, 5), (165, 0, 4), (166, 0, 4), (167, 0, 4), (168, 0, 4), (169, 0, 7), (170, 0, 7), (171, 0, 7), (172, 0, 7), (173, 0, 7), (174, 0, 23), (175, 0, 23), (176, 0, 0), (177, 0, 4), (178, 0, 4), (179, 0, 4), (180, 0, 29), (181, 0, 7), (182, 0, 7), (183, 0, 7), (184, 0, 7), (185, 0, 2), (186, 0, 39), (187, 0, 39), (188, 0, 39)])
def cc3_X_image_1078_c : List sCut := []
set_option maxRecDepth 1000000 in
theorem cc3_X_image_1078_k : cChk vms hTc3 (sCalI vms (sCt hTc3 cc3_X_image_1078_e.2.2.2.2 []) cc3_X_image_1078_e.2.2.2.2 3000 6) 3000 cc3_X_image_1078_e ([], [], []) [] cc3_X_image_1078_c = true := by decide +kernel
theorem cc3_X_image_1078_ok (d : Nat) (hd : 7 ≤ d) : cOK vms vdf d hTc3 cc3_X_image_1078_e := by
  obtain ⟨d', rfl⟩ : ∃ d', d = d' + 1 := ⟨d - 1, by omega⟩
  exact cOK_of (fun hp0 => sCalI_ok (d0 := 0) (fun m hm => sCt_ok (T := hTc3) (cs_nil)) 6 d' (by omega)) cc3_X_image_1078_k

def cc3_X_image_1079_e : sCtE := (281, [.inl (.inr (.inr (.inr (.inl (some 0))))), .inr [(2147483649, 2147483649)]], [0, 17, 18, 19, 20, 21, 22, 23, 24, 25, 26, 27, 28, 29, 31, 32, 33, 34, 35, 36, 37, 38, 39, 55, 56, 57, 58, 141, 191, 192, 193, 194, 195, 196, 197, 198, 199, 200, 201, 202, 203, 204, 205, 206, 207, 208, 209, 210, 211, 212, 213, 214, 215, 216, 217], some (.inr [(2147483649, 2147483649)]), [(191, 3, 3), (192, 0, 5), (192, 18, 18), (193, 0, 5), (194, 0, 4), (195, 0, 4), (196, 0, 4), (197, 0, 4), (198, 0, 7), (199, 0, 7), (200, 0, 7), (201, 0, 7), (202, 0, 7), (203, 0, 23), (204, 0, 23), (205, 0, 0), (206, 0, 4), (207, 0, 4), (208, 0, 4), (209, 0, 29), (210, 0, 7), (211, 0, 7), (212, 0, 7), (213, 0, 7), (214, 0, 2), (215, 0, 39), (216, 0, 39), (217, 0, 39)])
def cc3_X_image_1079_c : List sCut := []
set_option maxRecDepth 1000000 in
theorem cc3_X_image_1079_k : cChk vms hTc3 (sCalI vms (sCt hTc3 cc3_X_image_1079_e.2.2.2.2 []) cc3_X_image_1079_e.2.2.2.2 3000 6) 3000 cc3_X_image_1079_e ([], [], []) [] cc3_X_image_1079_c = true := by decide +kernel
theorem cc3_X_image_1079_ok (d : Nat) (hd : 7 ≤ d) : cOK vms vdf d hTc3 cc3_X_image_1079_e := by
  obtain ⟨d', rfl⟩ : ∃ d', d = d' + 1 := ⟨d - 1, by omega⟩
  exact cOK_of (fun hp0 => sCalI_ok (d0 := 0) (fun m hm => sCt_ok (T := hTc3) (cs_nil)) 6 d' (by omega)) cc3_X_image_1079_k
