/-! ===== contracts of what the sentence and the log call, 1 ===== -/
def cr2_M_does_1047_e : sCtE := (250, [.inl (.inr (.inr (.inr (.inl (some 220))))), .inr [(2147483648, 2147483648)], .inr [(2147483648, 2147483652)], .inr [(2147483648, 2147483655)], .inr [(0, 4294967295)]], [220, 222], some (.inr [(2147483648, 2147483650), (2147483652, 2147483653)]), [(222, 80, 87)])
def cr2_M_does_1047_c : List sCut := []
set_option maxRecDepth 1000000 in
theorem cr2_M_does_1047_k : cChk vms hTr2 (sCalI vms (sCt hTr2 cr2_M_does_1047_e.2.2.2.2 [cr2_M_cant_1046_e, cr2_M_painsAt_743_e]) cr2_M_does_1047_e.2.2.2.2 3000 6) 3000 cr2_M_does_1047_e ([], [], []) [] cr2_M_does_1047_c = true := by decide +kernel
theorem cr2_M_does_1047_ok (d : Nat) (hd : 21 ≤ d) : cOK vms vdf d hTr2 cr2_M_does_1047_e := by
  obtain ⟨d', rfl⟩ : ∃ d', d = d' + 1 := ⟨d - 1, by omega⟩
  exact cOK_of (fun hp0 => sCalI_ok (d0 := 14) (fun m hm => sCt_ok (T := hTr2) (cs_cons (cr2_M_cant_1046_ok m (by omega)) (cs_cons (cr2_M_painsAt_743_ok m (by omega)) (cs_nil)))) 6 d' (by omega)) cr2_M_does_1047_k

def cr2_M_does_1048_e : sCtE := (250, [.inl (.inr (.inr (.inr (.inl (some 220))))), .inr [(2147483649, 2147483649)], .inr [(2147483648, 2147483652)], .inr [(2147483648, 2147483655)], .inr [(2147483648, 2147483652)]], [220, 222], some (.inr [(2147483648, 2147483648), (2147483659, 2147483660), (2147483662, 2147483662), (2147483667, 2147483667)]), [(222, 80, 87)])
def cr2_M_does_1048_c : List sCut := []
set_option maxRecDepth 1000000 in
theorem cr2_M_does_1048_k : cChk vms hTr2 (sCalI vms (sCt hTr2 cr2_M_does_1048_e.2.2.2.2 [cr2_M_cant_1046_e, cr2_M_painsAt_743_e]) cr2_M_does_1048_e.2.2.2.2 3000 6) 3000 cr2_M_does_1048_e ([], [], []) [] cr2_M_does_1048_c = true := by decide +kernel
theorem cr2_M_does_1048_ok (d : Nat) (hd : 21 ≤ d) : cOK vms vdf d hTr2 cr2_M_does_1048_e := by
  obtain ⟨d', rfl⟩ : ∃ d', d = d' + 1 := ⟨d - 1, by omega⟩
  exact cOK_of (fun hp0 => sCalI_ok (d0 := 14) (fun m hm => sCt_ok (T := hTr2) (cs_cons (cr2_M_cant_1046_ok m (by omega)) (cs_cons (cr2_M_painsAt_743_ok m (by omega)) (cs_nil)))) 6 d' (by omega)) cr2_M_does_1048_k

def cr2_M_does_1049_e : sCtE := (250, [.inl (.inr (.inr (.inr (.inl (some 220))))), .inr [(2147483650, 2147483650)], .inr [(2147483648, 2147483652)], .inr [(2147483648, 2147483655)], .inr [(0, 4294967295)]], [220, 222], some (.inr [(2147483648, 2147483648), (2147483669, 2147483669)]), [(222, 80, 87), (222, 96, 103)])
def cr2_M_does_1049_c : List sCut := []
set_option maxRecDepth 1000000 in
theorem cr2_M_does_1049_k : cChk vms hTr2 (sCalI vms (sCt hTr2 cr2_M_does_1049_e.2.2.2.2 []) cr2_M_does_1049_e.2.2.2.2 3000 6) 3000 cr2_M_does_1049_e ([], [], []) [] cr2_M_does_1049_c = true := by decide +kernel
theorem cr2_M_does_1049_ok (d : Nat) (hd : 7 ≤ d) : cOK vms vdf d hTr2 cr2_M_does_1049_e := by
  obtain ⟨d', rfl⟩ : ∃ d', d = d' + 1 := ⟨d - 1, by omega⟩
  exact cOK_of (fun hp0 => sCalI_ok (d0 := 0) (fun m hm => sCt_ok (T := hTr2) (cs_nil)) 6 d' (by omega)) cr2_M_does_1049_k

def cr2_M_does_1050_e : sCtE := (250, [.inl (.inr (.inr (.inr (.inl (some 220))))), .inr [(2147483651, 2147483651)], .inr [(0, 4294967295)], .inr [(2147483648, 2147483655)], .inr [(0, 4294967295)]], [220, 222], some (.inr [(2147483648, 2147483648), (2147483679, 2147483679)]), [(222, 80, 87)])
def cr2_M_does_1050_c : List sCut := []
set_option maxRecDepth 1000000 in
theorem cr2_M_does_1050_k : cChk vms hTr2 (sCalI vms (sCt hTr2 cr2_M_does_1050_e.2.2.2.2 []) cr2_M_does_1050_e.2.2.2.2 3000 6) 3000 cr2_M_does_1050_e ([], [], []) [] cr2_M_does_1050_c = true := by decide +kernel
theorem cr2_M_does_1050_ok (d : Nat) (hd : 7 ≤ d) : cOK vms vdf d hTr2 cr2_M_does_1050_e := by
  obtain ⟨d', rfl⟩ : ∃ d', d = d' + 1 := ⟨d - 1, by omega⟩
  exact cOK_of (fun hp0 => sCalI_ok (d0 := 0) (fun m hm => sCt_ok (T := hTr2) (cs_nil)) 6 d' (by omega)) cr2_M_does_1050_k

def cr2_M_does_1051_e : sCtE := (250, [.inl (.inr (.inr (.inr (.inl (some 220))))), .inr [(2147483652, 2147483652)], .inr [(2147483649, 2147483708)], .inr [(0, 4294967295)], .inr [(0, 4294967295)]], [220, 222], some (.inr [(2147483648, 2147483648), (2147483689, 2147483689)]), [(222, 64, 64)])
def cr2_M_does_1051_c : List sCut := []
set_option maxRecDepth 1000000 in
theorem cr2_M_does_1051_k : cChk vms hTr2 (sCalI vms (sCt hTr2 cr2_M_does_1051_e.2.2.2.2 [cr2_M_goesOn_761_e]) cr2_M_does_1051_e.2.2.2.2 3000 6) 3000 cr2_M_does_1051_e ([], [], []) [] cr2_M_does_1051_c = true := by decide +kernel
theorem cr2_M_does_1051_ok (d : Nat) (hd : 28 ≤ d) : cOK vms vdf d hTr2 cr2_M_does_1051_e := by
  obtain ⟨d', rfl⟩ : ∃ d', d = d' + 1 := ⟨d - 1, by omega⟩
  exact cOK_of (fun hp0 => sCalI_ok (d0 := 21) (fun m hm => sCt_ok (T := hTr2) (cs_cons (cr2_M_goesOn_761_ok m (by omega)) (cs_nil))) 6 d' (by omega)) cr2_M_does_1051_k

def cr3_M_does_1052_e : sCtE := (250, [.inl (.inr (.inr (.inr (.inl (some 220))))), .inr [(2147483648, 2147483648)], .inr [(2147483648, 2147483652)], .inr [(2147483648, 2147483655)], .inr [(0, 4294967295)]], [220, 222], some (.inr [(2147483648, 2147483653)]), [(222, 80, 87)])
def cr3_M_does_1052_c : List sCut := []
set_option maxRecDepth 1000000 in
theorem cr3_M_does_1052_k : cChk vms hTr3 (sCalI vms (sCt hTr3 cr3_M_does_1052_e.2.2.2.2 [cr3_M_cant_592_e, cr3_M_painsAt_579_e]) cr3_M_does_1052_e.2.2.2.2 3000 6) 3000 cr3_M_does_1052_e ([], [], []) [] cr3_M_does_1052_c = true := by decide +kernel
theorem cr3_M_does_1052_ok (d : Nat) (hd : 21 ≤ d) : cOK vms vdf d hTr3 cr3_M_does_1052_e := by
  obtain ⟨d', rfl⟩ : ∃ d', d = d' + 1 := ⟨d - 1, by omega⟩
  exact cOK_of (fun hp0 => sCalI_ok (d0 := 14) (fun m hm => sCt_ok (T := hTr3) (cs_cons (cr3_M_cant_592_ok m (by omega)) (cs_cons (cr3_M_painsAt_579_ok m (by omega)) (cs_nil)))) 6 d' (by omega)) cr3_M_does_1052_k

def cr3_M_does_1053_e : sCtE := (250, [.inl (.inr (.inr (.inr (.inl (some 220))))), .inr [(2147483649, 2147483649)], .inr [(2147483648, 2147483652)], .inr [(2147483648, 2147483655)], .inr [(2147483648, 2147483652)]], [220, 222], some (.inr [(2147483648, 2147483648), (2147483659, 2147483662), (2147483667, 2147483667)]), [(222, 80, 87)])
def cr3_M_does_1053_c : List sCut := []
set_option maxRecDepth 1000000 in
theorem cr3_M_does_1053_k : cChk vms hTr3 (sCalI vms (sCt hTr3 cr3_M_does_1053_e.2.2.2.2 [cr3_M_cant_592_e, cr3_M_painsAt_579_e]) cr3_M_does_1053_e.2.2.2.2 3000 6) 3000 cr3_M_does_1053_e ([], [], []) [] cr3_M_does_1053_c = true := by decide +kernel
theorem cr3_M_does_1053_ok (d : Nat) (hd : 21 ≤ d) : cOK vms vdf d hTr3 cr3_M_does_1053_e := by
  obtain ⟨d', rfl⟩ : ∃ d', d = d' + 1 := ⟨d - 1, by omega⟩
  exact cOK_of (fun hp0 => sCalI_ok (d0 := 14) (fun m hm => sCt_ok (T := hTr3) (cs_cons (cr3_M_cant_592_ok m (by omega)) (cs_cons (cr3_M_painsAt_579_ok m (by omega)) (cs_nil)))) 6 d' (by omega)) cr3_M_does_1053_k

def cr3_M_does_1054_e : sCtE := (250, [.inl (.inr (.inr (.inr (.inl (some 220))))), .inr [(2147483650, 2147483650)], .inr [(2147483648, 2147483652)], .inr [(2147483648, 2147483655)], .inr [(0, 4294967295)]], [220, 222], some (.inr [(2147483648, 2147483648), (2147483669, 2147483669)]), [(222, 80, 87), (222, 96, 103)])
def cr3_M_does_1054_c : List sCut := []
set_option maxRecDepth 1000000 in
theorem cr3_M_does_1054_k : cChk vms hTr3 (sCalI vms (sCt hTr3 cr3_M_does_1054_e.2.2.2.2 []) cr3_M_does_1054_e.2.2.2.2 3000 6) 3000 cr3_M_does_1054_e ([], [], []) [] cr3_M_does_1054_c = true := by decide +kernel
theorem cr3_M_does_1054_ok (d : Nat) (hd : 7 ≤ d) : cOK vms vdf d hTr3 cr3_M_does_1054_e := by
  obtain ⟨d', rfl⟩ : ∃ d', d = d' + 1 := ⟨d - 1, by omega⟩
  exact cOK_of (fun hp0 => sCalI_ok (d0 := 0) (fun m hm => sCt_ok (T := hTr3) (cs_nil)) 6 d' (by omega)) cr3_M_does_1054_k

def cr3_M_does_1055_e : sCtE := (250, [.inl (.inr (.inr (.inr (.inl (some 220))))), .inr [(2147483651, 2147483651)], .inr [(0, 4294967295)], .inr [(2147483648, 2147483655)], .inr [(0, 4294967295)]], [220, 222], some (.inr [(2147483648, 2147483648), (2147483679, 2147483679)]), [(222, 80, 87)])
def cr3_M_does_1055_c : List sCut := []
set_option maxRecDepth 1000000 in
theorem cr3_M_does_1055_k : cChk vms hTr3 (sCalI vms (sCt hTr3 cr3_M_does_1055_e.2.2.2.2 []) cr3_M_does_1055_e.2.2.2.2 3000 6) 3000 cr3_M_does_1055_e ([], [], []) [] cr3_M_does_1055_c = true := by decide +kernel
theorem cr3_M_does_1055_ok (d : Nat) (hd : 7 ≤ d) : cOK vms vdf d hTr3 cr3_M_does_1055_e := by
  obtain ⟨d', rfl⟩ : ∃ d', d = d' + 1 := ⟨d - 1, by omega⟩
  exact cOK_of (fun hp0 => sCalI_ok (d0 := 0) (fun m hm => sCt_ok (T := hTr3) (cs_nil)) 6 d' (by omega)) cr3_M_does_1055_k

def cr3_M_does_1056_e : sCtE := (250, [.inl (.inr (.inr (.inr (.inl (some 220))))), .inr [(2147483652, 2147483652)], .inr [(2147483649, 2147483708)], .inr [(0, 4294967295)], .inr [(0, 4294967295)]], [220, 222], some (.inr [(2147483648, 2147483648), (2147483689, 2147483689)]), [(222, 64, 95), (222, 104, 141)])
def cr3_M_does_1056_c : List sCut := []
set_option maxRecDepth 1000000 in
theorem cr3_M_does_1056_k : cChk vms hTr3 (sCalI vms (sCt hTr3 cr3_M_does_1056_e.2.2.2.2 [cr3_M_goesOn_598_e]) cr3_M_does_1056_e.2.2.2.2 3000 6) 3000 cr3_M_does_1056_e ([], [], []) [] cr3_M_does_1056_c = true := by decide +kernel
theorem cr3_M_does_1056_ok (d : Nat) (hd : 28 ≤ d) : cOK vms vdf d hTr3 cr3_M_does_1056_e := by
  obtain ⟨d', rfl⟩ : ∃ d', d = d' + 1 := ⟨d - 1, by omega⟩
  exact cOK_of (fun hp0 => sCalI_ok (d0 := 21) (fun m hm => sCt_ok (T := hTr3) (cs_cons (cr3_M_goesOn_598_ok m (by omega)) (cs_nil))) 6 d' (by omega)) cr3_M_does_1056_k
