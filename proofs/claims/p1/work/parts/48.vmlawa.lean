/-! ===== the law's table is its code ===== -/
noncomputable def vTbN (code : ByteArray) (vms : List vMt) (kinds : List Nat) (fr lo : Nat) (own : String) (ini : Bool) (lk : List (Nat × Cond)) (tbl : vTbl) (from_ : Nat) : Nat → Bool
  | 0 => true
  | k + 1 => (match vGet tbl (from_ + k) with
    | none => true
    | some (i, len, a, b, t) => decide (decode code (from_ + k) = .ok (i, len)) && vChk vms kinds fr lo own ini lk (from_ + k) i len a b t) && vTbN code vms kinds fr lo own ini lk tbl from_ k
theorem vTbN_ok {code : ByteArray} {vms : List vMt} {kinds : List Nat} {fr lo : Nat} {own : String} {ini : Bool} {lk : List (Nat × Cond)} {tbl : vTbl} {from_ : Nat} : ∀ (n : Nat), vTbN code vms kinds fr lo own ini lk tbl from_ n = true → ∀ (pc : Nat) (i : Instr) (len a b t : Nat), from_ ≤ pc → pc < from_ + n → vGet tbl pc = some (i, len, a, b, t) → decode code pc = .ok (i, len) ∧ vChk vms kinds fr lo own ini lk pc i len a b t = true
  | 0, _, _, _, _, _, _, _, h1, h2, _ => by omega
  | n + 1, h, pc, i, len, a, b, t, h0, h2, h3 => by
    obtain ⟨h1, h4⟩ := vBx h
    by_cases e : pc = from_ + n
    · subst e
      rw [h3] at h1
      obtain ⟨q1, q2⟩ := vBx h1
      exact ⟨of_decide_eq_true q1, q2⟩
    · exact vTbN_ok n h4 pc i len a b t h0 (by omega) h3

set_option maxRecDepth 100000 in
theorem vlaw_0 : vTbN cL_law vms vkinds 11 426 RL false vlk_RL vt_L_law 0 75 = true := by decide +kernel
set_option maxRecDepth 100000 in
theorem vlaw_1 : vTbN cL_law vms vkinds 11 426 RL false vlk_RL vt_L_law 75 75 = true := by decide +kernel
set_option maxRecDepth 100000 in
theorem vlaw_2 : vTbN cL_law vms vkinds 11 426 RL false vlk_RL vt_L_law 150 75 = true := by decide +kernel
set_option maxRecDepth 100000 in
theorem vlaw_3 : vTbN cL_law vms vkinds 11 426 RL false vlk_RL vt_L_law 225 75 = true := by decide +kernel
set_option maxRecDepth 100000 in
theorem vlaw_4 : vTbN cL_law vms vkinds 11 426 RL false vlk_RL vt_L_law 300 75 = true := by decide +kernel
set_option maxRecDepth 100000 in
theorem vlaw_5 : vTbN cL_law vms vkinds 11 426 RL false vlk_RL vt_L_law 375 75 = true := by decide +kernel
set_option maxRecDepth 100000 in
theorem vlaw_6 : vTbN cL_law vms vkinds 11 426 RL false vlk_RL vt_L_law 450 75 = true := by decide +kernel
set_option maxRecDepth 100000 in
theorem vlaw_7 : vTbN cL_law vms vkinds 11 426 RL false vlk_RL vt_L_law 525 75 = true := by decide +kernel
set_option maxRecDepth 100000 in
theorem vlaw_8 : vTbN cL_law vms vkinds 11 426 RL false vlk_RL vt_L_law 600 75 = true := by decide +kernel
set_option maxRecDepth 100000 in
theorem vlaw_9 : vTbN cL_law vms vkinds 11 426 RL false vlk_RL vt_L_law 675 75 = true := by decide +kernel
