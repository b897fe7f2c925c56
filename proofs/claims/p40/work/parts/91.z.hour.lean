theorem ch0_M_hour_1_okx (d : Nat) (hd : 14 ≤ d) : cOKx vms vdf d hTr0 ch0_M_hour_1_x := sorry
theorem ch1_M_hour_3_okx (d : Nat) (hd : 14 ≤ d) : cOKx vms vdf d hTr1 ch1_M_hour_3_x := sorry
theorem ch2_M_hour_5_okx (d : Nat) (hd : 14 ≤ d) : cOKx vms vdf d hTr2 ch2_M_hour_5_x := sorry
theorem ch3_M_hour_7_okx (d : Nat) (hd : 14 ≤ d) : cOKx vms vdf d hTr3 ch3_M_hour_7_x := sorry
