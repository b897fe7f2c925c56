/-! ===== the standard cases of the law ===== -/
theorem and2 {a b : Bool} (h : (a && b) = true) : a = true ∧ b = true := by rwa [Bool.and_eq_true] at h
section LSTD
variable {p : Program} {l : Launch} {e : Env} {s : State} {m : MethodId} {below : List Frame} {meth : Method} {c : Code} {b sa sv : Nat} {D : va_G} {sc : List vAV}
theorem std_ok (K : lCx p s m meth c b sa sv) (hsc : vScr b sa sv (fun q => s.heap.size ≤ q) s sc) {p0 pc1 pc2 jx jm k : Nat} (hk : k < 6) (ha : lChk lG [pc1] 3000 (p0, lL, [], []) [(pc1, lL, lArgs k ++ [yO 0], [])] = true) (hb : lChk lG [pc2] 3000 (pc1 + 3, lL, [zF], []) [(pc2, lL, lArgs k ++ [yO 220], [])] = true) (hc : lChk lG [1398] 3000 (pc2 + 3, lL, [zF], []) [(1398, lL, [], [])] = true) (hz : (zCl pc1 jx k 11 && zCl pc2 jm k 12) = true) (hX : CallOK Iv 0 jx k) (hM : CallOK Iv 220 jm k) : caseOK p l e s m below meth c b sa sv D Iv sc p0 := fun i w hp u v ce sl hi hw hI h1 h2 next =>
  std_case K hsc (fun hp h => Iv_rc h) (by omega) (by omega) hi hw hk ha hb hc (and2 hz).1 (and2 hz).2 hX hM hI (fun hp' u v hI' => next hp' u v ce sl hI' (by omega) (by omega))
end LSTD
set_option maxRecDepth 100000 in
theorem zc_0 : (zCl 251 26 5 11 && zCl 286 28 5 12) = true := by decide +kernel
theorem case_0 {p : Program} {l : Launch} {e : Env} {s : State} {m : MethodId} {below : List Frame} {meth : Method} {c : Code} {b sa sv : Nat} {D : va_G} {sc : List vAV} (K : lCx p s m meth c b sa sv) (hsc : vScr b sa sv (fun q => s.heap.size ≤ q) s sc) : caseOK p l e s m below meth c b sa sv D Iv sc 220 := std_ok K hsc (k := 5) (by decide) lw_a0 lw_b0 lw_c0 zc_0 (xCall (four xk_feed_0 xk_feed_1 xk_feed_2 xk_feed_3)) (mCall (four mk_feed_0 mk_feed_1 mk_feed_2 mk_feed_3))
set_option maxRecDepth 100000 in
theorem zc_1 : (zCl 300 29 1 11 && zCl 311 30 1 12) = true := by decide +kernel
theorem case_1 {p : Program} {l : Launch} {e : Env} {s : State} {m : MethodId} {below : List Frame} {meth : Method} {c : Code} {b sa sv : Nat} {D : va_G} {sc : List vAV} (K : lCx p s m meth c b sa sv) (hsc : vScr b sa sv (fun q => s.heap.size ≤ q) s sc) : caseOK p l e s m below meth c b sa sv D Iv sc 293 := std_ok K hsc (k := 1) (by decide) lw_a1 lw_b1 lw_c1 zc_1 (xCall (four xk_end_0 xk_end_1 xk_end_2 xk_end_3)) (mCall (four mk_end_0 mk_end_1 mk_end_2 mk_end_3))
set_option maxRecDepth 100000 in
theorem zc_2 : (zCl 319 60 0 11 && zCl 324 81 0 12) = true := by decide +kernel
theorem case_2 {p : Program} {l : Launch} {e : Env} {s : State} {m : MethodId} {below : List Frame} {meth : Method} {c : Code} {b sa sv : Nat} {D : va_G} {sc : List vAV} (K : lCx p s m meth c b sa sv) (hsc : vScr b sa sv (fun q => s.heap.size ≤ q) s sc) : caseOK p l e s m below meth c b sa sv D Iv sc 318 := std_ok K hsc (k := 0) (by decide) lw_a2 lw_b2 lw_c2 zc_2 (xCall (four xk_town_0 xk_town_1 xk_town_2 xk_town_3)) (mTown)
set_option maxRecDepth 100000 in
theorem zc_3 : (zCl 332 82 0 11 && zCl 337 83 0 12) = true := by decide +kernel
theorem case_3 {p : Program} {l : Launch} {e : Env} {s : State} {m : MethodId} {below : List Frame} {meth : Method} {c : Code} {b sa sv : Nat} {D : va_G} {sc : List vAV} (K : lCx p s m meth c b sa sv) (hsc : vScr b sa sv (fun q => s.heap.size ≤ q) s sc) : caseOK p l e s m below meth c b sa sv D Iv sc 331 := std_ok K hsc (k := 0) (by decide) lw_a3 lw_b3 lw_c3 zc_3 (xCall (four xk_fault_0 xk_fault_1 xk_fault_2 xk_fault_3)) (mCall (four mk_fault_0 mk_fault_1 mk_fault_2 mk_fault_3))
set_option maxRecDepth 100000 in
theorem zc_5 : (zCl 397 91 2 11 && zCl 414 96 2 12) = true := by decide +kernel
theorem case_5 {p : Program} {l : Launch} {e : Env} {s : State} {m : MethodId} {below : List Frame} {meth : Method} {c : Code} {b sa sv : Nat} {D : va_G} {sc : List vAV} (K : lCx p s m meth c b sa sv) (hsc : vScr b sa sv (fun q => s.heap.size ≤ q) s sc) : caseOK p l e s m below meth c b sa sv D Iv sc 384 := std_ok K hsc (k := 2) (by decide) lw_a5 lw_b5 lw_c5 zc_5 (xCall (four xk_person_0 xk_person_1 xk_person_2 xk_person_3)) (mCall (four mk_person_0 mk_person_1 mk_person_2 mk_person_3))
set_option maxRecDepth 100000 in
theorem zc_7 : (zCl 474 102 2 11 && zCl 491 103 2 12) = true := by decide +kernel
theorem case_7 {p : Program} {l : Launch} {e : Env} {s : State} {m : MethodId} {below : List Frame} {meth : Method} {c : Code} {b sa sv : Nat} {D : va_G} {sc : List vAV} (K : lCx p s m meth c b sa sv) (hsc : vScr b sa sv (fun q => s.heap.size ≤ q) s sc) : caseOK p l e s m below meth c b sa sv D Iv sc 461 := std_ok K hsc (k := 2) (by decide) lw_a7 lw_b7 lw_c7 zc_7 (xCall (four xk_sort_0 xk_sort_1 xk_sort_2 xk_sort_3)) (mCall (four mk_sort_0 mk_sort_1 mk_sort_2 mk_sort_3))
set_option maxRecDepth 100000 in
theorem zc_8 : (zCl 505 108 1 11 && zCl 516 113 1 12) = true := by decide +kernel
theorem case_8 {p : Program} {l : Launch} {e : Env} {s : State} {m : MethodId} {below : List Frame} {meth : Method} {c : Code} {b sa sv : Nat} {D : va_G} {sc : List vAV} (K : lCx p s m meth c b sa sv) (hsc : vScr b sa sv (fun q => s.heap.size ≤ q) s sc) : caseOK p l e s m below meth c b sa sv D Iv sc 498 := std_ok K hsc (k := 1) (by decide) lw_a8 lw_b8 lw_c8 zc_8 (xCall (four xk_now_0 xk_now_1 xk_now_2 xk_now_3)) (mCall (four mk_now_0 mk_now_1 mk_now_2 mk_now_3))
set_option maxRecDepth 100000 in
theorem zc_9 : (zCl 536 123 2 11 && zCl 553 128 2 12) = true := by decide +kernel
theorem case_9 {p : Program} {l : Launch} {e : Env} {s : State} {m : MethodId} {below : List Frame} {meth : Method} {c : Code} {b sa sv : Nat} {D : va_G} {sc : List vAV} (K : lCx p s m meth c b sa sv) (hsc : vScr b sa sv (fun q => s.heap.size ≤ q) s sc) : caseOK p l e s m below meth c b sa sv D Iv sc 523 := std_ok K hsc (k := 2) (by decide) lw_a9 lw_b9 lw_c9 zc_9 (xCall (four xk_fetch_0 xk_fetch_1 xk_fetch_2 xk_fetch_3)) (mCall (four mk_fetch_0 mk_fetch_1 mk_fetch_2 mk_fetch_3))
set_option maxRecDepth 100000 in
theorem zc_10 : (zCl 579 130 3 11 && zCl 602 132 3 12) = true := by decide +kernel
theorem case_10 {p : Program} {l : Launch} {e : Env} {s : State} {m : MethodId} {below : List Frame} {meth : Method} {c : Code} {b sa sv : Nat} {D : va_G} {sc : List vAV} (K : lCx p s m meth c b sa sv) (hsc : vScr b sa sv (fun q => s.heap.size ≤ q) s sc) : caseOK p l e s m below meth c b sa sv D Iv sc 560 := std_ok K hsc (k := 3) (by decide) lw_a10 lw_b10 lw_c10 zc_10 (xCall (four xk_hand_0 xk_hand_1 xk_hand_2 xk_hand_3)) (mCall (four mk_hand_0 mk_hand_1 mk_hand_2 mk_hand_3))
set_option maxRecDepth 100000 in
theorem zc_11 : (zCl 622 135 2 11 && zCl 639 138 2 12) = true := by decide +kernel
theorem case_11 {p : Program} {l : Launch} {e : Env} {s : State} {m : MethodId} {below : List Frame} {meth : Method} {c : Code} {b sa sv : Nat} {D : va_G} {sc : List vAV} (K : lCx p s m meth c b sa sv) (hsc : vScr b sa sv (fun q => s.heap.size ≤ q) s sc) : caseOK p l e s m below meth c b sa sv D Iv sc 609 := std_ok K hsc (k := 2) (by decide) lw_a11 lw_b11 lw_c11 zc_11 (xCall (four xk_drop_0 xk_drop_1 xk_drop_2 xk_drop_3)) (mCall (four mk_drop_0 mk_drop_1 mk_drop_2 mk_drop_3))
set_option maxRecDepth 100000 in
theorem zc_12 : (zCl 653 140 1 11 && zCl 664 142 1 12) = true := by decide +kernel
theorem case_12 {p : Program} {l : Launch} {e : Env} {s : State} {m : MethodId} {below : List Frame} {meth : Method} {c : Code} {b sa sv : Nat} {D : va_G} {sc : List vAV} (K : lCx p s m meth c b sa sv) (hsc : vScr b sa sv (fun q => s.heap.size ≤ q) s sc) : caseOK p l e s m below meth c b sa sv D Iv sc 646 := std_ok K hsc (k := 1) (by decide) lw_a12 lw_b12 lw_c12 zc_12 (xCall (four xk_home_0 xk_home_1 xk_home_2 xk_home_3)) (mCall (four mk_home_0 mk_home_1 mk_home_2 mk_home_3))
set_option maxRecDepth 100000 in
theorem zc_13 : (zCl 678 149 1 11 && zCl 689 155 1 12) = true := by decide +kernel
theorem case_13 {p : Program} {l : Launch} {e : Env} {s : State} {m : MethodId} {below : List Frame} {meth : Method} {c : Code} {b sa sv : Nat} {D : va_G} {sc : List vAV} (K : lCx p s m meth c b sa sv) (hsc : vScr b sa sv (fun q => s.heap.size ≤ q) s sc) : caseOK p l e s m below meth c b sa sv D Iv sc 671 := std_ok K hsc (k := 1) (by decide) lw_a13 lw_b13 lw_c13 zc_13 (xCall (four xk_hours_0 xk_hours_1 xk_hours_2 xk_hours_3)) (mCall (four mk_hours_0 mk_hours_1 mk_hours_2 mk_hours_3))
set_option maxRecDepth 100000 in
theorem zc_14 : (zCl 697 157 0 11 && zCl 702 158 0 12) = true := by decide +kernel
theorem case_14 {p : Program} {l : Launch} {e : Env} {s : State} {m : MethodId} {below : List Frame} {meth : Method} {c : Code} {b sa sv : Nat} {D : va_G} {sc : List vAV} (K : lCx p s m meth c b sa sv) (hsc : vScr b sa sv (fun q => s.heap.size ≤ q) s sc) : caseOK p l e s m below meth c b sa sv D Iv sc 696 := std_ok K hsc (k := 0) (by decide) lw_a14 lw_b14 lw_c14 zc_14 (xCall (four xk_undo_0 xk_undo_1 xk_undo_2 xk_undo_3)) (mCall (four mk_undo_0 mk_undo_1 mk_undo_2 mk_undo_3))
set_option maxRecDepth 100000 in
theorem zc_15 : (zCl 722 159 2 11 && zCl 739 160 2 12) = true := by decide +kernel
theorem case_15 {p : Program} {l : Launch} {e : Env} {s : State} {m : MethodId} {below : List Frame} {meth : Method} {c : Code} {b sa sv : Nat} {D : va_G} {sc : List vAV} (K : lCx p s m meth c b sa sv) (hsc : vScr b sa sv (fun q => s.heap.size ≤ q) s sc) : caseOK p l e s m below meth c b sa sv D Iv sc 709 := std_ok K hsc (k := 2) (by decide) lw_a15 lw_b15 lw_c15 zc_15 (xCall (four xk_can_0 xk_can_1 xk_can_2 xk_can_3)) (mCall (four mk_can_0 mk_can_1 mk_can_2 mk_can_3))
set_option maxRecDepth 100000 in
theorem zc_16 : (zCl 759 169 2 11 && zCl 776 175 2 12) = true := by decide +kernel
theorem case_16 {p : Program} {l : Launch} {e : Env} {s : State} {m : MethodId} {below : List Frame} {meth : Method} {c : Code} {b sa sv : Nat} {D : va_G} {sc : List vAV} (K : lCx p s m meth c b sa sv) (hsc : vScr b sa sv (fun q => s.heap.size ≤ q) s sc) : caseOK p l e s m below meth c b sa sv D Iv sc 746 := std_ok K hsc (k := 2) (by decide) lw_a16 lw_b16 lw_c16 zc_16 (xCall (four xk_free_0 xk_free_1 xk_free_2 xk_free_3)) (mCall (four mk_free_0 mk_free_1 mk_free_2 mk_free_3))
set_option maxRecDepth 100000 in
theorem zc_17 : (zCl 790 176 1 11 && zCl 801 177 1 12) = true := by decide +kernel
theorem case_17 {p : Program} {l : Launch} {e : Env} {s : State} {m : MethodId} {below : List Frame} {meth : Method} {c : Code} {b sa sv : Nat} {D : va_G} {sc : List vAV} (K : lCx p s m meth c b sa sv) (hsc : vScr b sa sv (fun q => s.heap.size ≤ q) s sc) : caseOK p l e s m below meth c b sa sv D Iv sc 783 := std_ok K hsc (k := 1) (by decide) lw_a17 lw_b17 lw_c17 zc_17 (xCall (four xk_by_0 xk_by_1 xk_by_2 xk_by_3)) (mCall (four mk_by_0 mk_by_1 mk_by_2 mk_by_3))
set_option maxRecDepth 100000 in
theorem zc_18 : (zCl 815 179 1 11 && zCl 826 180 1 12) = true := by decide +kernel
theorem case_18 {p : Program} {l : Launch} {e : Env} {s : State} {m : MethodId} {below : List Frame} {meth : Method} {c : Code} {b sa sv : Nat} {D : va_G} {sc : List vAV} (K : lCx p s m meth c b sa sv) (hsc : vScr b sa sv (fun q => s.heap.size ≤ q) s sc) : caseOK p l e s m below meth c b sa sv D Iv sc 808 := std_ok K hsc (k := 1) (by decide) lw_a18 lw_b18 lw_c18 zc_18 (xCall (four xk_fewest_0 xk_fewest_1 xk_fewest_2 xk_fewest_3)) (mCall (four mk_fewest_0 mk_fewest_1 mk_fewest_2 mk_fewest_3))
set_option maxRecDepth 100000 in
theorem zc_19 : (zCl 840 181 1 11 && zCl 851 182 1 12) = true := by decide +kernel
theorem case_19 {p : Program} {l : Launch} {e : Env} {s : State} {m : MethodId} {below : List Frame} {meth : Method} {c : Code} {b sa sv : Nat} {D : va_G} {sc : List vAV} (K : lCx p s m meth c b sa sv) (hsc : vScr b sa sv (fun q => s.heap.size ≤ q) s sc) : caseOK p l e s m below meth c b sa sv D Iv sc 833 := std_ok K hsc (k := 1) (by decide) lw_a19 lw_b19 lw_c19 zc_19 (xCall (four xk_load_0 xk_load_1 xk_load_2 xk_load_3)) (mCall (four mk_load_0 mk_load_1 mk_load_2 mk_load_3))
set_option maxRecDepth 100000 in
theorem zc_20 : (zCl 859 190 0 11 && zCl 864 194 0 12) = true := by decide +kernel
theorem case_20 {p : Program} {l : Launch} {e : Env} {s : State} {m : MethodId} {below : List Frame} {meth : Method} {c : Code} {b sa sv : Nat} {D : va_G} {sc : List vAV} (K : lCx p s m meth c b sa sv) (hsc : vScr b sa sv (fun q => s.heap.size ≤ q) s sc) : caseOK p l e s m below meth c b sa sv D Iv sc 858 := std_ok K hsc (k := 0) (by decide) lw_a20 lw_b20 lw_c20 zc_20 (xCall (four xk_limps_0 xk_limps_1 xk_limps_2 xk_limps_3)) (mCall (four mk_limps_0 mk_limps_1 mk_limps_2 mk_limps_3))
set_option maxRecDepth 100000 in
theorem zc_21 : (zCl 878 196 1 11 && zCl 889 197 1 12) = true := by decide +kernel
theorem case_21 {p : Program} {l : Launch} {e : Env} {s : State} {m : MethodId} {below : List Frame} {meth : Method} {c : Code} {b sa sv : Nat} {D : va_G} {sc : List vAV} (K : lCx p s m meth c b sa sv) (hsc : vScr b sa sv (fun q => s.heap.size ≤ q) s sc) : caseOK p l e s m below meth c b sa sv D Iv sc 871 := std_ok K hsc (k := 1) (by decide) lw_a21 lw_b21 lw_c21 zc_21 (xCall (four xk_surely_0 xk_surely_1 xk_surely_2 xk_surely_3)) (mCall (four mk_surely_0 mk_surely_1 mk_surely_2 mk_surely_3))
set_option maxRecDepth 100000 in
theorem zc_22 : (zCl 897 199 0 11 && zCl 902 200 0 12) = true := by decide +kernel
theorem case_22 {p : Program} {l : Launch} {e : Env} {s : State} {m : MethodId} {below : List Frame} {meth : Method} {c : Code} {b sa sv : Nat} {D : va_G} {sc : List vAV} (K : lCx p s m meth c b sa sv) (hsc : vScr b sa sv (fun q => s.heap.size ≤ q) s sc) : caseOK p l e s m below meth c b sa sv D Iv sc 896 := std_ok K hsc (k := 0) (by decide) lw_a22 lw_b22 lw_c22 zc_22 (xCall (four xk_ask_0 xk_ask_1 xk_ask_2 xk_ask_3)) (mCall (four mk_ask_0 mk_ask_1 mk_ask_2 mk_ask_3))
set_option maxRecDepth 100000 in
theorem zc_23 : (zCl 922 201 2 11 && zCl 939 202 2 12) = true := by decide +kernel
theorem case_23 {p : Program} {l : Launch} {e : Env} {s : State} {m : MethodId} {below : List Frame} {meth : Method} {c : Code} {b sa sv : Nat} {D : va_G} {sc : List vAV} (K : lCx p s m meth c b sa sv) (hsc : vScr b sa sv (fun q => s.heap.size ≤ q) s sc) : caseOK p l e s m below meth c b sa sv D Iv sc 909 := std_ok K hsc (k := 2) (by decide) lw_a23 lw_b23 lw_c23 zc_23 (xCall (four xk_share_0 xk_share_1 xk_share_2 xk_share_3)) (mCall (four mk_share_0 mk_share_1 mk_share_2 mk_share_3))
set_option maxRecDepth 100000 in
theorem zc_24 : (zCl 947 208 0 11 && zCl 952 212 0 12) = true := by decide +kernel
theorem case_24 {p : Program} {l : Launch} {e : Env} {s : State} {m : MethodId} {below : List Frame} {meth : Method} {c : Code} {b sa sv : Nat} {D : va_G} {sc : List vAV} (K : lCx p s m meth c b sa sv) (hsc : vScr b sa sv (fun q => s.heap.size ≤ q) s sc) : caseOK p l e s m below meth c b sa sv D Iv sc 946 := std_ok K hsc (k := 0) (by decide) lw_a24 lw_b24 lw_c24 zc_24 (xCall (four xk_rest_0 xk_rest_1 xk_rest_2 xk_rest_3)) (mCall (four mk_rest_0 mk_rest_1 mk_rest_2 mk_rest_3))
set_option maxRecDepth 100000 in
theorem zc_25 : (zCl 966 213 1 11 && zCl 977 214 1 12) = true := by decide +kernel
theorem case_25 {p : Program} {l : Launch} {e : Env} {s : State} {m : MethodId} {below : List Frame} {meth : Method} {c : Code} {b sa sv : Nat} {D : va_G} {sc : List vAV} (K : lCx p s m meth c b sa sv) (hsc : vScr b sa sv (fun q => s.heap.size ≤ q) s sc) : caseOK p l e s m below meth c b sa sv D Iv sc 959 := std_ok K hsc (k := 1) (by decide) lw_a25 lw_b25 lw_c25 zc_25 (xCall (four xk_fee_0 xk_fee_1 xk_fee_2 xk_fee_3)) (mCall (four mk_fee_0 mk_fee_1 mk_fee_2 mk_fee_3))
set_option maxRecDepth 100000 in
theorem zc_27 : (zCl 1031 217 1 11 && zCl 1042 220 1 12) = true := by decide +kernel
theorem case_27 {p : Program} {l : Launch} {e : Env} {s : State} {m : MethodId} {below : List Frame} {meth : Method} {c : Code} {b sa sv : Nat} {D : va_G} {sc : List vAV} (K : lCx p s m meth c b sa sv) (hsc : vScr b sa sv (fun q => s.heap.size ≤ q) s sc) : caseOK p l e s m below meth c b sa sv D Iv sc 1024 := std_ok K hsc (k := 1) (by decide) lw_a27 lw_b27 lw_c27 zc_27 (xCall (four xk_ease_0 xk_ease_1 xk_ease_2 xk_ease_3)) (mCall (four mk_ease_0 mk_ease_1 mk_ease_2 mk_ease_3))
set_option maxRecDepth 100000 in
theorem zc_28 : (zCl 1062 221 2 11 && zCl 1079 222 2 12) = true := by decide +kernel
theorem case_28 {p : Program} {l : Launch} {e : Env} {s : State} {m : MethodId} {below : List Frame} {meth : Method} {c : Code} {b sa sv : Nat} {D : va_G} {sc : List vAV} (K : lCx p s m meth c b sa sv) (hsc : vScr b sa sv (fun q => s.heap.size ≤ q) s sc) : caseOK p l e s m below meth c b sa sv D Iv sc 1049 := std_ok K hsc (k := 2) (by decide) lw_a28 lw_b28 lw_c28 zc_28 (xCall (four xk_later_0 xk_later_1 xk_later_2 xk_later_3)) (mCall (four mk_later_0 mk_later_1 mk_later_2 mk_later_3))
set_option maxRecDepth 100000 in
theorem zc_29 : (zCl 1093 223 1 11 && zCl 1104 224 1 12) = true := by decide +kernel
theorem case_29 {p : Program} {l : Launch} {e : Env} {s : State} {m : MethodId} {below : List Frame} {meth : Method} {c : Code} {b sa sv : Nat} {D : va_G} {sc : List vAV} (K : lCx p s m meth c b sa sv) (hsc : vScr b sa sv (fun q => s.heap.size ≤ q) s sc) : caseOK p l e s m below meth c b sa sv D Iv sc 1086 := std_ok K hsc (k := 1) (by decide) lw_a29 lw_b29 lw_c29 zc_29 (xCall (four xk_lasts_0 xk_lasts_1 xk_lasts_2 xk_lasts_3)) (mCall (four mk_lasts_0 mk_lasts_1 mk_lasts_2 mk_lasts_3))
set_option maxRecDepth 100000 in
theorem zc_30 : (zCl 1118 225 1 11 && zCl 1129 226 1 12) = true := by decide +kernel
theorem case_30 {p : Program} {l : Launch} {e : Env} {s : State} {m : MethodId} {below : List Frame} {meth : Method} {c : Code} {b sa sv : Nat} {D : va_G} {sc : List vAV} (K : lCx p s m meth c b sa sv) (hsc : vScr b sa sv (fun q => s.heap.size ≤ q) s sc) : caseOK p l e s m below meth c b sa sv D Iv sc 1111 := std_ok K hsc (k := 1) (by decide) lw_a30 lw_b30 lw_c30 zc_30 (xCall (four xk_cheapest_0 xk_cheapest_1 xk_cheapest_2 xk_cheapest_3)) (mCall (four mk_cheapest_0 mk_cheapest_1 mk_cheapest_2 mk_cheapest_3))
set_option maxRecDepth 100000 in
theorem zc_31 : (zCl 1137 228 0 11 && zCl 1142 229 0 12) = true := by decide +kernel
theorem case_31 {p : Program} {l : Launch} {e : Env} {s : State} {m : MethodId} {below : List Frame} {meth : Method} {c : Code} {b sa sv : Nat} {D : va_G} {sc : List vAV} (K : lCx p s m meth c b sa sv) (hsc : vScr b sa sv (fun q => s.heap.size ≤ q) s sc) : caseOK p l e s m below meth c b sa sv D Iv sc 1136 := std_ok K hsc (k := 0) (by decide) lw_a31 lw_b31 lw_c31 zc_31 (xCall (four xk_hopeless_0 xk_hopeless_1 xk_hopeless_2 xk_hopeless_3)) (mCall (four mk_hopeless_0 mk_hopeless_1 mk_hopeless_2 mk_hopeless_3))
set_option maxRecDepth 100000 in
theorem zc_32 : (zCl 1162 233 2 11 && zCl 1179 237 2 12) = true := by decide +kernel
theorem case_32 {p : Program} {l : Launch} {e : Env} {s : State} {m : MethodId} {below : List Frame} {meth : Method} {c : Code} {b sa sv : Nat} {D : va_G} {sc : List vAV} (K : lCx p s m meth c b sa sv) (hsc : vScr b sa sv (fun q => s.heap.size ≤ q) s sc) : caseOK p l e s m below meth c b sa sv D Iv sc 1149 := std_ok K hsc (k := 2) (by decide) lw_a32 lw_b32 lw_c32 zc_32 (xCall (four xk_drawn_0 xk_drawn_1 xk_drawn_2 xk_drawn_3)) (mCall (four mk_drawn_0 mk_drawn_1 mk_drawn_2 mk_drawn_3))
set_option maxRecDepth 100000 in
theorem zc_33 : (zCl 1205 238 3 11 && zCl 1228 239 3 12) = true := by decide +kernel
theorem case_33 {p : Program} {l : Launch} {e : Env} {s : State} {m : MethodId} {below : List Frame} {meth : Method} {c : Code} {b sa sv : Nat} {D : va_G} {sc : List vAV} (K : lCx p s m meth c b sa sv) (hsc : vScr b sa sv (fun q => s.heap.size ≤ q) s sc) : caseOK p l e s m below meth c b sa sv D Iv sc 1186 := std_ok K hsc (k := 3) (by decide) lw_a33 lw_b33 lw_c33 zc_33 (xCall (four xk_odds_0 xk_odds_1 xk_odds_2 xk_odds_3)) (mCall (four mk_odds_0 mk_odds_1 mk_odds_2 mk_odds_3))
set_option maxRecDepth 100000 in
theorem zc_34 : (zCl 1242 248 1 11 && zCl 1253 251 1 12) = true := by decide +kernel
theorem case_34 {p : Program} {l : Launch} {e : Env} {s : State} {m : MethodId} {below : List Frame} {meth : Method} {c : Code} {b sa sv : Nat} {D : va_G} {sc : List vAV} (K : lCx p s m meth c b sa sv) (hsc : vScr b sa sv (fun q => s.heap.size ≤ q) s sc) : caseOK p l e s m below meth c b sa sv D Iv sc 1235 := std_ok K hsc (k := 1) (by decide) lw_a34 lw_b34 lw_c34 zc_34 (xCall (four xk_log_0 xk_log_1 xk_log_2 xk_log_3)) (mLog)
set_option maxRecDepth 100000 in
theorem zc_35 : (zCl 1267 252 1 11 && zCl 1278 253 1 12) = true := by decide +kernel
theorem case_35 {p : Program} {l : Launch} {e : Env} {s : State} {m : MethodId} {below : List Frame} {meth : Method} {c : Code} {b sa sv : Nat} {D : va_G} {sc : List vAV} (K : lCx p s m meth c b sa sv) (hsc : vScr b sa sv (fun q => s.heap.size ≤ q) s sc) : caseOK p l e s m below meth c b sa sv D Iv sc 1260 := std_ok K hsc (k := 1) (by decide) lw_a35 lw_b35 lw_c35 zc_35 (xCall (four xk_logged_0 xk_logged_1 xk_logged_2 xk_logged_3)) (mCall (four mk_logged_0 mk_logged_1 mk_logged_2 mk_logged_3))
set_option maxRecDepth 100000 in
theorem zc_36 : (zCl 1286 262 0 11 && zCl 1291 270 0 12) = true := by decide +kernel
theorem case_36 {p : Program} {l : Launch} {e : Env} {s : State} {m : MethodId} {below : List Frame} {meth : Method} {c : Code} {b sa sv : Nat} {D : va_G} {sc : List vAV} (K : lCx p s m meth c b sa sv) (hsc : vScr b sa sv (fun q => s.heap.size ≤ q) s sc) : caseOK p l e s m below meth c b sa sv D Iv sc 1285 := std_ok K hsc (k := 0) (by decide) lw_a36 lw_b36 lw_c36 zc_36 (xCall (four xk_sentence_0 xk_sentence_1 xk_sentence_2 xk_sentence_3)) (mSentence)
set_option maxRecDepth 100000 in
theorem zc_37 : (zCl 1305 275 1 11 && zCl 1316 278 1 12) = true := by decide +kernel
theorem case_37 {p : Program} {l : Launch} {e : Env} {s : State} {m : MethodId} {below : List Frame} {meth : Method} {c : Code} {b sa sv : Nat} {D : va_G} {sc : List vAV} (K : lCx p s m meth c b sa sv) (hsc : vScr b sa sv (fun q => s.heap.size ≤ q) s sc) : caseOK p l e s m below meth c b sa sv D Iv sc 1298 := std_ok K hsc (k := 1) (by decide) lw_a37 lw_b37 lw_c37 zc_37 (xCall (four xk_said_0 xk_said_1 xk_said_2 xk_said_3)) (mSaid)
set_option maxRecDepth 100000 in
theorem zc_40 : (zCl 1380 285 1 11 && zCl 1391 286 1 12) = true := by decide +kernel
theorem case_40 {p : Program} {l : Launch} {e : Env} {s : State} {m : MethodId} {below : List Frame} {meth : Method} {c : Code} {b sa sv : Nat} {D : va_G} {sc : List vAV} (K : lCx p s m meth c b sa sv) (hsc : vScr b sa sv (fun q => s.heap.size ≤ q) s sc) : caseOK p l e s m below meth c b sa sv D Iv sc 1373 := std_ok K hsc (k := 1) (by decide) lw_a40 lw_b40 lw_c40 zc_40 (xCall (four xk_count_0 xk_count_1 xk_count_2 xk_count_3)) (mCall (four mk_count_0 mk_count_1 mk_count_2 mk_count_3))
