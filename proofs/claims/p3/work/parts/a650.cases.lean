/-! ===== the standard cases of the law ===== -/
theorem and2 {a b : Bool} (h : (a && b) = true) : a = true ∧ b = true := by rwa [Bool.and_eq_true] at h
section LSTD
variable {p : Program} {l : Launch} {e : Env} {s : State} {m : MethodId} {below : List Frame} {meth : Method} {c : Code} {b sa sv : Nat} {D : va_G} {sc : List vAV}
theorem std_ok (K : lCx p s m meth c b sa sv) (hsc : vScr b sa sv (fun q => s.heap.size ≤ q) s sc) {p0 pc1 pc2 jx jm k : Nat} (hk : k < 6) (ha : lChk lG [pc1] 3000 (p0, lL, [], []) [(pc1, lL, lArgs k ++ [yO 0], [])] = true) (hb : lChk lG [pc2] 3000 (pc1 + 3, lL, [zF], []) [(pc2, lL, lArgs k ++ [yO 220], [])] = true) (hc : lChk lG [1398] 3000 (pc2 + 3, lL, [zF], []) [(1398, lL, [], [])] = true) (hz : (zCl pc1 jx k 11 && zCl pc2 jm k 12) = true) (hX : CallOK Iv 0 jx k) (hM : CallOK Iv 220 jm k) : caseOK p l e s m below meth c b sa sv D Iv sc p0 := fun i w hp u v ce sl hi hw hI h1 h2 next =>
  std_case K hsc (fun hp h => Iv_rc h) (by omega) (by omega) hi hw hk ha hb hc (and2 hz).1 (and2 hz).2 hX hM hI (fun hp' u v hI' => next hp' u v ce sl hI' (by omega) (by omega))
end LSTD
set_option maxRecDepth 100000 in
theorem zc_0 : (zCl 251 26 5 11 && zCl 286 28 5 12) = true := by decide +kernel
set_option maxRecDepth 100000 in
theorem zc_2 : (zCl 319 60 0 11 && zCl 324 81 0 12) = true := by decide +kernel
set_option maxRecDepth 100000 in
theorem zc_3 : (zCl 332 82 0 11 && zCl 337 83 0 12) = true := by decide +kernel
set_option maxRecDepth 100000 in
theorem zc_5 : (zCl 397 91 2 11 && zCl 414 96 2 12) = true := by decide +kernel
set_option maxRecDepth 100000 in
theorem zc_7 : (zCl 474 102 2 11 && zCl 491 103 2 12) = true := by decide +kernel
set_option maxRecDepth 100000 in
theorem zc_8 : (zCl 505 108 1 11 && zCl 516 113 1 12) = true := by decide +kernel
set_option maxRecDepth 100000 in
theorem zc_9 : (zCl 536 123 2 11 && zCl 553 128 2 12) = true := by decide +kernel
set_option maxRecDepth 100000 in
theorem zc_10 : (zCl 579 130 3 11 && zCl 602 132 3 12) = true := by decide +kernel
set_option maxRecDepth 100000 in
theorem zc_11 : (zCl 622 135 2 11 && zCl 639 138 2 12) = true := by decide +kernel
set_option maxRecDepth 100000 in
theorem zc_12 : (zCl 653 140 1 11 && zCl 664 142 1 12) = true := by decide +kernel
set_option maxRecDepth 100000 in
theorem zc_13 : (zCl 678 149 1 11 && zCl 689 155 1 12) = true := by decide +kernel
set_option maxRecDepth 100000 in
theorem zc_14 : (zCl 697 157 0 11 && zCl 702 158 0 12) = true := by decide +kernel
set_option maxRecDepth 100000 in
theorem zc_15 : (zCl 722 159 2 11 && zCl 739 160 2 12) = true := by decide +kernel
set_option maxRecDepth 100000 in
theorem zc_16 : (zCl 759 169 2 11 && zCl 776 175 2 12) = true := by decide +kernel
set_option maxRecDepth 100000 in
theorem zc_17 : (zCl 790 176 1 11 && zCl 801 177 1 12) = true := by decide +kernel
set_option maxRecDepth 100000 in
theorem zc_18 : (zCl 815 179 1 11 && zCl 826 180 1 12) = true := by decide +kernel
set_option maxRecDepth 100000 in
theorem zc_19 : (zCl 840 181 1 11 && zCl 851 182 1 12) = true := by decide +kernel
set_option maxRecDepth 100000 in
theorem zc_20 : (zCl 859 190 0 11 && zCl 864 194 0 12) = true := by decide +kernel
set_option maxRecDepth 100000 in
theorem zc_21 : (zCl 878 196 1 11 && zCl 889 197 1 12) = true := by decide +kernel
set_option maxRecDepth 100000 in
theorem zc_22 : (zCl 897 199 0 11 && zCl 902 200 0 12) = true := by decide +kernel
set_option maxRecDepth 100000 in
theorem zc_23 : (zCl 922 201 2 11 && zCl 939 202 2 12) = true := by decide +kernel
set_option maxRecDepth 100000 in
theorem zc_24 : (zCl 947 208 0 11 && zCl 952 212 0 12) = true := by decide +kernel
set_option maxRecDepth 100000 in
theorem zc_25 : (zCl 966 213 1 11 && zCl 977 214 1 12) = true := by decide +kernel
set_option maxRecDepth 100000 in
theorem zc_27 : (zCl 1031 217 1 11 && zCl 1042 220 1 12) = true := by decide +kernel
set_option maxRecDepth 100000 in
theorem zc_28 : (zCl 1062 221 2 11 && zCl 1079 222 2 12) = true := by decide +kernel
set_option maxRecDepth 100000 in
theorem zc_29 : (zCl 1093 223 1 11 && zCl 1104 224 1 12) = true := by decide +kernel
set_option maxRecDepth 100000 in
theorem zc_30 : (zCl 1118 225 1 11 && zCl 1129 226 1 12) = true := by decide +kernel
set_option maxRecDepth 100000 in
theorem zc_31 : (zCl 1137 228 0 11 && zCl 1142 229 0 12) = true := by decide +kernel
set_option maxRecDepth 100000 in
theorem zc_32 : (zCl 1162 233 2 11 && zCl 1179 237 2 12) = true := by decide +kernel
set_option maxRecDepth 100000 in
theorem zc_33 : (zCl 1205 238 3 11 && zCl 1228 239 3 12) = true := by decide +kernel
set_option maxRecDepth 100000 in
theorem zc_34 : (zCl 1242 248 1 11 && zCl 1253 251 1 12) = true := by decide +kernel
set_option maxRecDepth 100000 in
theorem zc_35 : (zCl 1267 252 1 11 && zCl 1278 253 1 12) = true := by decide +kernel
set_option maxRecDepth 100000 in
theorem zc_36 : (zCl 1286 262 0 11 && zCl 1291 270 0 12) = true := by decide +kernel
set_option maxRecDepth 100000 in
theorem zc_37 : (zCl 1305 275 1 11 && zCl 1316 278 1 12) = true := by decide +kernel
set_option maxRecDepth 100000 in
theorem zc_39 : (zCl 1355 283 1 11 && zCl 1366 284 1 12) = true := by decide +kernel
set_option maxRecDepth 100000 in
theorem zc_40 : (zCl 1380 285 1 11 && zCl 1391 286 1 12) = true := by decide +kernel
