/-! ===== image and restore: the cases ===== -/
theorem bit2 {P : Nat → Prop} (h0 : P 0) (h1 : P 1) : ∀ r, r < 2 → P r := fun r hr => by
  have : r = 0 ∨ r = 1 := by omega
  rcases this with rfl | rfl
  · exact h0
  · exact h1
set_option maxRecDepth 100000 in
theorem zc_38 : (zCl 1330 281 1 11 && zCl 1341 282 1 12) = true := by decide +kernel
theorem case2_38 {p : Program} {l : Launch} {e : Env} {s : State} {m : MethodId} {below : List Frame} {meth : Method} {c : Code} {b sa sv : Nat} {D : va_G} {sc : List vAV} (K : lCx p s m meth c b sa sv) (hsc : vScr b sa sv (fun q => s.heap.size ≤ q) s sc) : caseOK p l e s m below meth c b sa sv D Iv2 sc 1323 := pair_case K hsc (k := 1) (by decide) lw_a38 lw_b38 lw_c38 zc_38 pair_image
set_option maxRecDepth 100000 in
theorem zc_39 : (zCl 1355 283 1 11 && zCl 1365 284 1 12) = true := by decide +kernel
theorem case2_39 {p : Program} {l : Launch} {e : Env} {s : State} {m : MethodId} {below : List Frame} {meth : Method} {c : Code} {b sa sv : Nat} {D : va_G} {sc : List vAV} (K : lCx p s m meth c b sa sv) (hsc : vScr b sa sv (fun q => s.heap.size ≤ q) s sc) : caseOK p l e s m below meth c b sa sv D Iv2 sc 1348 := same_case (pc1 := 1355) (pc2 := 1365) K hsc lw_a39 (bit2 lw_b39_0 lw_b39_1) (bit2 lw_c39_0 lw_c39_1) zc_39 same_restore
