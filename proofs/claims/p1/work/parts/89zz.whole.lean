/-! ===== hours, all ===== -/
def vHs : List vAV := vH0 ++ (vH1 ++ (vH2 ++ (vH3 ++ (vH4 ++ (vH5 ++ (vH6 ++ (vH7 ++ (vH8 ++ (vH9 ++ (vH10))))))))))
theorem go_13 : vHs.all (fun c1 => ([vAny] : List vAV).all (fun c2 => vGo [vAny, c1, c2, vAny, vAny, vAny] 727)) = true := by
  unfold vHs
  rw [List.all_append, go_13g_0, List.all_append, go_13g_1, List.all_append, go_13g_2, List.all_append, go_13g_3, List.all_append, go_13g_4, List.all_append, go_13g_5, List.all_append, go_13g_6, List.all_append, go_13g_7, List.all_append, go_13g_8, List.all_append, go_13g_9, go_13g_10]
  rfl
theorem cov_13 : vCov vHs 0 = true := by decide +kernel
theorem whole_start {p : Program} {e : Env} {s : State} {m : MethodId} {below : List Frame} {meth : Method} {c : Code} (l : Launch) (hl9 : l.stackTraces = false) {b L : Nat} {xs : Nat → Int32} (hN : L ≤ 6) (C0 : lw_At p s m meth c b L xs) :
    W p l e room_1 s m #[Value.ref b] below meth c s.heap [] 0 0 (lw_Z below #[Value.ref b] s) (entryFrame m ([Value.ref b] : List Value).toArray 7) :=
  whole_startH l hl9 hN C0 cov_13 cov_38 go_13 go_38
