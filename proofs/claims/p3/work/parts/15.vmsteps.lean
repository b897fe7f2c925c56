/-! ===== a step of the machine is a step of the JVM: locals, numbers, branches ===== -/
theorem kn_lt (x : Int32) : x.toBitVec.toNat < 4294967296 := x.toBitVec.isLt
theorem kn_nIb (x : Int32) : nI x.toBitVec.toNat = x := by
  apply Int32.toBitVec_inj.mp
  apply BitVec.eq_of_toNat_eq
  rw [pk_tn (kn_lt x)]
theorem kn_ne0 {w : Nat} (hw : w < 4294967296) (h : Nat.beq w 0 = false) : ¬ nI w = 0 := fun e => by
  have e2 := congrArg (fun x : Int32 => x.toBitVec.toNat) e
  have e3 : (nI w).toBitVec.toNat = w := pk_tn hw
  have e4 : w = 0 := by
    have e5 : (nI w).toBitVec.toNat = (0 : Int32).toBitVec.toNat := e2
    rw [e3] at e5
    exact e5
  subst e4
  cases h
theorem kl_lt (x : Int64) : x.toBitVec.toNat < 18446744073709551616 := x.toBitVec.isLt
theorem kl_lNb (x : Int64) : lN x.toBitVec.toNat = x := by
  apply Int64.toBitVec_inj.mp
  apply BitVec.eq_of_toNat_eq
  show (BitVec.ofNat 64 x.toBitVec.toNat).toNat = _
  rw [BitVec.toNat_ofNat]
  exact Nat.mod_eq_of_lt (kl_lt x)
theorem kl_ne0 {w : Nat} (hw : w < 18446744073709551616) (h : Nat.beq w 0 = false) : ¬ lN w = 0 := fun e => by
  have e2 := congrArg (fun x : Int64 => x.toBitVec.toNat) e
  have e3 : (lN w).toBitVec.toNat = w := by
    show (BitVec.ofNat 64 w).toNat = _
    rw [BitVec.toNat_ofNat]
    exact Nat.mod_eq_of_lt hw
  have e4 : w = 0 := by
    have e5 : (lN w).toBitVec.toNat = (0 : Int64).toBitVec.toNat := e2
    rw [e3] at e5
    exact e5
  subst e4
  cases h
section VS1
variable {p : Program} {l : Launch} {e : Env} {R : Room} {s : State} {m : MethodId} {args : Array Value} {below : List Frame} {meth : Method} {c : Code} {H : Heap} {locs : List Loc} {cells slots : Nat} {Q : State → Prop}
variable {cc : ByteArray} {pc : Nat} {lsA : Array Slot} {stV : List Value} {D : va_G} {cl : List vw_C} {A : Nat → Prop} {ws : va_W} {tys : List (ClassId × FieldType)}
variable {b sa sv nL : Nat} {ls ls' : vLs} {st st' : List vAV} {hp hp' : List vOb} {pc' : Nat}

theorem vs_iconst (hx : p.tables.exec = Jvm.exec) (hb : c.code = cc) (hW : vW cl D A s b sa sv hp ws tys H locs) (hL : vL b sa sv (vAd ws) nL ls lsA) (hT : vT b sa sv (vAd ws) st stV) {n : Int} {a : Nat} (hdg : decode cc pc = .ok (.iconst n, 1)) (ha : a < 4294967296) (hv : Int32.ofInt n = nI a) (h : (some (pc + 1, ls, .inl a :: st, hp) : vR) = some (pc', ls', st', hp')) (kk : vK p l e R s m args below meth c Q cl D A b sa sv nL ws pc' ls' st' hp' cells slots) : W p l e R s m args below meth c H locs cells slots Q (F0 m pc lsA stV) := by
  cases h
  exact lv_iconst hx hb hdg hv (kk ws tys H locs lsA _ hW hL ⟨⟨ha, rfl⟩, hT⟩ (vSub2.rf _))

theorem vs_bipush (hx : p.tables.exec = Jvm.exec) (hb : c.code = cc) (hW : vW cl D A s b sa sv hp ws tys H locs) (hL : vL b sa sv (vAd ws) nL ls lsA) (hT : vT b sa sv (vAd ws) st stV) {n : Int} {a : Nat} (hdg : decode cc pc = .ok (.bipush n, 2)) (ha : a < 4294967296) (hv : (Int8.ofInt n).toInt32 = nI a) (h : (some (pc + 2, ls, .inl a :: st, hp) : vR) = some (pc', ls', st', hp')) (kk : vK p l e R s m args below meth c Q cl D A b sa sv nL ws pc' ls' st' hp' cells slots) : W p l e R s m args below meth c H locs cells slots Q (F0 m pc lsA stV) := by
  cases h
  exact lv_bipush hx hb hdg hv (kk ws tys H locs lsA _ hW hL ⟨⟨ha, rfl⟩, hT⟩ (vSub2.rf _))

theorem vs_sipush (hx : p.tables.exec = Jvm.exec) (hb : c.code = cc) (hW : vW cl D A s b sa sv hp ws tys H locs) (hL : vL b sa sv (vAd ws) nL ls lsA) (hT : vT b sa sv (vAd ws) st stV) {n : Int} {a : Nat} (hdg : decode cc pc = .ok (.sipush n, 3)) (ha : a < 4294967296) (hv : (Int16.ofInt n).toInt32 = nI a) (h : (some (pc + 3, ls, .inl a :: st, hp) : vR) = some (pc', ls', st', hp')) (kk : vK p l e R s m args below meth c Q cl D A b sa sv nL ws pc' ls' st' hp' cells slots) : W p l e R s m args below meth c H locs cells slots Q (F0 m pc lsA stV) := by
  cases h
  exact lv_sipush hx hb hdg hv (kk ws tys H locs lsA _ hW hL ⟨⟨ha, rfl⟩, hT⟩ (vSub2.rf _))

theorem vs_lconst (hx : p.tables.exec = Jvm.exec) (hb : c.code = cc) (hW : vW cl D A s b sa sv hp ws tys H locs) (hL : vL b sa sv (vAd ws) nL ls lsA) (hT : vT b sa sv (vAd ws) st stV) {n : Fin 2} {a : Nat} (hdg : decode cc pc = .ok (.lconst n, 1)) (ha : a < 18446744073709551616) (hv : Int64.ofNat (n : Nat) = lN a) (h : (some (pc + 1, ls, .inr (.inr (.inl a)) :: st, hp) : vR) = some (pc', ls', st', hp')) (kk : vK p l e R s m args below meth c Q cl D A b sa sv nL ws pc' ls' st' hp' cells slots) : W p l e R s m args below meth c H locs cells slots Q (F0 m pc lsA stV) := by
  cases h
  exact lv_lconst hx hb hdg hv (kk ws tys H locs lsA _ hW hL ⟨⟨ha, rfl⟩, hT⟩ (vSub2.rf _))

theorem vs_ldc (hx : p.tables.exec = Jvm.exec) (hb : c.code = cc) (hW : vW cl D A s b sa sv hp ws tys H locs) (hL : vL b sa sv (vAd ws) nL ls lsA) (hT : vT b sa sv (vAd ws) st stV) {own : String} {index a : Nat} (hown : s.vm.findClass own = some m.cls) (hc : (Jvm.Cond.constant own index (nI a)).before args s = true) (hdg : decode cc pc = .ok (.ldc index, 2)) (ha : a < 4294967296) (h : (some (pc + 2, ls, .inl a :: st, hp) : vR) = some (pc', ls', st', hp')) (kk : vK p l e R s m args below meth c Q cl D A b sa sv nL ws pc' ls' st' hp' cells slots) : W p l e R s m args below meth c H locs cells slots Q (F0 m pc lsA stV) := by
  cases h
  exact lv_ldc hx hb hown hc hdg (kk ws tys H locs lsA _ hW hL ⟨⟨ha, rfl⟩, hT⟩ (vSub2.rf _))

theorem vs_ldc2_w (hx : p.tables.exec = Jvm.exec) (hb : c.code = cc) (hW : vW cl D A s b sa sv hp ws tys H locs) (hL : vL b sa sv (vAd ws) nL ls lsA) (hT : vT b sa sv (vAd ws) st stV) {own : String} {index a : Nat} (hown : s.vm.findClass own = some m.cls) (hc : (Jvm.Cond.constantLong own index (lN a)).before args s = true) (hdg : decode cc pc = .ok (.ldc2_w index, 3)) (ha : a < 18446744073709551616) (h : (some (pc + 3, ls, .inr (.inr (.inl a)) :: st, hp) : vR) = some (pc', ls', st', hp')) (kk : vK p l e R s m args below meth c Q cl D A b sa sv nL ws pc' ls' st' hp' cells slots) : W p l e R s m args below meth c H locs cells slots Q (F0 m pc lsA stV) := by
  cases h
  exact lv_ldc2 hx hb hown hc hdg (kk ws tys H locs lsA _ hW hL ⟨⟨ha, rfl⟩, hT⟩ (vSub2.rf _))

theorem vs_iload_n (hx : p.tables.exec = Jvm.exec) (hb : c.code = cc) (hW : vW cl D A s b sa sv hp ws tys H locs) (hL : vL b sa sv (vAd ws) nL ls lsA) (hT : vT b sa sv (vAd ws) st stV) {k : Fin 4} {a : Nat} (hdg : decode cc pc = .ok (.iload_n k, 1)) (hk : (k : Nat) = a) (h : vLd 0 a (pc + 1) ls st hp = some (pc', ls', st', hp')) (kk : vK p l e R s m args below meth c Q cl D A b sa sv nL ws pc' ls' st' hp' cells slots) : W p l e R s m args below meth c H locs cells slots Q (F0 m pc lsA stV) := by
  obtain ⟨v, h1, h2, rfl, rfl, rfl, rfl⟩ := vLd_ok h
  obtain ⟨x, q1, q2⟩ := vL_at hL h1
  obtain ⟨X, rfl⟩ := vKd0 q2 h2
  exact lv_iload_n hx hb hdg hk q1 (kk ws tys H locs lsA _ hW hL ⟨q2, hT⟩ (vSub2.rf _))

theorem vs_iload (hx : p.tables.exec = Jvm.exec) (hb : c.code = cc) (hW : vW cl D A s b sa sv hp ws tys H locs) (hL : vL b sa sv (vAd ws) nL ls lsA) (hT : vT b sa sv (vAd ws) st stV) {a : Nat} (hdg : decode cc pc = .ok (.iload a, 2)) (h : vLd 0 a (pc + 2) ls st hp = some (pc', ls', st', hp')) (kk : vK p l e R s m args below meth c Q cl D A b sa sv nL ws pc' ls' st' hp' cells slots) : W p l e R s m args below meth c H locs cells slots Q (F0 m pc lsA stV) := by
  obtain ⟨v, h1, h2, rfl, rfl, rfl, rfl⟩ := vLd_ok h
  obtain ⟨x, q1, q2⟩ := vL_at hL h1
  obtain ⟨X, rfl⟩ := vKd0 q2 h2
  exact lv_iload hx hb hdg q1 (kk ws tys H locs lsA _ hW hL ⟨q2, hT⟩ (vSub2.rf _))

theorem vs_lload_n (hx : p.tables.exec = Jvm.exec) (hb : c.code = cc) (hW : vW cl D A s b sa sv hp ws tys H locs) (hL : vL b sa sv (vAd ws) nL ls lsA) (hT : vT b sa sv (vAd ws) st stV) {k : Fin 4} {a : Nat} (hdg : decode cc pc = .ok (.lload_n k, 1)) (hk : (k : Nat) = a) (h : vLd 1 a (pc + 1) ls st hp = some (pc', ls', st', hp')) (kk : vK p l e R s m args below meth c Q cl D A b sa sv nL ws pc' ls' st' hp' cells slots) : W p l e R s m args below meth c H locs cells slots Q (F0 m pc lsA stV) := by
  obtain ⟨v, h1, h2, rfl, rfl, rfl, rfl⟩ := vLd_ok h
  obtain ⟨x, q1, q2⟩ := vL_at hL h1
  obtain ⟨X, rfl⟩ := vKd1 q2 h2
  exact lv_lload_n hx hb hdg hk q1 (kk ws tys H locs lsA _ hW hL ⟨q2, hT⟩ (vSub2.rf _))

theorem vs_lload (hx : p.tables.exec = Jvm.exec) (hb : c.code = cc) (hW : vW cl D A s b sa sv hp ws tys H locs) (hL : vL b sa sv (vAd ws) nL ls lsA) (hT : vT b sa sv (vAd ws) st stV) {a : Nat} (hdg : decode cc pc = .ok (.lload a, 2)) (h : vLd 1 a (pc + 2) ls st hp = some (pc', ls', st', hp')) (kk : vK p l e R s m args below meth c Q cl D A b sa sv nL ws pc' ls' st' hp' cells slots) : W p l e R s m args below meth c H locs cells slots Q (F0 m pc lsA stV) := by
  obtain ⟨v, h1, h2, rfl, rfl, rfl, rfl⟩ := vLd_ok h
  obtain ⟨x, q1, q2⟩ := vL_at hL h1
  obtain ⟨X, rfl⟩ := vKd1 q2 h2
  exact lv_lload hx hb hdg q1 (kk ws tys H locs lsA _ hW hL ⟨q2, hT⟩ (vSub2.rf _))

theorem vs_aload_n (hx : p.tables.exec = Jvm.exec) (hb : c.code = cc) (hW : vW cl D A s b sa sv hp ws tys H locs) (hL : vL b sa sv (vAd ws) nL ls lsA) (hT : vT b sa sv (vAd ws) st stV) {k : Fin 4} {a : Nat} (hdg : decode cc pc = .ok (.aload_n k, 1)) (hk : (k : Nat) = a) (h : vLd 3 a (pc + 1) ls st hp = some (pc', ls', st', hp')) (kk : vK p l e R s m args below meth c Q cl D A b sa sv nL ws pc' ls' st' hp' cells slots) : W p l e R s m args below meth c H locs cells slots Q (F0 m pc lsA stV) := by
  obtain ⟨v, h1, h2, rfl, rfl, rfl, rfl⟩ := vLd_ok h
  obtain ⟨x, q1, q2⟩ := vL_at hL h1
  obtain ⟨X, rfl⟩ := vKd3 q2 h2
  exact lv_aload_n hx hb hdg hk q1 (kk ws tys H locs lsA _ hW hL ⟨q2, hT⟩ (vSub2.rf _))

theorem vs_aload (hx : p.tables.exec = Jvm.exec) (hb : c.code = cc) (hW : vW cl D A s b sa sv hp ws tys H locs) (hL : vL b sa sv (vAd ws) nL ls lsA) (hT : vT b sa sv (vAd ws) st stV) {a : Nat} (hdg : decode cc pc = .ok (.aload a, 2)) (h : vLd 3 a (pc + 2) ls st hp = some (pc', ls', st', hp')) (kk : vK p l e R s m args below meth c Q cl D A b sa sv nL ws pc' ls' st' hp' cells slots) : W p l e R s m args below meth c H locs cells slots Q (F0 m pc lsA stV) := by
  obtain ⟨v, h1, h2, rfl, rfl, rfl, rfl⟩ := vLd_ok h
  obtain ⟨x, q1, q2⟩ := vL_at hL h1
  obtain ⟨X, rfl⟩ := vKd3 q2 h2
  exact lv_aload hx hb hdg q1 (kk ws tys H locs lsA _ hW hL ⟨q2, hT⟩ (vSub2.rf _))

theorem vs_istore_n (hx : p.tables.exec = Jvm.exec) (hb : c.code = cc) (hW : vW cl D A s b sa sv hp ws tys H locs) (hL : vL b sa sv (vAd ws) nL ls lsA) (hT : vT b sa sv (vAd ws) st stV) {k : Fin 4} {a : Nat} (hdg : decode cc pc = .ok (.istore_n k, 1)) (hk : (k : Nat) = a) (h : vSt1 0 a (pc + 1) ls st hp = some (pc', ls', st', hp')) (kk : vK p l e R s m args below meth c Q cl D A b sa sv nL ws pc' ls' st' hp' cells slots) : W p l e R s m args below meth c H locs cells slots Q (F0 m pc lsA stV) := by
  obtain ⟨v, rfl, h2, h3, rfl, rfl, rfl⟩ := vSt1_ok h
  match stV, hT with
  | x :: stV, hT =>
    obtain ⟨X, rfl⟩ := vKd0 hT.1 h2
    obtain ⟨lv, q1, q2, q3⟩ := hL
    exact lv_istore_n hx hb hdg hk q1 (by omega) rfl (fun lsB hB => kk ws tys H locs lsB stV hW (vL_st1 q2 q3 hT.1 (by omega) hB) hT.2 (vSub2.rf _))

theorem vs_istore (hx : p.tables.exec = Jvm.exec) (hb : c.code = cc) (hW : vW cl D A s b sa sv hp ws tys H locs) (hL : vL b sa sv (vAd ws) nL ls lsA) (hT : vT b sa sv (vAd ws) st stV) {a : Nat} (hdg : decode cc pc = .ok (.istore a, 2)) (h : vSt1 0 a (pc + 2) ls st hp = some (pc', ls', st', hp')) (kk : vK p l e R s m args below meth c Q cl D A b sa sv nL ws pc' ls' st' hp' cells slots) : W p l e R s m args below meth c H locs cells slots Q (F0 m pc lsA stV) := by
  obtain ⟨v, rfl, h2, h3, rfl, rfl, rfl⟩ := vSt1_ok h
  match stV, hT with
  | x :: stV, hT =>
    obtain ⟨X, rfl⟩ := vKd0 hT.1 h2
    obtain ⟨lv, q1, q2, q3⟩ := hL
    exact lv_istore hx hb hdg q1 (by omega) rfl (fun lsB hB => kk ws tys H locs lsB stV hW (vL_st1 q2 q3 hT.1 (by omega) hB) hT.2 (vSub2.rf _))

theorem vs_astore_n (hx : p.tables.exec = Jvm.exec) (hb : c.code = cc) (hW : vW cl D A s b sa sv hp ws tys H locs) (hL : vL b sa sv (vAd ws) nL ls lsA) (hT : vT b sa sv (vAd ws) st stV) {k : Fin 4} {a : Nat} (hdg : decode cc pc = .ok (.astore_n k, 1)) (hk : (k : Nat) = a) (h : vSt1 3 a (pc + 1) ls st hp = some (pc', ls', st', hp')) (kk : vK p l e R s m args below meth c Q cl D A b sa sv nL ws pc' ls' st' hp' cells slots) : W p l e R s m args below meth c H locs cells slots Q (F0 m pc lsA stV) := by
  obtain ⟨v, rfl, h2, h3, rfl, rfl, rfl⟩ := vSt1_ok h
  match stV, hT with
  | x :: stV, hT =>
    obtain ⟨X, rfl⟩ := vKd3 hT.1 h2
    obtain ⟨lv, q1, q2, q3⟩ := hL
    exact lv_astore_n hx hb hdg hk q1 (by omega) rfl (fun lsB hB => kk ws tys H locs lsB stV hW (vL_st1 q2 q3 hT.1 (by omega) hB) hT.2 (vSub2.rf _))

theorem vs_astore (hx : p.tables.exec = Jvm.exec) (hb : c.code = cc) (hW : vW cl D A s b sa sv hp ws tys H locs) (hL : vL b sa sv (vAd ws) nL ls lsA) (hT : vT b sa sv (vAd ws) st stV) {a : Nat} (hdg : decode cc pc = .ok (.astore a, 2)) (h : vSt1 3 a (pc + 2) ls st hp = some (pc', ls', st', hp')) (kk : vK p l e R s m args below meth c Q cl D A b sa sv nL ws pc' ls' st' hp' cells slots) : W p l e R s m args below meth c H locs cells slots Q (F0 m pc lsA stV) := by
  obtain ⟨v, rfl, h2, h3, rfl, rfl, rfl⟩ := vSt1_ok h
  match stV, hT with
  | x :: stV, hT =>
    obtain ⟨X, rfl⟩ := vKd3 hT.1 h2
    obtain ⟨lv, q1, q2, q3⟩ := hL
    exact lv_astore hx hb hdg q1 (by omega) rfl (fun lsB hB => kk ws tys H locs lsB stV hW (vL_st1 q2 q3 hT.1 (by omega) hB) hT.2 (vSub2.rf _))

theorem vs_lstore_n (hx : p.tables.exec = Jvm.exec) (hb : c.code = cc) (hW : vW cl D A s b sa sv hp ws tys H locs) (hL : vL b sa sv (vAd ws) nL ls lsA) (hT : vT b sa sv (vAd ws) st stV) {k : Fin 4} {a : Nat} (hdg : decode cc pc = .ok (.lstore_n k, 1)) (hk : (k : Nat) = a) (h : vSt2 a (pc + 1) ls st hp = some (pc', ls', st', hp')) (kk : vK p l e R s m args below meth c Q cl D A b sa sv nL ws pc' ls' st' hp' cells slots) : W p l e R s m args below meth c H locs cells slots Q (F0 m pc lsA stV) := by
  obtain ⟨v, rfl, h2, h3, rfl, rfl, rfl⟩ := vSt2_ok h
  match stV, hT with
  | x :: stV, hT =>
    obtain ⟨X, rfl⟩ := vKd1 hT.1 h2
    obtain ⟨lv, q1, q2, q3⟩ := hL
    exact lv_lstore_n hx hb hdg hk q1 (by omega) rfl (fun lsB hB => kk ws tys H locs lsB stV hW (vL_st2 q2 q3 hT.1 (by omega) hB) hT.2 (vSub2.rf _))

theorem vs_lstore (hx : p.tables.exec = Jvm.exec) (hb : c.code = cc) (hW : vW cl D A s b sa sv hp ws tys H locs) (hL : vL b sa sv (vAd ws) nL ls lsA) (hT : vT b sa sv (vAd ws) st stV) {a : Nat} (hdg : decode cc pc = .ok (.lstore a, 2)) (h : vSt2 a (pc + 2) ls st hp = some (pc', ls', st', hp')) (kk : vK p l e R s m args below meth c Q cl D A b sa sv nL ws pc' ls' st' hp' cells slots) : W p l e R s m args below meth c H locs cells slots Q (F0 m pc lsA stV) := by
  obtain ⟨v, rfl, h2, h3, rfl, rfl, rfl⟩ := vSt2_ok h
  match stV, hT with
  | x :: stV, hT =>
    obtain ⟨X, rfl⟩ := vKd1 hT.1 h2
    obtain ⟨lv, q1, q2, q3⟩ := hL
    exact lv_lstore hx hb hdg q1 (by omega) rfl (fun lsB hB => kk ws tys H locs lsB stV hW (vL_st2 q2 q3 hT.1 (by omega) hB) hT.2 (vSub2.rf _))

theorem vs_iinc (hx : p.tables.exec = Jvm.exec) (hb : c.code = cc) (hW : vW cl D A s b sa sv hp ws tys H locs) (hL : vL b sa sv (vAd ws) nL ls lsA) (hT : vT b sa sv (vAd ws) st stV) {n : Int} {a b1 : Nat} (hdg : decode cc pc = .ok (.iinc a n, 3)) (hb1 : b1 < 4294967296) (hn : Int32.ofInt n = nI b1) (h : vInc a b1 (pc + 3) ls st hp = some (pc', ls', st', hp')) (kk : vK p l e R s m args below meth c Q cl D A b sa sv nL ws pc' ls' st' hp' cells slots) : W p l e R s m args below meth c H locs cells slots Q (F0 m pc lsA stV) := by
  unfold vInc at h
  split at h
  · next v hv =>
    rw [vNth_eq] at hv
    split at h
    · next r hr =>
      cases h
      obtain ⟨lv, q1, q2, q3⟩ := hL
      obtain ⟨w, q4, q5⟩ := q3 a v hv
      obtain ⟨⟨X, rfl⟩, -⟩ := vB_ints q5 (show vG b sa sv (vAd ws) (.inl b1) (.int (nI b1)) from ⟨hb1, rfl⟩) hr
      have q6 := vB_ok (f := fun x y => x + y) (fun u w hu hw => ⟨Nat.mod_lt _ (by decide), vn_add⟩) q5 (show vG b sa sv (vAd ws) (.inl b1) (.int (nI b1)) from ⟨hb1, rfl⟩) hr
      obtain ⟨k, hk⟩ := List.getElem?_of_mem q4
      have ha : a < ls.length := (List.getElem?_eq_some_iff.mp hv).1
      exact lv_iinc hx hb hdg q1 hk (by rw [hn]) (by omega) rfl (fun lsB hB => kk ws tys H locs lsB stV hW (vL_st1 q2 q3 q6 (by omega) hB) hT (vSub2.rf _))
    · cases h
  · cases h

theorem vs_iadd (hx : p.tables.exec = Jvm.exec) (hb : c.code = cc) (hW : vW cl D A s b sa sv hp ws tys H locs) (hL : vL b sa sv (vAd ws) nL ls lsA) (hT : vT b sa sv (vAd ws) st stV) (hdg : decode cc pc = .ok (.iadd, 1)) (h : v2 vAdd (pc + 1) ls st hp = some (pc', ls', st', hp')) (kk : vK p l e R s m args below meth c Q cl D A b sa sv nL ws pc' ls' st' hp' cells slots) : W p l e R s m args below meth c H locs cells slots Q (F0 m pc lsA stV) := by
  obtain ⟨x, y, r, st0, rfl, hr, rfl, rfl, rfl, rfl⟩ := v2_ok h
  match stV, hT with
  | v :: [], hT => exact hT.2.elim
  | v :: w :: stV, hT =>
    obtain ⟨hy, hx1, hT⟩ := hT
    obtain ⟨⟨X, rfl⟩, Y, rfl⟩ := vB_ints hx1 hy hr
    have q6 := vB_ok (f := fun x y : Int32 => x + y) (fun u w hu hw => ⟨Nat.mod_lt _ (by decide), vn_add⟩) hx1 hy hr
    exact lv_iadd hx hb hdg (kk ws tys H locs lsA _ hW hL ⟨q6, hT⟩ (vSub2.rf _))

theorem vs_isub (hx : p.tables.exec = Jvm.exec) (hb : c.code = cc) (hW : vW cl D A s b sa sv hp ws tys H locs) (hL : vL b sa sv (vAd ws) nL ls lsA) (hT : vT b sa sv (vAd ws) st stV) (hdg : decode cc pc = .ok (.isub, 1)) (h : v2 vSub (pc + 1) ls st hp = some (pc', ls', st', hp')) (kk : vK p l e R s m args below meth c Q cl D A b sa sv nL ws pc' ls' st' hp' cells slots) : W p l e R s m args below meth c H locs cells slots Q (F0 m pc lsA stV) := by
  obtain ⟨x, y, r, st0, rfl, hr, rfl, rfl, rfl, rfl⟩ := v2_ok h
  match stV, hT with
  | v :: [], hT => exact hT.2.elim
  | v :: w :: stV, hT =>
    obtain ⟨hy, hx1, hT⟩ := hT
    obtain ⟨⟨X, rfl⟩, Y, rfl⟩ := vB_ints hx1 hy hr
    have q6 := vB_ok (f := fun x y : Int32 => x - y) (fun u w hu hw => ⟨Nat.mod_lt _ (by decide), vn_sub hu hw⟩) hx1 hy hr
    exact lv_isub hx hb hdg (kk ws tys H locs lsA _ hW hL ⟨q6, hT⟩ (vSub2.rf _))

theorem vs_imul (hx : p.tables.exec = Jvm.exec) (hb : c.code = cc) (hW : vW cl D A s b sa sv hp ws tys H locs) (hL : vL b sa sv (vAd ws) nL ls lsA) (hT : vT b sa sv (vAd ws) st stV) (hdg : decode cc pc = .ok (.imul, 1)) (h : v2 vMul (pc + 1) ls st hp = some (pc', ls', st', hp')) (kk : vK p l e R s m args below meth c Q cl D A b sa sv nL ws pc' ls' st' hp' cells slots) : W p l e R s m args below meth c H locs cells slots Q (F0 m pc lsA stV) := by
  obtain ⟨x, y, r, st0, rfl, hr, rfl, rfl, rfl, rfl⟩ := v2_ok h
  match stV, hT with
  | v :: [], hT => exact hT.2.elim
  | v :: w :: stV, hT =>
    obtain ⟨hy, hx1, hT⟩ := hT
    obtain ⟨⟨X, rfl⟩, Y, rfl⟩ := vB_ints hx1 hy hr
    have q6 := vB_ok (f := fun x y : Int32 => x * y) (fun u w hu hw => ⟨Nat.mod_lt _ (by decide), vn_mul⟩) hx1 hy hr
    exact lv_imul hx hb hdg (kk ws tys H locs lsA _ hW hL ⟨q6, hT⟩ (vSub2.rf _))

theorem vs_iand (hx : p.tables.exec = Jvm.exec) (hb : c.code = cc) (hW : vW cl D A s b sa sv hp ws tys H locs) (hL : vL b sa sv (vAd ws) nL ls lsA) (hT : vT b sa sv (vAd ws) st stV) (hdg : decode cc pc = .ok (.iand, 1)) (h : v2 Nat.land (pc + 1) ls st hp = some (pc', ls', st', hp')) (kk : vK p l e R s m args below meth c Q cl D A b sa sv nL ws pc' ls' st' hp' cells slots) : W p l e R s m args below meth c H locs cells slots Q (F0 m pc lsA stV) := by
  obtain ⟨x, y, r, st0, rfl, hr, rfl, rfl, rfl, rfl⟩ := v2_ok h
  match stV, hT with
  | v :: [], hT => exact hT.2.elim
  | v :: w :: stV, hT =>
    obtain ⟨hy, hx1, hT⟩ := hT
    obtain ⟨⟨X, rfl⟩, Y, rfl⟩ := vB_ints hx1 hy hr
    have q6 := vB_ok (f := fun x y : Int32 => x &&& y) (fun u w hu hw => ⟨Nat.and_lt_two_pow (n := 32) u hw, vn_and hu hw⟩) hx1 hy hr
    exact lv_iand hx hb hdg (kk ws tys H locs lsA _ hW hL ⟨q6, hT⟩ (vSub2.rf _))

theorem vs_ior (hx : p.tables.exec = Jvm.exec) (hb : c.code = cc) (hW : vW cl D A s b sa sv hp ws tys H locs) (hL : vL b sa sv (vAd ws) nL ls lsA) (hT : vT b sa sv (vAd ws) st stV) (hdg : decode cc pc = .ok (.ior, 1)) (h : v2 Nat.lor (pc + 1) ls st hp = some (pc', ls', st', hp')) (kk : vK p l e R s m args below meth c Q cl D A b sa sv nL ws pc' ls' st' hp' cells slots) : W p l e R s m args below meth c H locs cells slots Q (F0 m pc lsA stV) := by
  obtain ⟨x, y, r, st0, rfl, hr, rfl, rfl, rfl, rfl⟩ := v2_ok h
  match stV, hT with
  | v :: [], hT => exact hT.2.elim
  | v :: w :: stV, hT =>
    obtain ⟨hy, hx1, hT⟩ := hT
    obtain ⟨⟨X, rfl⟩, Y, rfl⟩ := vB_ints hx1 hy hr
    have q6 := vB_ok (f := fun x y : Int32 => x ||| y) (fun u w hu hw => ⟨Nat.or_lt_two_pow (n := 32) hu hw, vn_or hu hw⟩) hx1 hy hr
    exact lv_ior hx hb hdg (kk ws tys H locs lsA _ hW hL ⟨q6, hT⟩ (vSub2.rf _))

theorem vs_ixor (hx : p.tables.exec = Jvm.exec) (hb : c.code = cc) (hW : vW cl D A s b sa sv hp ws tys H locs) (hL : vL b sa sv (vAd ws) nL ls lsA) (hT : vT b sa sv (vAd ws) st stV) (hdg : decode cc pc = .ok (.ixor, 1)) (h : v2 Nat.xor (pc + 1) ls st hp = some (pc', ls', st', hp')) (kk : vK p l e R s m args below meth c Q cl D A b sa sv nL ws pc' ls' st' hp' cells slots) : W p l e R s m args below meth c H locs cells slots Q (F0 m pc lsA stV) := by
  obtain ⟨x, y, r, st0, rfl, hr, rfl, rfl, rfl, rfl⟩ := v2_ok h
  match stV, hT with
  | v :: [], hT => exact hT.2.elim
  | v :: w :: stV, hT =>
    obtain ⟨hy, hx1, hT⟩ := hT
    obtain ⟨⟨X, rfl⟩, Y, rfl⟩ := vB_ints hx1 hy hr
    have q6 := vB_ok (f := fun x y : Int32 => x ^^^ y) (fun u w hu hw => ⟨Nat.xor_lt_two_pow (n := 32) hu hw, vn_xor hu hw⟩) hx1 hy hr
    exact lv_ixor hx hb hdg (kk ws tys H locs lsA _ hW hL ⟨q6, hT⟩ (vSub2.rf _))

theorem vs_ishl (hx : p.tables.exec = Jvm.exec) (hb : c.code = cc) (hW : vW cl D A s b sa sv hp ws tys H locs) (hL : vL b sa sv (vAd ws) nL ls lsA) (hT : vT b sa sv (vAd ws) st stV) (hdg : decode cc pc = .ok (.ishl, 1)) (h : v2 vShl (pc + 1) ls st hp = some (pc', ls', st', hp')) (kk : vK p l e R s m args below meth c Q cl D A b sa sv nL ws pc' ls' st' hp' cells slots) : W p l e R s m args below meth c H locs cells slots Q (F0 m pc lsA stV) := by
  obtain ⟨x, y, r, st0, rfl, hr, rfl, rfl, rfl, rfl⟩ := v2_ok h
  match stV, hT with
  | v :: [], hT => exact hT.2.elim
  | v :: w :: stV, hT =>
    obtain ⟨hy, hx1, hT⟩ := hT
    obtain ⟨⟨X, rfl⟩, Y, rfl⟩ := vB_ints hx1 hy hr
    have q6 := vB_ok (f := fun x y : Int32 => x <<< (y &&& 31)) (fun u w hu hw => ⟨Nat.mod_lt _ (by decide), vn_shl hu hw⟩) hx1 hy hr
    exact lv_ishl hx hb hdg (kk ws tys H locs lsA _ hW hL ⟨q6, hT⟩ (vSub2.rf _))

theorem vs_iushr (hx : p.tables.exec = Jvm.exec) (hb : c.code = cc) (hW : vW cl D A s b sa sv hp ws tys H locs) (hL : vL b sa sv (vAd ws) nL ls lsA) (hT : vT b sa sv (vAd ws) st stV) (hdg : decode cc pc = .ok (.iushr, 1)) (h : v2 vUsh (pc + 1) ls st hp = some (pc', ls', st', hp')) (kk : vK p l e R s m args below meth c Q cl D A b sa sv nL ws pc' ls' st' hp' cells slots) : W p l e R s m args below meth c H locs cells slots Q (F0 m pc lsA stV) := by
  obtain ⟨x, y, r, st0, rfl, hr, rfl, rfl, rfl, rfl⟩ := v2_ok h
  match stV, hT with
  | v :: [], hT => exact hT.2.elim
  | v :: w :: stV, hT =>
    obtain ⟨hy, hx1, hT⟩ := hT
    obtain ⟨⟨X, rfl⟩, Y, rfl⟩ := vB_ints hx1 hy hr
    have q6 := vB_ok (f := fun x y : Int32 => (x.toUInt32 >>> (y.toUInt32 &&& Int32.toUInt32 31)).toInt32) (fun u w hu hw => ⟨Nat.lt_of_le_of_lt (Nat.div_le_self _ _) hu, vn_ush hu hw⟩) hx1 hy hr
    exact lv_iushr hx hb hdg rfl (kk ws tys H locs lsA _ hW hL ⟨q6, hT⟩ (vSub2.rf _))

theorem vs_idiv (hx : p.tables.exec = Jvm.exec) (hb : c.code = cc) (hW : vW cl D A s b sa sv hp ws tys H locs) (hL : vL b sa sv (vAd ws) nL ls lsA) (hT : vT b sa sv (vAd ws) st stV) (hdg : decode cc pc = .ok (.idiv, 1)) (h : v2d Nat.div kDiv (pc + 1) ls st hp = some (pc', ls', st', hp')) (kk : vK p l e R s m args below meth c Q cl D A b sa sv nL ws pc' ls' st' hp' cells slots) : W p l e R s m args below meth c H locs cells slots Q (F0 m pc lsA stV) := by
  unfold v2d at h
  split at h
  · next w u st0 =>
    match stV, hT with
    | v :: [], hT => exact hT.2.elim
    | v :: v2 :: stV, hT =>
      obtain ⟨⟨hw9, rfl⟩, ⟨hu9, rfl⟩, hT⟩ := hT
      cases hk : (Nat.blt u 2147483648 && Nat.blt w 2147483648 && Nat.blt 0 w) with
      | false =>
        rw [hk, cond_false] at h
        cases h0 : Nat.beq w 0 with
        | true => rw [h0] at h; cases h
        | false =>
          rw [h0, cond_false] at h
          cases h
          refine lv_idiv hx hb hdg (kn_ne0 hw9 h0) ?_
          exact kk ws tys H locs lsA _ hW hL ⟨⟨kn_lt _, congrArg Value.int (kn_nIb _).symm⟩, hT⟩ (vSub2.rf _)
      | true =>
        rw [hk, cond_true, vF_eq] at h
        cases h
        rw [Bool.and_eq_true, Bool.and_eq_true] at hk
        have hu : u < 2 ^ 31 := Nat.blt_eq.mp hk.1.1
        have hw : w < 2 ^ 31 := Nat.blt_eq.mp hk.1.2
        have hw0 : 0 < w := Nat.blt_eq.mp hk.2
        refine lv_idiv hx hb hdg (nI_ne0 hw0 hw) ?_
        rw [pk_div hu hw0 hw]
        exact kk ws tys H locs lsA _ hW hL ⟨⟨Nat.lt_of_le_of_lt (Nat.div_le_self _ _) (by omega), rfl⟩, hT⟩ (vSub2.rf _)
  · cases h

theorem vs_irem (hx : p.tables.exec = Jvm.exec) (hb : c.code = cc) (hW : vW cl D A s b sa sv hp ws tys H locs) (hL : vL b sa sv (vAd ws) nL ls lsA) (hT : vT b sa sv (vAd ws) st stV) (hdg : decode cc pc = .ok (.irem, 1)) (h : v2d Nat.mod kRem (pc + 1) ls st hp = some (pc', ls', st', hp')) (kk : vK p l e R s m args below meth c Q cl D A b sa sv nL ws pc' ls' st' hp' cells slots) : W p l e R s m args below meth c H locs cells slots Q (F0 m pc lsA stV) := by
  unfold v2d at h
  split at h
  · next w u st0 =>
    match stV, hT with
    | v :: [], hT => exact hT.2.elim
    | v :: v2 :: stV, hT =>
      obtain ⟨⟨hw9, rfl⟩, ⟨hu9, rfl⟩, hT⟩ := hT
      cases hk : (Nat.blt u 2147483648 && Nat.blt w 2147483648 && Nat.blt 0 w) with
      | false =>
        rw [hk, cond_false] at h
        cases h0 : Nat.beq w 0 with
        | true => rw [h0] at h; cases h
        | false =>
          rw [h0, cond_false] at h
          cases h
          refine lv_irem hx hb hdg (kn_ne0 hw9 h0) ?_
          exact kk ws tys H locs lsA _ hW hL ⟨⟨kn_lt _, congrArg Value.int (kn_nIb _).symm⟩, hT⟩ (vSub2.rf _)
      | true =>
        rw [hk, cond_true, vF_eq] at h
        cases h
        rw [Bool.and_eq_true, Bool.and_eq_true] at hk
        have hu : u < 2 ^ 31 := Nat.blt_eq.mp hk.1.1
        have hw : w < 2 ^ 31 := Nat.blt_eq.mp hk.1.2
        have hw0 : 0 < w := Nat.blt_eq.mp hk.2
        refine lv_irem hx hb hdg (nI_ne0 hw0 hw) ?_
        rw [pk_rem hu hw0 hw]
        exact kk ws tys H locs lsA _ hW hL ⟨⟨Nat.lt_of_le_of_lt (Nat.mod_le _ _) (by omega), rfl⟩, hT⟩ (vSub2.rf _)
  · cases h

theorem vs_goto (hx : p.tables.exec = Jvm.exec) (hb : c.code = cc) (hW : vW cl D A s b sa sv hp ws tys H locs) (hL : vL b sa sv (vAd ws) nL ls lsA) (hT : vT b sa sv (vAd ws) st stV) {off : Int} {a : Nat} (hdg : decode cc pc = .ok (.goto off, 3)) (ht : (pc : Int) + off = (a : Int)) (h : (some (a, ls, st, hp) : vR) = some (pc', ls', st', hp')) (kk : vK p l e R s m args below meth c Q cl D A b sa sv nL ws pc' ls' st' hp' cells slots) : W p l e R s m args below meth c H locs cells slots Q (F0 m pc lsA stV) := by
  cases h
  exact lv_goto hx hb hdg ht (kk ws tys H locs lsA stV hW hL hT (vSub2.rf _))

theorem vs_if_eq (hx : p.tables.exec = Jvm.exec) (hb : c.code = cc) (hW : vW cl D A s b sa sv hp ws tys H locs) (hL : vL b sa sv (vAd ws) nL ls lsA) (hT : vT b sa sv (vAd ws) st stV) {off : Int} {a : Nat} (hdg : decode cc pc = .ok (.ifCond .eq off, 3)) (ht : (pc : Int) + off = (a : Int)) (h : vIf vEq (pc + 3) a ls st hp = some (pc', ls', st', hp')) (kk : vK p l e R s m args below meth c Q cl D A b sa sv nL ws pc' ls' st' hp' cells slots) : W p l e R s m args below meth c H locs cells slots Q (F0 m pc lsA stV) := by
  obtain ⟨x, q, rfl, hq, rfl, rfl, hf⟩ := vIf_ok h
  match stV, hT with
  | v :: stV, hT =>
    obtain ⟨hx1, hT⟩ := hT
    obtain ⟨X, rfl, x1, x2⟩ := vIv_ok hx1 hq
    have z0 : (0 : Int32).toInt = 0 := rfl
    have K := kk ws tys H locs lsA stV hW hL hT (vSub2.rf _)
    rcases hf with ⟨hf, rfl⟩ | ⟨hf, rfl⟩
    · have hf := vEq_t hf
      have hc : X = 0 := by
        rw [← Int32.toInt_inj]
        simp only [z0] at *
        omega
      exact lv_if_eq hx hb hdg ht (fun _ => K) (fun z => absurd hc z)
    · have hf := vEq_f hf
      have hc : ¬ X = 0 := by
        intro z
        rw [← Int32.toInt_inj] at z
        simp only [z0] at *
        omega
      exact lv_if_eq hx hb hdg ht (fun z => absurd z hc) (fun _ => K)

theorem vs_if_ne (hx : p.tables.exec = Jvm.exec) (hb : c.code = cc) (hW : vW cl D A s b sa sv hp ws tys H locs) (hL : vL b sa sv (vAd ws) nL ls lsA) (hT : vT b sa sv (vAd ws) st stV) {off : Int} {a : Nat} (hdg : decode cc pc = .ok (.ifCond .ne off, 3)) (ht : (pc : Int) + off = (a : Int)) (h : vIf (fun x y => vNot (vEq x y)) (pc + 3) a ls st hp = some (pc', ls', st', hp')) (kk : vK p l e R s m args below meth c Q cl D A b sa sv nL ws pc' ls' st' hp' cells slots) : W p l e R s m args below meth c H locs cells slots Q (F0 m pc lsA stV) := by
  obtain ⟨x, q, rfl, hq, rfl, rfl, hf⟩ := vIf_ok h
  match stV, hT with
  | v :: stV, hT =>
    obtain ⟨hx1, hT⟩ := hT
    obtain ⟨X, rfl, x1, x2⟩ := vIv_ok hx1 hq
    have z0 : (0 : Int32).toInt = 0 := rfl
    have K := kk ws tys H locs lsA stV hW hL hT (vSub2.rf _)
    rcases hf with ⟨hf, rfl⟩ | ⟨hf, rfl⟩
    · have hf := vEq_f (vNot_t hf)
      have hc : ¬ X = 0 := by
        intro z
        rw [← Int32.toInt_inj] at z
        simp only [z0] at *
        omega
      exact lv_if_ne hx hb hdg ht (fun _ => K) (fun z => absurd z hc)
    · have hf := vEq_t (vNot_f hf)
      have hc : X = 0 := by
        rw [← Int32.toInt_inj]
        simp only [z0] at *
        omega
      exact lv_if_ne hx hb hdg ht (fun z => absurd hc z) (fun _ => K)

theorem vs_if_lt (hx : p.tables.exec = Jvm.exec) (hb : c.code = cc) (hW : vW cl D A s b sa sv hp ws tys H locs) (hL : vL b sa sv (vAd ws) nL ls lsA) (hT : vT b sa sv (vAd ws) st stV) {off : Int} {a : Nat} (hdg : decode cc pc = .ok (.ifCond .lt off, 3)) (ht : (pc : Int) + off = (a : Int)) (h : vIf vLt (pc + 3) a ls st hp = some (pc', ls', st', hp')) (kk : vK p l e R s m args below meth c Q cl D A b sa sv nL ws pc' ls' st' hp' cells slots) : W p l e R s m args below meth c H locs cells slots Q (F0 m pc lsA stV) := by
  obtain ⟨x, q, rfl, hq, rfl, rfl, hf⟩ := vIf_ok h
  match stV, hT with
  | v :: stV, hT =>
    obtain ⟨hx1, hT⟩ := hT
    obtain ⟨X, rfl, x1, x2⟩ := vIv_ok hx1 hq
    have z0 : (0 : Int32).toInt = 0 := rfl
    have K := kk ws tys H locs lsA stV hW hL hT (vSub2.rf _)
    rcases hf with ⟨hf, rfl⟩ | ⟨hf, rfl⟩
    · have hf := vLt_t hf
      have hc : X < 0 := by
        rw [Int32.lt_iff_toInt_lt]
        simp only [z0] at *
        omega
      exact lv_if_lt hx hb hdg ht (fun _ => K) (fun z => absurd hc z)
    · have hf := vLt_f hf
      have hc : ¬ X < 0 := by
        intro z
        rw [Int32.lt_iff_toInt_lt] at z
        simp only [z0] at *
        omega
      exact lv_if_lt hx hb hdg ht (fun z => absurd z hc) (fun _ => K)

theorem vs_if_ge (hx : p.tables.exec = Jvm.exec) (hb : c.code = cc) (hW : vW cl D A s b sa sv hp ws tys H locs) (hL : vL b sa sv (vAd ws) nL ls lsA) (hT : vT b sa sv (vAd ws) st stV) {off : Int} {a : Nat} (hdg : decode cc pc = .ok (.ifCond .ge off, 3)) (ht : (pc : Int) + off = (a : Int)) (h : vIf (fun x y => vNot (vLt x y)) (pc + 3) a ls st hp = some (pc', ls', st', hp')) (kk : vK p l e R s m args below meth c Q cl D A b sa sv nL ws pc' ls' st' hp' cells slots) : W p l e R s m args below meth c H locs cells slots Q (F0 m pc lsA stV) := by
  obtain ⟨x, q, rfl, hq, rfl, rfl, hf⟩ := vIf_ok h
  match stV, hT with
  | v :: stV, hT =>
    obtain ⟨hx1, hT⟩ := hT
    obtain ⟨X, rfl, x1, x2⟩ := vIv_ok hx1 hq
    have z0 : (0 : Int32).toInt = 0 := rfl
    have K := kk ws tys H locs lsA stV hW hL hT (vSub2.rf _)
    rcases hf with ⟨hf, rfl⟩ | ⟨hf, rfl⟩
    · have hf := vLt_f (vNot_t hf)
      have hc : 0 ≤ X := by
        rw [Int32.le_iff_toInt_le]
        simp only [z0] at *
        omega
      exact lv_if_ge hx hb hdg ht (fun _ => K) (fun z => absurd hc z)
    · have hf := vLt_t (vNot_f hf)
      have hc : ¬ 0 ≤ X := by
        intro z
        rw [Int32.le_iff_toInt_le] at z
        simp only [z0] at *
        omega
      exact lv_if_ge hx hb hdg ht (fun z => absurd z hc) (fun _ => K)

theorem vs_if_gt (hx : p.tables.exec = Jvm.exec) (hb : c.code = cc) (hW : vW cl D A s b sa sv hp ws tys H locs) (hL : vL b sa sv (vAd ws) nL ls lsA) (hT : vT b sa sv (vAd ws) st stV) {off : Int} {a : Nat} (hdg : decode cc pc = .ok (.ifCond .gt off, 3)) (ht : (pc : Int) + off = (a : Int)) (h : vIf (fun x y => vLt y x) (pc + 3) a ls st hp = some (pc', ls', st', hp')) (kk : vK p l e R s m args below meth c Q cl D A b sa sv nL ws pc' ls' st' hp' cells slots) : W p l e R s m args below meth c H locs cells slots Q (F0 m pc lsA stV) := by
  obtain ⟨x, q, rfl, hq, rfl, rfl, hf⟩ := vIf_ok h
  match stV, hT with
  | v :: stV, hT =>
    obtain ⟨hx1, hT⟩ := hT
    obtain ⟨X, rfl, x1, x2⟩ := vIv_ok hx1 hq
    have z0 : (0 : Int32).toInt = 0 := rfl
    have K := kk ws tys H locs lsA stV hW hL hT (vSub2.rf _)
    rcases hf with ⟨hf, rfl⟩ | ⟨hf, rfl⟩
    · have hf := vLt_t hf
      have hc : 0 < X := by
        rw [Int32.lt_iff_toInt_lt]
        simp only [z0] at *
        omega
      exact lv_if_gt hx hb hdg ht (fun _ => K) (fun z => absurd hc z)
    · have hf := vLt_f hf
      have hc : ¬ 0 < X := by
        intro z
        rw [Int32.lt_iff_toInt_lt] at z
        simp only [z0] at *
        omega
      exact lv_if_gt hx hb hdg ht (fun z => absurd z hc) (fun _ => K)

theorem vs_if_le (hx : p.tables.exec = Jvm.exec) (hb : c.code = cc) (hW : vW cl D A s b sa sv hp ws tys H locs) (hL : vL b sa sv (vAd ws) nL ls lsA) (hT : vT b sa sv (vAd ws) st stV) {off : Int} {a : Nat} (hdg : decode cc pc = .ok (.ifCond .le off, 3)) (ht : (pc : Int) + off = (a : Int)) (h : vIf (fun x y => vNot (vLt y x)) (pc + 3) a ls st hp = some (pc', ls', st', hp')) (kk : vK p l e R s m args below meth c Q cl D A b sa sv nL ws pc' ls' st' hp' cells slots) : W p l e R s m args below meth c H locs cells slots Q (F0 m pc lsA stV) := by
  obtain ⟨x, q, rfl, hq, rfl, rfl, hf⟩ := vIf_ok h
  match stV, hT with
  | v :: stV, hT =>
    obtain ⟨hx1, hT⟩ := hT
    obtain ⟨X, rfl, x1, x2⟩ := vIv_ok hx1 hq
    have z0 : (0 : Int32).toInt = 0 := rfl
    have K := kk ws tys H locs lsA stV hW hL hT (vSub2.rf _)
    rcases hf with ⟨hf, rfl⟩ | ⟨hf, rfl⟩
    · have hf := vLt_f (vNot_t hf)
      have hc : X ≤ 0 := by
        rw [Int32.le_iff_toInt_le]
        simp only [z0] at *
        omega
      exact lv_if_le hx hb hdg ht (fun _ => K) (fun z => absurd hc z)
    · have hf := vLt_t (vNot_f hf)
      have hc : ¬ X ≤ 0 := by
        intro z
        rw [Int32.le_iff_toInt_le] at z
        simp only [z0] at *
        omega
      exact lv_if_le hx hb hdg ht (fun z => absurd z hc) (fun _ => K)

theorem vs_ic_eq (hx : p.tables.exec = Jvm.exec) (hb : c.code = cc) (hW : vW cl D A s b sa sv hp ws tys H locs) (hL : vL b sa sv (vAd ws) nL ls lsA) (hT : vT b sa sv (vAd ws) st stV) {off : Int} {a : Nat} (hdg : decode cc pc = .ok (.if_icmp .eq off, 3)) (ht : (pc : Int) + off = (a : Int)) (h : vIc vEq (pc + 3) a ls st hp = some (pc', ls', st', hp')) (kk : vK p l e R s m args below meth c Q cl D A b sa sv nL ws pc' ls' st' hp' cells slots) : W p l e R s m args below meth c H locs cells slots Q (F0 m pc lsA stV) := by
  obtain ⟨x, y, q, q', rfl, hq, hq', rfl, rfl, hf⟩ := vIc_ok h
  match stV, hT with
  | v :: [], hT => exact hT.2.elim
  | v :: w :: stV, hT =>
    obtain ⟨hy1, hx1, hT⟩ := hT
    obtain ⟨X, rfl, x1, x2⟩ := vIv_ok hx1 hq
    obtain ⟨Y, rfl, y1, y2⟩ := vIv_ok hy1 hq'
    have z0 : (0 : Int32).toInt = 0 := rfl
    have K := kk ws tys H locs lsA stV hW hL hT (vSub2.rf _)
    rcases hf with ⟨hf, rfl⟩ | ⟨hf, rfl⟩
    · have hf := vEq_t hf
      have hc : X = Y := by
        rw [← Int32.toInt_inj]
        simp only [z0] at *
        omega
      exact lv_icmp_eq hx hb hdg ht (fun _ => K) (fun z => absurd hc z)
    · have hf := vEq_f hf
      have hc : ¬ X = Y := by
        intro z
        rw [← Int32.toInt_inj] at z
        simp only [z0] at *
        omega
      exact lv_icmp_eq hx hb hdg ht (fun z => absurd z hc) (fun _ => K)

theorem vs_ic_ne (hx : p.tables.exec = Jvm.exec) (hb : c.code = cc) (hW : vW cl D A s b sa sv hp ws tys H locs) (hL : vL b sa sv (vAd ws) nL ls lsA) (hT : vT b sa sv (vAd ws) st stV) {off : Int} {a : Nat} (hdg : decode cc pc = .ok (.if_icmp .ne off, 3)) (ht : (pc : Int) + off = (a : Int)) (h : vIc (fun x y => vNot (vEq x y)) (pc + 3) a ls st hp = some (pc', ls', st', hp')) (kk : vK p l e R s m args below meth c Q cl D A b sa sv nL ws pc' ls' st' hp' cells slots) : W p l e R s m args below meth c H locs cells slots Q (F0 m pc lsA stV) := by
  obtain ⟨x, y, q, q', rfl, hq, hq', rfl, rfl, hf⟩ := vIc_ok h
  match stV, hT with
  | v :: [], hT => exact hT.2.elim
  | v :: w :: stV, hT =>
    obtain ⟨hy1, hx1, hT⟩ := hT
    obtain ⟨X, rfl, x1, x2⟩ := vIv_ok hx1 hq
    obtain ⟨Y, rfl, y1, y2⟩ := vIv_ok hy1 hq'
    have z0 : (0 : Int32).toInt = 0 := rfl
    have K := kk ws tys H locs lsA stV hW hL hT (vSub2.rf _)
    rcases hf with ⟨hf, rfl⟩ | ⟨hf, rfl⟩
    · have hf := vEq_f (vNot_t hf)
      have hc : ¬ X = Y := by
        intro z
        rw [← Int32.toInt_inj] at z
        simp only [z0] at *
        omega
      exact lv_icmp_ne hx hb hdg ht (fun _ => K) (fun z => absurd z hc)
    · have hf := vEq_t (vNot_f hf)
      have hc : X = Y := by
        rw [← Int32.toInt_inj]
        simp only [z0] at *
        omega
      exact lv_icmp_ne hx hb hdg ht (fun z => absurd hc z) (fun _ => K)

theorem vs_ic_lt (hx : p.tables.exec = Jvm.exec) (hb : c.code = cc) (hW : vW cl D A s b sa sv hp ws tys H locs) (hL : vL b sa sv (vAd ws) nL ls lsA) (hT : vT b sa sv (vAd ws) st stV) {off : Int} {a : Nat} (hdg : decode cc pc = .ok (.if_icmp .lt off, 3)) (ht : (pc : Int) + off = (a : Int)) (h : vIc vLt (pc + 3) a ls st hp = some (pc', ls', st', hp')) (kk : vK p l e R s m args below meth c Q cl D A b sa sv nL ws pc' ls' st' hp' cells slots) : W p l e R s m args below meth c H locs cells slots Q (F0 m pc lsA stV) := by
  obtain ⟨x, y, q, q', rfl, hq, hq', rfl, rfl, hf⟩ := vIc_ok h
  match stV, hT with
  | v :: [], hT => exact hT.2.elim
  | v :: w :: stV, hT =>
    obtain ⟨hy1, hx1, hT⟩ := hT
    obtain ⟨X, rfl, x1, x2⟩ := vIv_ok hx1 hq
    obtain ⟨Y, rfl, y1, y2⟩ := vIv_ok hy1 hq'
    have z0 : (0 : Int32).toInt = 0 := rfl
    have K := kk ws tys H locs lsA stV hW hL hT (vSub2.rf _)
    rcases hf with ⟨hf, rfl⟩ | ⟨hf, rfl⟩
    · have hf := vLt_t hf
      have hc : X < Y := by
        rw [Int32.lt_iff_toInt_lt]
        simp only [z0] at *
        omega
      exact lv_icmp_lt hx hb hdg ht (fun _ => K) (fun z => absurd hc z)
    · have hf := vLt_f hf
      have hc : ¬ X < Y := by
        intro z
        rw [Int32.lt_iff_toInt_lt] at z
        simp only [z0] at *
        omega
      exact lv_icmp_lt hx hb hdg ht (fun z => absurd z hc) (fun _ => K)

theorem vs_ic_ge (hx : p.tables.exec = Jvm.exec) (hb : c.code = cc) (hW : vW cl D A s b sa sv hp ws tys H locs) (hL : vL b sa sv (vAd ws) nL ls lsA) (hT : vT b sa sv (vAd ws) st stV) {off : Int} {a : Nat} (hdg : decode cc pc = .ok (.if_icmp .ge off, 3)) (ht : (pc : Int) + off = (a : Int)) (h : vIc (fun x y => vNot (vLt x y)) (pc + 3) a ls st hp = some (pc', ls', st', hp')) (kk : vK p l e R s m args below meth c Q cl D A b sa sv nL ws pc' ls' st' hp' cells slots) : W p l e R s m args below meth c H locs cells slots Q (F0 m pc lsA stV) := by
  obtain ⟨x, y, q, q', rfl, hq, hq', rfl, rfl, hf⟩ := vIc_ok h
  match stV, hT with
  | v :: [], hT => exact hT.2.elim
  | v :: w :: stV, hT =>
    obtain ⟨hy1, hx1, hT⟩ := hT
    obtain ⟨X, rfl, x1, x2⟩ := vIv_ok hx1 hq
    obtain ⟨Y, rfl, y1, y2⟩ := vIv_ok hy1 hq'
    have z0 : (0 : Int32).toInt = 0 := rfl
    have K := kk ws tys H locs lsA stV hW hL hT (vSub2.rf _)
    rcases hf with ⟨hf, rfl⟩ | ⟨hf, rfl⟩
    · have hf := vLt_f (vNot_t hf)
      have hc : Y ≤ X := by
        rw [Int32.le_iff_toInt_le]
        simp only [z0] at *
        omega
      exact lv_icmp_ge hx hb hdg ht (fun _ => K) (fun z => absurd hc z)
    · have hf := vLt_t (vNot_f hf)
      have hc : ¬ Y ≤ X := by
        intro z
        rw [Int32.le_iff_toInt_le] at z
        simp only [z0] at *
        omega
      exact lv_icmp_ge hx hb hdg ht (fun z => absurd z hc) (fun _ => K)

theorem vs_ic_gt (hx : p.tables.exec = Jvm.exec) (hb : c.code = cc) (hW : vW cl D A s b sa sv hp ws tys H locs) (hL : vL b sa sv (vAd ws) nL ls lsA) (hT : vT b sa sv (vAd ws) st stV) {off : Int} {a : Nat} (hdg : decode cc pc = .ok (.if_icmp .gt off, 3)) (ht : (pc : Int) + off = (a : Int)) (h : vIc (fun x y => vLt y x) (pc + 3) a ls st hp = some (pc', ls', st', hp')) (kk : vK p l e R s m args below meth c Q cl D A b sa sv nL ws pc' ls' st' hp' cells slots) : W p l e R s m args below meth c H locs cells slots Q (F0 m pc lsA stV) := by
  obtain ⟨x, y, q, q', rfl, hq, hq', rfl, rfl, hf⟩ := vIc_ok h
  match stV, hT with
  | v :: [], hT => exact hT.2.elim
  | v :: w :: stV, hT =>
    obtain ⟨hy1, hx1, hT⟩ := hT
    obtain ⟨X, rfl, x1, x2⟩ := vIv_ok hx1 hq
    obtain ⟨Y, rfl, y1, y2⟩ := vIv_ok hy1 hq'
    have z0 : (0 : Int32).toInt = 0 := rfl
    have K := kk ws tys H locs lsA stV hW hL hT (vSub2.rf _)
    rcases hf with ⟨hf, rfl⟩ | ⟨hf, rfl⟩
    · have hf := vLt_t hf
      have hc : Y < X := by
        rw [Int32.lt_iff_toInt_lt]
        simp only [z0] at *
        omega
      exact lv_icmp_gt hx hb hdg ht (fun _ => K) (fun z => absurd hc z)
    · have hf := vLt_f hf
      have hc : ¬ Y < X := by
        intro z
        rw [Int32.lt_iff_toInt_lt] at z
        simp only [z0] at *
        omega
      exact lv_icmp_gt hx hb hdg ht (fun z => absurd z hc) (fun _ => K)

theorem vs_ic_le (hx : p.tables.exec = Jvm.exec) (hb : c.code = cc) (hW : vW cl D A s b sa sv hp ws tys H locs) (hL : vL b sa sv (vAd ws) nL ls lsA) (hT : vT b sa sv (vAd ws) st stV) {off : Int} {a : Nat} (hdg : decode cc pc = .ok (.if_icmp .le off, 3)) (ht : (pc : Int) + off = (a : Int)) (h : vIc (fun x y => vNot (vLt y x)) (pc + 3) a ls st hp = some (pc', ls', st', hp')) (kk : vK p l e R s m args below meth c Q cl D A b sa sv nL ws pc' ls' st' hp' cells slots) : W p l e R s m args below meth c H locs cells slots Q (F0 m pc lsA stV) := by
  obtain ⟨x, y, q, q', rfl, hq, hq', rfl, rfl, hf⟩ := vIc_ok h
  match stV, hT with
  | v :: [], hT => exact hT.2.elim
  | v :: w :: stV, hT =>
    obtain ⟨hy1, hx1, hT⟩ := hT
    obtain ⟨X, rfl, x1, x2⟩ := vIv_ok hx1 hq
    obtain ⟨Y, rfl, y1, y2⟩ := vIv_ok hy1 hq'
    have z0 : (0 : Int32).toInt = 0 := rfl
    have K := kk ws tys H locs lsA stV hW hL hT (vSub2.rf _)
    rcases hf with ⟨hf, rfl⟩ | ⟨hf, rfl⟩
    · have hf := vLt_f (vNot_t hf)
      have hc : X ≤ Y := by
        rw [Int32.le_iff_toInt_le]
        simp only [z0] at *
        omega
      exact lv_icmp_le hx hb hdg ht (fun _ => K) (fun z => absurd hc z)
    · have hf := vLt_t (vNot_f hf)
      have hc : ¬ X ≤ Y := by
        intro z
        rw [Int32.le_iff_toInt_le] at z
        simp only [z0] at *
        omega
      exact lv_icmp_le hx hb hdg ht (fun z => absurd z hc) (fun _ => K)

end VS1
