/-! ===== a step of the machine is a step of the JVM: the script, the text, longs, the stack, switches ===== -/
theorem vl_mod (n : Nat) : lN (n % 18446744073709551616) = lN n := by
  show Int64.ofNat _ = Int64.ofNat _
  apply Int64.toBitVec_inj.mp
  apply BitVec.eq_of_toNat_eq
  show (BitVec.ofNat 64 _).toNat = (BitVec.ofNat 64 _).toNat
  rw [BitVec.toNat_ofNat, BitVec.toNat_ofNat]
  omega
theorem vl_tn {n : Nat} (h : n < 18446744073709551616) : (lN n).toBitVec.toNat = n := by
  show (BitVec.ofNat 64 n).toNat = n
  rw [BitVec.toNat_ofNat]
  omega
theorem vl_toInt {u : Nat} (hu : u < 18446744073709551616) : (lN u).toInt = if 2 * u < 18446744073709551616 then (u : Int) else (u : Int) - 18446744073709551616 := by
  show (lN u).toBitVec.toInt = _
  rw [BitVec.toInt_eq_toNat_cond, vl_tn hu]
  rfl
theorem vl_bias {u : Nat} (hu : u < 18446744073709551616) : (lN u).toInt + 9223372036854775808 = (((u + 9223372036854775808) % 18446744073709551616 : Nat) : Int) := by
  rw [vl_toInt hu]
  split <;> omega
theorem vl_ext {x : Int64} {n : Nat} (hn : n < 18446744073709551616) (h : x.toInt = (lN n).toInt) : x = lN n := Int64.toInt_inj.mp h
theorem vl_i2l {u : Nat} (hu : u < 4294967296) : (nI u).toInt64 = lN (if u < 2147483648 then u else u + 18446744069414584320) := by
  apply vl_ext (by split <;> omega)
  rw [Int32.toInt_toInt64, vn_toInt hu, vl_toInt (by split <;> omega)]
  split <;> split <;> split <;> omega
theorem vl_l2i {u : Nat} (hu : u < 18446744073709551616) : (lN u).toInt32 = nI (u % 4294967296) := by
  rw [vn_mod]
  exact lN_i u
theorem vl_cmp {u w : Nat} (hu : u < 18446744073709551616) (hw : w < 18446744073709551616) : lg_cmp (lN u) (lN w) = if (u + 9223372036854775808) % 18446744073709551616 < (w + 9223372036854775808) % 18446744073709551616 then -1 else if (u + 9223372036854775808) % 18446744073709551616 = (w + 9223372036854775808) % 18446744073709551616 then 0 else 1 := by
  have h1 := vl_bias hu
  have h2 := vl_bias hw
  unfold lg_cmp
  simp only [gt_iff_lt, Int64.lt_iff_toInt_lt, ← Int64.toInt_inj]
  generalize (u + 9223372036854775808) % 18446744073709551616 = U at *
  generalize (w + 9223372036854775808) % 18446744073709551616 = V at *
  rcases Nat.lt_trichotomy U V with h | h | h
  · rw [if_neg (by omega), if_neg (by omega), if_pos h]
  · rw [if_neg (by omega), if_pos (by omega), if_neg (by omega), if_pos h]
  · rw [if_pos (by omega), if_neg (by omega), if_neg (by omega)]

section VS3
variable {p : Program} {l : Launch} {e : Env} {R : Room} {s : State} {m : MethodId} {args : Array Value} {below : List Frame} {meth : Method} {c : Code} {H : Heap} {locs : List Loc} {cells slots : Nat} {Q : State → Prop}
variable {cc : ByteArray} {pc : Nat} {lsA : Array Slot} {stV : List Value} {D : va_G} {cl : List vw_C} {A : Nat → Prop} {ws : va_W} {tys : List (ClassId × FieldType)}
variable {b sa sv nL : Nat} {ls ls' : vLs} {st st' : List vAV} {hp hp' : List vOb} {pc' : Nat}
/-- the script, as the law sees it: nothing of it in other methods -/
def vScr (b sa sv : Nat) (A : Nat → Prop) (s : State) (sc : List vAV) : Prop := sc = [] ∨ ∃ (xs : Nat → Int32), va_X b sc.length xs s s.heap ∧ b < s.heap.size ∧ ¬ A b ∧ ∀ (j : Nat) (c : vAV), sc[j]? = some c → vG b sa sv [] c (.int (xs j))
/-- the text -/
def vTxt (sa sv : Nat) (A : Nat → Prop) (s : State) (tx : List Nat) : Prop := vk_S 1 [tx.length] [tx.map nI] (fun _ => sa) (fun _ => sv) A s s.heap ∧ ∀ (j u : Nat), tx[j]? = some u → u < 4294967296

theorem vs_aldS (hx : p.tables.exec = Jvm.exec) (hb : c.code = cc) (hW : vW cl D A s b sa sv hp ws tys H locs) (hL : vL b sa sv (vAd ws) nL ls lsA) (hT : vT b sa sv (vAd ws) st stV) {sc : List vAV} (hsc : vScr b sa sv A s sc) {u : Nat} {v : vAV} {st0 : List vAV} (hu : u < 65536) (hst : st = .inl u :: .inr (.inr (.inr (.inr 0))) :: st0) (hv : sc[u]? = some v) (hls : ls' = ls) (hhp : hp' = hp) (hst' : st' = v :: st0) (hpc : pc' = pc + 1) (hdg : decode cc pc = .ok (.iaload, 1)) (kk : vK p l e R s m args below meth c Q cl D A b sa sv nL ws pc' ls' st' hp' cells slots) : W p l e R s m args below meth c H locs cells slots Q (F0 m pc lsA stV) := by
  subst hst hls hhp hst' hpc
  match stV, hT with
  | y :: [], hT => exact hT.2.elim
  | y :: x :: stV, hT =>
    obtain ⟨⟨-, rfl⟩, hxx, hT9⟩ := hT
    rcases hxx with ⟨-, rfl⟩ | ⟨h9, -⟩ | ⟨h9, -⟩ | ⟨h9, -⟩
    · rcases hsc with rfl | ⟨xs, hX, hbl, hbA, hs⟩
      · simp at hv
      · have hlt : u < sc.length := (List.getElem?_eq_some_iff.mp hv).1
        refine va_sld hx hb hX hbl hbA hW.2.2.1 (vin hlt hu) hdg ?_
        rw [vCl hu]
        exact kk ws tys H locs lsA _ hW hL ⟨vG_mono (fun k a h => by simp at h) (hs u v hv), hT9⟩ (vSub2.rf _)
    · omega
    · omega
    · omega

theorem vs_aldT (hx : p.tables.exec = Jvm.exec) (hb : c.code = cc) (hW : vW cl D A s b sa sv hp ws tys H locs) (hL : vL b sa sv (vAd ws) nL ls lsA) (hT : vT b sa sv (vAd ws) st stV) {tx : List Nat} (htx : vTxt sa sv A s tx) {u v : Nat} {st0 : List vAV} (hu : u < 65536) (hst : st = .inl u :: .inr (.inr (.inr (.inr 2))) :: st0) (hv : tx[u]? = some v) (hls : ls' = ls) (hhp : hp' = hp) (hst' : st' = .inl v :: st0) (hpc : pc' = pc + 1) (hdg : decode cc pc = .ok (.baload, 1)) (kk : vK p l e R s m args below meth c Q cl D A b sa sv nL ws pc' ls' st' hp' cells slots) : W p l e R s m args below meth c H locs cells slots Q (F0 m pc lsA stV) := by
  subst hst hls hhp hst' hpc
  match stV, hT with
  | y :: [], hT => exact hT.2.elim
  | y :: x :: stV, hT =>
    obtain ⟨⟨-, rfl⟩, hxx, hT9⟩ := hT
    rcases hxx with ⟨h9, -⟩ | ⟨h9, -⟩ | ⟨-, rfl⟩ | ⟨h9, -⟩
    · omega
    · omega
    · have hlt : u < tx.length := (List.getElem?_eq_some_iff.mp hv).1
      refine va_tb (v := .int (nI v)) hx hb ((htx.1.1 0 (by omega)).2.2.2) hW.2.2.1 (vin hlt hu) ?_ hdg (kk ws tys H locs lsA _ hW hL ⟨⟨htx.2 u v hv, rfl⟩, hT9⟩ (vSub2.rf _))
      rw [vCl hu]
      simp [hv]
    · omega

theorem vs_aln (hx : p.tables.exec = Jvm.exec) (hb : c.code = cc) (hW : vW cl D A s b sa sv hp ws tys H locs) (hL : vL b sa sv (vAd ws) nL ls lsA) (hT : vT b sa sv (vAd ws) st stV) {k : Nat} {o : vOb} {st0 : List vAV} (hst : st = .inr (.inr (.inr (.inl (some k)))) :: st0) (ho : hp[k]? = some o) (hk0 : o.1 % 8 ≠ 0) (hk6 : o.1 % 8 < 6) (hu : o.2.length < 65536) (hls : ls' = ls) (hhp : hp' = hp) (hst' : st' = .inl o.2.length :: st0) (hpc : pc' = pc + 1) (hdg : decode cc pc = .ok (.arraylength, 1)) (kk : vK p l e R s m args below meth c Q cl D A b sa sv nL ws pc' ls' st' hp' cells slots) : W p l e R s m args below meth c H locs cells slots Q (F0 m pc lsA stV) := by
  subst hst hls hhp hst' hpc
  match stV, hT with
  | x :: stV, hT =>
    obtain ⟨hP, hD, hS, hK, hH⟩ := hW
    obtain ⟨hxx, hT9⟩ := hT
    obtain ⟨ad, ce, rfl, hw, hC⟩ := vH_at hH ho hxx
    have K := kk ws tys H locs lsA (.int (nI o.2.length) :: stV) ⟨hP, hD, hS, hK, hH⟩ hL ⟨⟨by omega, rfl⟩, hT9⟩ (vSub2.rf _)
    have hcs : o.1 % 8 = 1 ∨ o.1 % 8 = 2 ∨ o.1 % 8 = 3 ∨ o.1 % 8 = 4 ∨ o.1 % 8 = 5 := by omega
    rcases hcs with h | h | h | h | h
    · obtain ⟨cA, f, t0, rfl, ht0, -⟩ := vC_1 hC h
      exact va_alen hx hb hK hP k t0 hw ht0 rfl hdg K
    · obtain ⟨cA, f, t0, rfl, ht0, -⟩ := vC_2 hC h
      exact va_alen hx hb hK hP k t0 hw ht0 rfl hdg K
    · obtain ⟨cA, f, t0, rfl, ht0, -⟩ := vC_3 hC h
      exact va_alen hx hb hK hP k t0 hw ht0 rfl hdg K
    · obtain ⟨cA, f, t0, rfl, ht0, -⟩ := vC_4 hC h
      exact va_alen hx hb hK hP k t0 hw ht0 rfl hdg K
    · obtain ⟨cA, f, t0, r, rfl, hr, ht0, -⟩ := vC_5 hC h
      exact va_alen hx hb hK hP k t0 hw ht0 rfl hdg K

theorem vs_arraylength (hx : p.tables.exec = Jvm.exec) (hb : c.code = cc) (hW : vW cl D A s b sa sv hp ws tys H locs) (hL : vL b sa sv (vAd ws) nL ls lsA) (hT : vT b sa sv (vAd ws) st stV) {sc : List vAV} {tx : List Nat} (hsc : vScr b sa sv A s sc) (htx : vTxt sa sv A s tx) (hdg : decode cc pc = .ok (.arraylength, 1)) (h : vAln (pc + 1) sc tx ls st hp = some (pc', ls', st', hp')) (kk : vK p l e R s m args below meth c Q cl D A b sa sv nL ws pc' ls' st' hp' cells slots) : W p l e R s m args below meth c H locs cells slots Q (F0 m pc lsA stV) := by
  unfold vAln at h
  split at h
  · next k st0 =>
    split at h
    · next o ho =>
      rw [vNth_eq] at ho
      cases h1 : (Nat.beq (o.1 % 8) 0 || Nat.ble 6 (o.1 % 8)) with
      | true => rw [h1] at h; cases h
      | false =>
        rw [h1] at h
        cases h2 : Nat.blt o.2.length 65536 with
        | false => rw [h2] at h; cases h
        | true =>
          rw [h2] at h
          cases h
          rw [Bool.or_eq_false_iff] at h1
          exact vs_aln hx hb hW hL hT rfl ho (fun e => by rw [e] at h1; cases h1.1) (by
            rcases Nat.lt_or_ge (o.1 % 8) 6 with q | q
            · exact q
            · have := Nat.ble_eq.mpr q
              rw [this] at h1; cases h1.2) (Nat.blt_eq.mp h2) rfl rfl rfl rfl hdg kk
    · cases h
  · next st0 =>
    cases h2 : (Nat.blt 0 sc.length && Nat.blt sc.length 65536) with
    | false => rw [h2] at h; cases h
    | true =>
      rw [h2] at h
      cases h
      have h2 := vBx h2
      match stV, hT with
      | x :: stV, hT =>
        obtain ⟨hxx, hT9⟩ := hT
        rcases hxx with ⟨-, rfl⟩ | ⟨h9, -⟩ | ⟨h9, -⟩ | ⟨h9, -⟩
        · rcases hsc with rfl | ⟨xs, hX, hbl, hbA, hs⟩
          · have := Nat.blt_eq.mp h2.1
            simp at this
          · exact va_slen hx hb hX hbl hbA hW.2.2.1 hdg (kk ws tys H locs lsA _ hW hL ⟨⟨by have := Nat.blt_eq.mp h2.2; omega, rfl⟩, hT9⟩ (vSub2.rf _))
        · omega
        · omega
        · omega
  · next st0 =>
    cases h2 : Nat.blt tx.length 65536 with
    | false => rw [h2] at h; cases h
    | true =>
      rw [h2] at h
      cases h
      match stV, hT with
      | x :: stV, hT =>
        obtain ⟨hxx, hT9⟩ := hT
        rcases hxx with ⟨h9, -⟩ | ⟨h9, -⟩ | ⟨-, rfl⟩ | ⟨h9, -⟩
        · omega
        · omega
        · exact va_tlen hx hb ((htx.1.1 0 (by omega)).2.2.2) hW.2.2.1 rfl hdg (kk ws tys H locs lsA _ hW hL ⟨⟨by have := Nat.blt_eq.mp h2; omega, rfl⟩, hT9⟩ (vSub2.rf _))
        · omega
  · cases h

theorem vs_getT (hx : p.tables.exec = Jvm.exec) (hb : c.code = cc) (hW : vW cl D A s b sa sv hp ws tys H locs) (hL : vL b sa sv (vAd ws) nL ls lsA) (hT : vT b sa sv (vAd ws) st stV) {tx : List Nat} (htx : vTxt sa sv A s tx) {own : String} {index a b1 t : Nat} (hown : s.vm.findClass own = some m.cls) (ht : 7 ≤ t) (hlink : t = 7 → (Cond.fieldLink own index "java/lang/String" "coder" "B").before args s = true) (hlink2 : t = 8 → (Cond.fieldLink own index "java/lang/String" "value" "[B").before args s = true) (hdg : decode cc pc = .ok (.getfield index, 3)) (h : vGf a b1 t (pc + 3) ls st hp = some (pc', ls', st', hp')) (kk : vK p l e R s m args below meth c Q cl D A b sa sv nL ws pc' ls' st' hp' cells slots) : W p l e R s m args below meth c H locs cells slots Q (F0 m pc lsA stV) := by
  obtain ⟨st0, rfl, rfl, rfl, rfl, h5⟩ := vGf_t ht h
  match stV, hT with
  | x :: stV, hT =>
    obtain ⟨hxx, hT9⟩ := hT
    rcases hxx with ⟨h9, -⟩ | ⟨-, rfl⟩ | ⟨h9, -⟩ | ⟨h9, -⟩
    · omega
    · rcases h5 with ⟨h1, rfl⟩ | ⟨h1, rfl⟩
      · exact vk_getf hx hb ((htx.1.1 0 (by omega)).2.1) hW.2.2.1 hown (hlink h1) (fun _ q => q) hdg (kk ws tys H locs lsA _ hW hL ⟨⟨by omega, rfl⟩, hT9⟩ (vSub2.rf _))
      · exact vk_getf hx hb ((htx.1.1 0 (by omega)).2.2.1) hW.2.2.1 hown (hlink2 h1) (fun _ q => q) hdg (kk ws tys H locs lsA _ hW hL ⟨Or.inr (Or.inr (Or.inl ⟨rfl, rfl⟩)), hT9⟩ (vSub2.rf _))
    · omega
    · omega

theorem vs_ldcT (hx : p.tables.exec = Jvm.exec) (hb : c.code = cc) (hW : vW cl D A s b sa sv hp ws tys H locs) (hL : vL b sa sv (vAd ws) nL ls lsA) (hT : vT b sa sv (vAd ws) st stV) {own tx : String} {index : Nat} (hown : s.vm.findClass own = some m.cls) (hZ : vk_R own index tx sa s) (hdg : decode cc pc = .ok (.ldc index, 2)) (h : (some (pc + 2, ls, .inr (.inr (.inr (.inr 1))) :: st, hp) : vR) = some (pc', ls', st', hp')) (kk : vK p l e R s m args below meth c Q cl D A b sa sv nL ws pc' ls' st' hp' cells slots) : W p l e R s m args below meth c H locs cells slots Q (F0 m pc lsA stV) := by
  cases h
  exact va_ldcS hx hb hown hZ hdg (kk ws tys H locs lsA _ hW hL ⟨Or.inr (Or.inl ⟨rfl, rfl⟩), hT⟩ (vSub2.rf _))

theorem vs_ldcw (hx : p.tables.exec = Jvm.exec) (hb : c.code = cc) (hW : vW cl D A s b sa sv hp ws tys H locs) (hL : vL b sa sv (vAd ws) nL ls lsA) (hT : vT b sa sv (vAd ws) st stV) {own : String} {index a : Nat} (hown : s.vm.findClass own = some m.cls) (hc : (Jvm.Cond.constant own index (nI a)).before args s = true) (hdg : decode cc pc = .ok (.ldc_w index, 3)) (ha : a < 4294967296) (h : (some (pc + 3, ls, .inl a :: st, hp) : vR) = some (pc', ls', st', hp')) (kk : vK p l e R s m args below meth c Q cl D A b sa sv nL ws pc' ls' st' hp' cells slots) : W p l e R s m args below meth c H locs cells slots Q (F0 m pc lsA stV) := by
  cases h
  exact lv_ldcw hx hb hown hc hdg (kk ws tys H locs lsA _ hW hL ⟨⟨ha, rfl⟩, hT⟩ (vSub2.rf _))

theorem vs_getstatic (hx : p.tables.exec = Jvm.exec) (hb : c.code = cc) (hW : vW cl D A s b sa sv hp ws tys H locs) (hL : vL b sa sv (vAd ws) nL ls lsA) (hT : vT b sa sv (vAd ws) st stV) {C n d own : String} {index : Nat} (hZ : va_Z C n d (.int 1) A s s.heap) (hown : s.vm.findClass own = some m.cls) (hlink : (Cond.fieldLink own index C n d).before args s = true) (hdg : decode cc pc = .ok (.getstatic index, 3)) (h : (some (pc + 3, ls, .inl 1 :: st, hp) : vR) = some (pc', ls', st', hp')) (kk : vK p l e R s m args below meth c Q cl D A b sa sv nL ws pc' ls' st' hp' cells slots) : W p l e R s m args below meth c H locs cells slots Q (F0 m pc lsA stV) := by
  cases h
  exact va_gets hx hb hZ hW.2.2.1 hown hlink (fun _ q => q) hdg (kk ws tys H locs lsA _ hW hL ⟨⟨by omega, by decide⟩, hT⟩ (vSub2.rf _))

theorem vs_getstaticR (hx : p.tables.exec = Jvm.exec) (hb : c.code = cc) (hW : vW cl D A s b sa sv hp ws tys H locs) (hL : vL b sa sv (vAd ws) nL ls lsA) (hT : vT b sa sv (vAd ws) st stV) {C n d own : String} {index : Nat} (hZ : va_Zq C n d A s s.heap) (hown : s.vm.findClass own = some m.cls) (hlink : (Cond.fieldLink own index C n d).before args s = true) (hdg : decode cc pc = .ok (.getstatic index, 3)) (h : (some (pc + 3, ls, .inr (.inr (.inr (.inr 3))) :: st, hp) : vR) = some (pc', ls', st', hp')) (kk : vK p l e R s m args below meth c Q cl D A b sa sv nL ws pc' ls' st' hp' cells slots) : W p l e R s m args below meth c H locs cells slots Q (F0 m pc lsA stV) := by
  cases h
  rcases hZ with hZ | ⟨t, hZ⟩
  · exact va_gets hx hb hZ hW.2.2.1 hown hlink (fun _ q => q) hdg (kk ws tys H locs lsA _ hW hL ⟨Or.inr (Or.inr (Or.inr ⟨rfl, Or.inl rfl⟩)), hT⟩ (vSub2.rf _))
  · exact va_gets hx hb hZ hW.2.2.1 hown hlink (fun _ q => q) hdg (kk ws tys H locs lsA _ hW hL ⟨Or.inr (Or.inr (Or.inr ⟨rfl, Or.inr ⟨t, rfl⟩⟩)), hT⟩ (vSub2.rf _))

theorem vs_ladd (hx : p.tables.exec = Jvm.exec) (hb : c.code = cc) (hW : vW cl D A s b sa sv hp ws tys H locs) (hL : vL b sa sv (vAd ws) nL ls lsA) (hT : vT b sa sv (vAd ws) st stV) (hdg : decode cc pc = .ok (.ladd, 1)) (h : vL2 (fun u w => (u + w) % 18446744073709551616) (pc + 1) ls st hp = some (pc', ls', st', hp')) (kk : vK p l e R s m args below meth c Q cl D A b sa sv nL ws pc' ls' st' hp' cells slots) : W p l e R s m args below meth c H locs cells slots Q (F0 m pc lsA stV) := by
  unfold vL2 at h
  split at h
  · next w u st0 =>
    rw [vF_eq] at h
    cases h
    match stV, hT with
    | y :: [], hT => exact hT.2.elim
    | y :: x :: stV, hT =>
      obtain ⟨⟨-, rfl⟩, ⟨-, rfl⟩, hT9⟩ := hT
      refine lv_ladd hx hb hdg ?_
      rw [lN_add, ← vl_mod]
      exact kk ws tys H locs lsA _ hW hL ⟨⟨Nat.mod_lt _ (by decide), rfl⟩, hT9⟩ (vSub2.rf _)
  · cases h

theorem vs_lmul (hx : p.tables.exec = Jvm.exec) (hb : c.code = cc) (hW : vW cl D A s b sa sv hp ws tys H locs) (hL : vL b sa sv (vAd ws) nL ls lsA) (hT : vT b sa sv (vAd ws) st stV) (hdg : decode cc pc = .ok (.lmul, 1)) (h : vL2 (fun u w => (u * w) % 18446744073709551616) (pc + 1) ls st hp = some (pc', ls', st', hp')) (kk : vK p l e R s m args below meth c Q cl D A b sa sv nL ws pc' ls' st' hp' cells slots) : W p l e R s m args below meth c H locs cells slots Q (F0 m pc lsA stV) := by
  unfold vL2 at h
  split at h
  · next w u st0 =>
    rw [vF_eq] at h
    cases h
    match stV, hT with
    | y :: [], hT => exact hT.2.elim
    | y :: x :: stV, hT =>
      obtain ⟨⟨-, rfl⟩, ⟨-, rfl⟩, hT9⟩ := hT
      refine lv_lmul hx hb hdg ?_
      rw [lN_mul, ← vl_mod]
      exact kk ws tys H locs lsA _ hW hL ⟨⟨Nat.mod_lt _ (by decide), rfl⟩, hT9⟩ (vSub2.rf _)
  · cases h

theorem vs_ldiv (hx : p.tables.exec = Jvm.exec) (hb : c.code = cc) (hW : vW cl D A s b sa sv hp ws tys H locs) (hL : vL b sa sv (vAd ws) nL ls lsA) (hT : vT b sa sv (vAd ws) st stV) (hdg : decode cc pc = .ok (.ldiv, 1)) (h : vL2d Nat.div kLdiv (pc + 1) ls st hp = some (pc', ls', st', hp')) (kk : vK p l e R s m args below meth c Q cl D A b sa sv nL ws pc' ls' st' hp' cells slots) : W p l e R s m args below meth c H locs cells slots Q (F0 m pc lsA stV) := by
  unfold vL2d at h
  split at h
  · next w u st0 =>
    cases hk : (Nat.blt u 9223372036854775808 && Nat.blt w 9223372036854775808 && Nat.blt 0 w) with
    | false =>
      rw [hk, cond_false] at h
      cases h0 : Nat.beq w 0 with
      | true => rw [h0] at h; cases h
      | false =>
        rw [h0, cond_false] at h
        cases h
        match stV, hT with
        | y :: [], hT => exact hT.2.elim
        | y :: x :: stV, hT =>
          obtain ⟨⟨hw9, rfl⟩, ⟨-, rfl⟩, hT9⟩ := hT
          refine lv_ldiv hx hb hdg (kl_ne0 hw9 h0) ?_
          exact kk ws tys H locs lsA _ hW hL ⟨⟨kl_lt _, congrArg Value.long (kl_lNb _).symm⟩, hT9⟩ (vSub2.rf _)
    | true =>
      rw [hk, cond_true, vF_eq] at h
      cases h
      obtain ⟨hk, hk3⟩ := vBx hk
      obtain ⟨hk1, hk2⟩ := vBx hk
      have hu : u < 2 ^ 63 := Nat.blt_eq.mp hk1
      have hw : w < 2 ^ 63 := Nat.blt_eq.mp hk2
      have hw0 : 0 < w := Nat.blt_eq.mp hk3
      match stV, hT with
      | y :: [], hT => exact hT.2.elim
      | y :: x :: stV, hT =>
        obtain ⟨⟨-, rfl⟩, ⟨-, rfl⟩, hT9⟩ := hT
        refine lv_ldiv hx hb hdg (fun e => ?_) ?_
        · have h0 : (0 : Int64) = lN 0 := rfl
          rw [h0, pk_lEQ hw (by omega)] at e
          omega
        · rw [pk_lDiv hu hw0 hw]
          exact kk ws tys H locs lsA _ hW hL ⟨⟨Nat.lt_of_le_of_lt (Nat.div_le_self _ _) (by omega), rfl⟩, hT9⟩ (vSub2.rf _)
  · cases h

theorem vs_lrem (hx : p.tables.exec = Jvm.exec) (hb : c.code = cc) (hW : vW cl D A s b sa sv hp ws tys H locs) (hL : vL b sa sv (vAd ws) nL ls lsA) (hT : vT b sa sv (vAd ws) st stV) (hdg : decode cc pc = .ok (.lrem, 1)) (h : vL2d Nat.mod kLrem (pc + 1) ls st hp = some (pc', ls', st', hp')) (kk : vK p l e R s m args below meth c Q cl D A b sa sv nL ws pc' ls' st' hp' cells slots) : W p l e R s m args below meth c H locs cells slots Q (F0 m pc lsA stV) := by
  unfold vL2d at h
  split at h
  · next w u st0 =>
    cases hk : (Nat.blt u 9223372036854775808 && Nat.blt w 9223372036854775808 && Nat.blt 0 w) with
    | false =>
      rw [hk, cond_false] at h
      cases h0 : Nat.beq w 0 with
      | true => rw [h0] at h; cases h
      | false =>
        rw [h0, cond_false] at h
        cases h
        match stV, hT with
        | y :: [], hT => exact hT.2.elim
        | y :: x :: stV, hT =>
          obtain ⟨⟨hw9, rfl⟩, ⟨-, rfl⟩, hT9⟩ := hT
          refine lv_lrem hx hb hdg (kl_ne0 hw9 h0) ?_
          exact kk ws tys H locs lsA _ hW hL ⟨⟨kl_lt _, congrArg Value.long (kl_lNb _).symm⟩, hT9⟩ (vSub2.rf _)
    | true =>
      rw [hk, cond_true, vF_eq] at h
      cases h
      obtain ⟨hk, hk3⟩ := vBx hk
      obtain ⟨hk1, hk2⟩ := vBx hk
      have hu : u < 2 ^ 63 := Nat.blt_eq.mp hk1
      have hw : w < 2 ^ 63 := Nat.blt_eq.mp hk2
      have hw0 : 0 < w := Nat.blt_eq.mp hk3
      match stV, hT with
      | y :: [], hT => exact hT.2.elim
      | y :: x :: stV, hT =>
        obtain ⟨⟨-, rfl⟩, ⟨-, rfl⟩, hT9⟩ := hT
        refine lv_lrem hx hb hdg (fun e => ?_) ?_
        · have h0 : (0 : Int64) = lN 0 := rfl
          rw [h0, pk_lEQ hw (by omega)] at e
          omega
        · rw [pk_lRem hu hw0 hw]
          exact kk ws tys H locs lsA _ hW hL ⟨⟨Nat.lt_of_le_of_lt (Nat.mod_le _ _) (by omega), rfl⟩, hT9⟩ (vSub2.rf _)
  · cases h

theorem vs_lcmp (hx : p.tables.exec = Jvm.exec) (hb : c.code = cc) (hW : vW cl D A s b sa sv hp ws tys H locs) (hL : vL b sa sv (vAd ws) nL ls lsA) (hT : vT b sa sv (vAd ws) st stV) (hdg : decode cc pc = .ok (.lcmp, 1)) (h : vLc (pc + 1) ls st hp = some (pc', ls', st', hp')) (kk : vK p l e R s m args below meth c Q cl D A b sa sv nL ws pc' ls' st' hp' cells slots) : W p l e R s m args below meth c H locs cells slots Q (F0 m pc lsA stV) := by
  unfold vLc at h
  split at h
  · next w u st0 =>
    rw [vF_eq, vF_eq] at h
    match stV, hT with
    | y :: [], hT => exact hT.2.elim
    | y :: x :: stV, hT =>
      obtain ⟨⟨hw, rfl⟩, ⟨hu, rfl⟩, hT9⟩ := hT
      refine W.lcmp hx hb hdg ?_
      rw [vl_cmp hu hw]
      generalize (u + 9223372036854775808) % 18446744073709551616 = U at h ⊢
      generalize (w + 9223372036854775808) % 18446744073709551616 = V at h ⊢
      cases h1 : Nat.blt U V with
      | true =>
        rw [h1] at h
        cases h
        rw [if_pos (Nat.blt_eq.mp h1)]
        exact kk ws tys H locs lsA _ hW hL ⟨⟨by omega, by decide⟩, hT9⟩ (vSub2.rf _)
      | false =>
        rw [h1] at h
        have h1 : ¬ U < V := fun q => by rw [Nat.blt_eq.mpr q] at h1; cases h1
        rw [if_neg h1]
        cases h2 : Nat.beq U V with
        | true =>
          rw [h2] at h
          cases h
          rw [if_pos (Nat.eq_of_beq_eq_true h2)]
          exact kk ws tys H locs lsA _ hW hL ⟨⟨by omega, by decide⟩, hT9⟩ (vSub2.rf _)
        | false =>
          rw [h2] at h
          cases h
          rw [if_neg (fun q => by rw [q, Nat.beq_refl] at h2; cases h2)]
          exact kk ws tys H locs lsA _ hW hL ⟨⟨by omega, by decide⟩, hT9⟩ (vSub2.rf _)
  · cases h

theorem vs_i2b (hx : p.tables.exec = Jvm.exec) (hb : c.code = cc) (hW : vW cl D A s b sa sv hp ws tys H locs) (hL : vL b sa sv (vAd ws) nL ls lsA) (hT : vT b sa sv (vAd ws) st stV) (hdg : decode cc pc = .ok (.i2b, 1)) (h : vI2b (pc + 1) ls st hp = some (pc', ls', st', hp')) (kk : vK p l e R s m args below meth c Q cl D A b sa sv nL ws pc' ls' st' hp' cells slots) : W p l e R s m args below meth c H locs cells slots Q (F0 m pc lsA stV) := by
  unfold vI2b at h
  split at h
  · next u st0 =>
    cases h
    match stV, hT with
    | y :: stV, hT =>
      obtain ⟨⟨-, rfl⟩, hT9⟩ := hT
      exact lv_i2b hx hb hdg rfl (kk ws tys H locs lsA _ hW hL ⟨⟨kn_lt _, congrArg Value.int (kn_nIb _).symm⟩, hT9⟩ (vSub2.rf _))
  · next v st0 hnk =>
    cases hk : Nat.beq (vKd v) 0 with
    | false => rw [hk] at h; cases h
    | true =>
      rw [hk] at h
      cases h
      match stV, hT with
      | y :: stV, hT =>
        obtain ⟨X, rfl⟩ := vKd0 hT.1 hk
        exact lv_i2b hx hb hdg rfl (kk ws tys H locs lsA _ hW hL ⟨vAny_ok _, hT.2⟩ (vSub2.rf _))
  · cases h

theorem vs_i2c (hx : p.tables.exec = Jvm.exec) (hb : c.code = cc) (hW : vW cl D A s b sa sv hp ws tys H locs) (hL : vL b sa sv (vAd ws) nL ls lsA) (hT : vT b sa sv (vAd ws) st stV) (hdg : decode cc pc = .ok (.i2c, 1)) (h : vI2c (pc + 1) ls st hp = some (pc', ls', st', hp')) (kk : vK p l e R s m args below meth c Q cl D A b sa sv nL ws pc' ls' st' hp' cells slots) : W p l e R s m args below meth c H locs cells slots Q (F0 m pc lsA stV) := by
  unfold vI2c at h
  split at h
  · next u st0 =>
    rw [vF_eq] at h
    cases h
    match stV, hT with
    | y :: stV, hT =>
      obtain ⟨⟨hu, rfl⟩, hT9⟩ := hT
      refine lv_i2c hx hb hdg (v := nI (u % 65536)) ?_ (kk ws tys H locs lsA _ hW hL ⟨⟨by omega, rfl⟩, hT9⟩ (vSub2.rf _))
      rw [pk_char, pk_tn (by omega)]
  · cases h

theorem vs_i2l (hx : p.tables.exec = Jvm.exec) (hb : c.code = cc) (hW : vW cl D A s b sa sv hp ws tys H locs) (hL : vL b sa sv (vAd ws) nL ls lsA) (hT : vT b sa sv (vAd ws) st stV) (hdg : decode cc pc = .ok (.i2l, 1)) (h : vI2l (pc + 1) ls st hp = some (pc', ls', st', hp')) (kk : vK p l e R s m args below meth c Q cl D A b sa sv nL ws pc' ls' st' hp' cells slots) : W p l e R s m args below meth c H locs cells slots Q (F0 m pc lsA stV) := by
  unfold vI2l at h
  split at h
  · next u st0 =>
    rw [vF_eq] at h
    match stV, hT with
    | y :: stV, hT =>
      obtain ⟨⟨hu, rfl⟩, hT9⟩ := hT
      refine lv_i2l hx hb hdg (vl_i2l hu) ?_
      cases h1 : Nat.blt u 2147483648 with
      | true =>
        rw [h1] at h
        cases h
        rw [if_pos (Nat.blt_eq.mp h1)]
        exact kk ws tys H locs lsA _ hW hL ⟨⟨by omega, rfl⟩, hT9⟩ (vSub2.rf _)
      | false =>
        rw [h1] at h
        cases h
        have h1 : ¬ u < 2147483648 := fun q => by rw [Nat.blt_eq.mpr q] at h1; cases h1
        rw [if_neg h1]
        exact kk ws tys H locs lsA _ hW hL ⟨⟨by omega, rfl⟩, hT9⟩ (vSub2.rf _)
  · cases h

theorem vs_l2i (hx : p.tables.exec = Jvm.exec) (hb : c.code = cc) (hW : vW cl D A s b sa sv hp ws tys H locs) (hL : vL b sa sv (vAd ws) nL ls lsA) (hT : vT b sa sv (vAd ws) st stV) (hdg : decode cc pc = .ok (.l2i, 1)) (h : vL2i (pc + 1) ls st hp = some (pc', ls', st', hp')) (kk : vK p l e R s m args below meth c Q cl D A b sa sv nL ws pc' ls' st' hp' cells slots) : W p l e R s m args below meth c H locs cells slots Q (F0 m pc lsA stV) := by
  unfold vL2i at h
  split at h
  · next u st0 =>
    rw [vF_eq] at h
    cases h
    match stV, hT with
    | y :: stV, hT =>
      obtain ⟨⟨hu, rfl⟩, hT9⟩ := hT
      exact lv_l2i hx hb hdg (vl_l2i hu) (kk ws tys H locs lsA _ hW hL ⟨⟨Nat.mod_lt _ (by decide), rfl⟩, hT9⟩ (vSub2.rf _))
  · cases h

theorem vs_lshl (hx : p.tables.exec = Jvm.exec) (hb : c.code = cc) (hW : vW cl D A s b sa sv hp ws tys H locs) (hL : vL b sa sv (vAd ws) nL ls lsA) (hT : vT b sa sv (vAd ws) st stV) (hdg : decode cc pc = .ok (.lshl, 1)) (h : vLsh (pc + 1) ls st hp = some (pc', ls', st', hp')) (kk : vK p l e R s m args below meth c Q cl D A b sa sv nL ws pc' ls' st' hp' cells slots) : W p l e R s m args below meth c H locs cells slots Q (F0 m pc lsA stV) := by
  unfold vLsh at h
  split at h
  · next w u st0 =>
    cases h
    match stV, hT with
    | y :: [], hT => exact hT.2.elim
    | y :: x :: stV, hT =>
      obtain ⟨⟨-, rfl⟩, ⟨-, rfl⟩, hT9⟩ := hT
      refine lv_lshl hx hb hdg rfl ?_
      exact kk ws tys H locs lsA _ hW hL ⟨⟨kl_lt _, congrArg Value.long (kl_lNb _).symm⟩, hT9⟩ (vSub2.rf _)
  · cases h
theorem vs_lor (hx : p.tables.exec = Jvm.exec) (hb : c.code = cc) (hW : vW cl D A s b sa sv hp ws tys H locs) (hL : vL b sa sv (vAd ws) nL ls lsA) (hT : vT b sa sv (vAd ws) st stV) (hdg : decode cc pc = .ok (.lor, 1)) (h : vL2 kLor (pc + 1) ls st hp = some (pc', ls', st', hp')) (kk : vK p l e R s m args below meth c Q cl D A b sa sv nL ws pc' ls' st' hp' cells slots) : W p l e R s m args below meth c H locs cells slots Q (F0 m pc lsA stV) := by
  unfold vL2 at h
  split at h
  · next w u st0 =>
    rw [vF_eq] at h
    cases h
    match stV, hT with
    | y :: [], hT => exact hT.2.elim
    | y :: x :: stV, hT =>
      obtain ⟨⟨-, rfl⟩, ⟨-, rfl⟩, hT9⟩ := hT
      refine lv_lor hx hb hdg ?_
      exact kk ws tys H locs lsA _ hW hL ⟨⟨kl_lt _, congrArg Value.long (kl_lNb _).symm⟩, hT9⟩ (vSub2.rf _)
  · cases h
theorem vs_look {dflt : Int} {ps : Array (Int × Int)} {len : Nat} (hx : p.tables.exec = Jvm.exec) (hb : c.code = cc) (hW : vW cl D A s b sa sv hp ws tys H locs) (hL : vL b sa sv (vAd ws) nL ls lsA) (hT : vT b sa sv (vAd ws) st stV) (hdg : decode cc pc = .ok (.lookupswitch dflt ps, len)) (h : vLoo pc dflt ps ls st hp = some (pc', ls', st', hp')) (kk : vK p l e R s m args below meth c Q cl D A b sa sv nL ws pc' ls' st' hp' cells slots) : W p l e R s m args below meth c H locs cells slots Q (F0 m pc lsA stV) := by
  unfold vLoo at h
  split at h
  · next u st0 =>
    cases hz : (ps.toList.zip (ps.toList.drop 1)).all (fun (a, next) => a.1 < next.1) with
    | false => rw [hz] at h; cases h
    | true =>
      rw [hz, cond_true] at h
      split at h
      · next h0 =>
        cases h
        match stV, hT with
        | y :: stV, hT =>
          obtain ⟨⟨-, rfl⟩, hT9⟩ := hT
          exact lv_lookup hx hb hdg hz rfl (Int.toNat_of_nonneg h0).symm (kk ws tys H locs lsA _ hW hL hT9 (vSub2.rf _))
      · cases h
  · cases h
theorem vs_ishr (hx : p.tables.exec = Jvm.exec) (hb : c.code = cc) (hW : vW cl D A s b sa sv hp ws tys H locs) (hL : vL b sa sv (vAd ws) nL ls lsA) (hT : vT b sa sv (vAd ws) st stV) (hdg : decode cc pc = .ok (.ishr, 1)) (h : vShrD (pc + 1) ls st hp = some (pc', ls', st', hp')) (kk : vK p l e R s m args below meth c Q cl D A b sa sv nL ws pc' ls' st' hp' cells slots) : W p l e R s m args below meth c H locs cells slots Q (F0 m pc lsA stV) := by
  unfold vShrD at h
  split at h
  · next w u st0 =>
    cases hk : Nat.blt u 2147483648 with
    | false =>
      rw [hk, cond_false] at h
      cases h
      match stV, hT with
      | y :: [], hT => exact hT.2.elim
      | y :: x :: stV, hT =>
        obtain ⟨⟨hw, rfl⟩, ⟨-, rfl⟩, hT9⟩ := hT
        refine lv_ishr hx hb hdg ?_
        exact kk ws tys H locs lsA _ hW hL ⟨⟨kn_lt _, congrArg Value.int (kn_nIb _).symm⟩, hT9⟩ (vSub2.rf _)
    | true =>
      rw [hk, cond_true, vF_eq] at h
      cases h
      have hu : u < 2 ^ 31 := Nat.blt_eq.mp hk
      match stV, hT with
      | y :: [], hT => exact hT.2.elim
      | y :: x :: stV, hT =>
        obtain ⟨⟨hw, rfl⟩, ⟨-, rfl⟩, hT9⟩ := hT
        refine lv_ishr hx hb hdg ?_
        rw [pk_shrN hu (nI w &&& 31) (w % 32) (by rw [vn_31 hw]; exact vn_s1 _ (Nat.mod_lt _ (by decide)))]
        exact kk ws tys H locs lsA _ hW hL ⟨⟨Nat.lt_of_le_of_lt (Nat.div_le_self _ _) (by omega), rfl⟩, hT9⟩ (vSub2.rf _)
  · next w q st0 =>
    cases h
    match stV, hT with
    | y :: [], hT => exact hT.2.elim
    | y :: x :: stV, hT =>
      obtain ⟨⟨hw, rfl⟩, ⟨X, rfl, -⟩, hT9⟩ := hT
      exact lv_ishr hx hb hdg (kk ws tys H locs lsA _ hW hL ⟨vAny_ok _, hT9⟩ (vSub2.rf _))
  · cases h

theorem vs_dup (hx : p.tables.exec = Jvm.exec) (hb : c.code = cc) (hW : vW cl D A s b sa sv hp ws tys H locs) (hL : vL b sa sv (vAd ws) nL ls lsA) (hT : vT b sa sv (vAd ws) st stV) (hdg : decode cc pc = .ok (.dup, 1)) (h : vDup (pc + 1) ls st hp = some (pc', ls', st', hp')) (kk : vK p l e R s m args below meth c Q cl D A b sa sv nL ws pc' ls' st' hp' cells slots) : W p l e R s m args below meth c H locs cells slots Q (F0 m pc lsA stV) := by
  unfold vDup at h
  split at h
  · next v st0 =>
    cases hk : Nat.beq (vKd v) 1 with
    | true => rw [hk] at h; cases h
    | false =>
      rw [hk] at h
      cases h
      match stV, hT with
      | y :: stV, hT => exact lv_dup hx hb hdg (vKd_cat hT.1 hk) (kk ws tys H locs lsA _ hW hL ⟨hT.1, hT⟩ (vSub2.rf _))
  · cases h

theorem vs_dup2 (hx : p.tables.exec = Jvm.exec) (hb : c.code = cc) (hW : vW cl D A s b sa sv hp ws tys H locs) (hL : vL b sa sv (vAd ws) nL ls lsA) (hT : vT b sa sv (vAd ws) st stV) (hdg : decode cc pc = .ok (.dup2, 1)) (h : vDup2 (pc + 1) ls st hp = some (pc', ls', st', hp')) (kk : vK p l e R s m args below meth c Q cl D A b sa sv nL ws pc' ls' st' hp' cells slots) : W p l e R s m args below meth c H locs cells slots Q (F0 m pc lsA stV) := by
  unfold vDup2 at h
  split at h
  · next v w st0 =>
    cases hk : (Nat.beq (vKd v) 1 || Nat.beq (vKd w) 1) with
    | true => rw [hk] at h; cases h
    | false =>
      rw [hk] at h
      cases h
      rw [Bool.or_eq_false_iff] at hk
      match stV, hT with
      | y :: [], hT => exact hT.2.elim
      | y :: x :: stV, hT => exact lv_dup2_11 hx hb hdg (vKd_cat hT.1 hk.1) (vKd_cat hT.2.1 hk.2) (kk ws tys H locs lsA _ hW hL ⟨hT.1, hT.2.1, hT⟩ (vSub2.rf _))
  · cases h

theorem vs_pop (hx : p.tables.exec = Jvm.exec) (hb : c.code = cc) (hW : vW cl D A s b sa sv hp ws tys H locs) (hL : vL b sa sv (vAd ws) nL ls lsA) (hT : vT b sa sv (vAd ws) st stV) (hdg : decode cc pc = .ok (.pop, 1)) (h : vPop (pc + 1) ls st hp = some (pc', ls', st', hp')) (kk : vK p l e R s m args below meth c Q cl D A b sa sv nL ws pc' ls' st' hp' cells slots) : W p l e R s m args below meth c H locs cells slots Q (F0 m pc lsA stV) := by
  unfold vPop at h
  split at h
  · next v st0 =>
    cases hk : Nat.beq (vKd v) 1 with
    | true => rw [hk] at h; cases h
    | false =>
      rw [hk] at h
      cases h
      match stV, hT with
      | y :: stV, hT => exact lv_pop hx hb hdg (vKd_cat hT.1 hk) (kk ws tys H locs lsA _ hW hL hT.2 (vSub2.rf _))
  · cases h

theorem vs_tableswitch (hx : p.tables.exec = Jvm.exec) (hb : c.code = cc) (hW : vW cl D A s b sa sv hp ws tys H locs) (hL : vL b sa sv (vAd ws) nL ls lsA) (hT : vT b sa sv (vAd ws) st stV) {dflt lo hi : Int} {offs : Array Int} {len : Nat} (hdg : decode cc pc = .ok (.tableswitch dflt lo hi offs, len)) (h : vTab pc dflt lo hi offs ls st hp = some (pc', ls', st', hp')) (kk : vK p l e R s m args below meth c Q cl D A b sa sv nL ws pc' ls' st' hp' cells slots) : W p l e R s m args below meth c H locs cells slots Q (F0 m pc lsA stV) := by
  unfold vTab at h
  split at h
  · next x0 st0 =>
    split at h
    · next q hq =>
      match stV, hT with
      | y :: stV, hT =>
        obtain ⟨X, rfl, x1, x2⟩ := vIv_ok hT.1 hq
        split at h
        · next hd =>
          split at h
          · next h0 =>
            cases h
            exact lv_tableOut hx hb hdg (by omega) (by omega) (kk ws tys H locs lsA _ hW hL hT.2 (vSub2.rf _))
          · cases h
        · split at h
          · next hd2 =>
            split at h
            · next off ho =>
              split at h
              · next h0 =>
                cases h
                have hX : X.toInt = (q.1 : Int) - 2147483648 := by omega
                exact lv_tableIn hx hb hdg (by omega) (by omega) (by rw [hX]; exact ho) (by omega) (kk ws tys H locs lsA _ hW hL hT.2 (vSub2.rf _))
              · cases h
            · cases h
          · cases h
    · cases h
  · cases h

end VS3
