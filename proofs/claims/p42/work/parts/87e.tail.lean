/-! ===== the exact cell: up to a place, then to the end ===== -/
noncomputable def sNo : sCal := fun _ _ _ _ => none
theorem sNo_ok {vms : List vMt} {df : List (List vAV)} {d : Nat} {md : sMd} {hp0 : List vOb} : sCalOK vms df d md hp0 sNo := fun j av h G L he => by cases he
def sMsub (md md' : sMd) : Bool := md.all (fun m => sMc md' m.1 m.2.1 m.2.2)
theorem sMsub_ok {md md' : sMd} (h : sMsub md md' = true) (k i : Nat) (hm : sMin md k i) : sMin md' k i := by
  obtain ⟨m, m1, m2, m3, m4⟩ := hm
  have := List.all_eq_true.mp h m m1
  rw [m2] at this
  exact sMc_ok this m3 m4
def sMnot (md : sMd) (k i : Nat) : Bool := md.all (fun m => !(Nat.beq m.1 k && (Nat.ble m.2.1 i && Nat.ble i m.2.2)))
theorem sMnot_ok {md : sMd} {k i : Nat} (h : sMnot md k i = true) : ¬ sMin md k i := fun ⟨m, m1, m2, m3, m4⟩ => by
  have := List.all_eq_true.mp h m m1
  rw [m2, Nat.beq_refl, Nat.ble_eq_true_of_le m3, Nat.ble_eq_true_of_le m4] at this
  cases this
/-- a cell that is told as a symbol and a number -/
def sTold (h : sHp) (k i c : Nat) : Bool := match sGo h k with
  | some o => (match sRd o.2.1 i with
    | some (.inl (.inr (.inl q))) => Nat.beq q.1 0 && Nat.beq q.2 c
    | _ => false)
  | none => false
theorem sTold_ok {ρ : List Nat} {h : sHp} {hp : List vOb} {k i c : Nat} (hh : sHr ρ h hp) (ht : sTold h k i c = true) {ob : vOb} {v : vAV} (h1 : hp[k]? = some ob) (h2 : ob.2[i]? = some v) : ∃ r, ρ[0]? = some r ∧ v = .inl (sUn r c) := by
  unfold sTold at ht
  split at ht
  · next o ho =>
    obtain ⟨ob', o1, o2⟩ := sHr_get hh ho
    rw [h1] at o1
    cases o1
    split at ht
    · next q hq =>
      rw [Bool.and_eq_true] at ht
      obtain ⟨r, r1, r2⟩ := o2.2.1.2 i _ v hq h2
      rw [Nat.eq_of_beq_eq_true ht.1] at r1
      rw [Nat.eq_of_beq_eq_true ht.2] at r2
      exact ⟨r, r1, r2⟩
    · cases ht
  · cases ht
theorem sUn_add (r c : Nat) : sUn r c = (sUn r 0 + c) % 4294967296 := by
  unfold sUn
  omega
noncomputable def xChk (vms : List vMt) (T : sHp) (scal : sCal) (md1 : sMd) (fuel : Nat) (x : sCtX) (op : sOp) (cuts : List sCut) (tm : sCut) : Bool := match vNth vms x.1.1, sTp x.2.1 x.1.2.2.1 with
  | some M, some h0 => (Nat.beq (mRm M).cells 0 && (Nat.beq (mRm M).slots 0 && Nat.ble (sArgs (sIni x.1.2.1 (0, [], [])).1).length M.2.2.1)) && ((sMch op scal md1 M.2.2.2.2.1 fuel cuts (fun σ => sArr none σ [tm]) none (0, sEnt (sIni x.1.2.1 (0, [], [])).1 M.2.2.1, [], h0, (sIni x.1.2.1 (0, [], [])).2) && cuts.all (fun c => rOk c.1.2.2.2.2 c.2.2 && sMch op scal md1 M.2.2.2.2.1 fuel cuts (fun σ => sArr none σ [tm]) (some c.2.2) c.1)) && ((sMsub md1 x.1.2.2.2.2 && (sMc x.1.2.2.2.2 x.2.2.1 x.2.2.2.1 x.2.2.2.1 && (sMnot md1 x.2.2.1 x.2.2.2.1 && sTold tm.1.2.2.2.1 x.2.2.1 x.2.2.2.1 0))) && (match sRunL sNo [(x.2.2.1, x.2.2.2.1, x.2.2.2.1)] M.2.2.2.2.1 (fun _ => false) fuel tm.1 with
      | some L => L.all (fun σ => cFin T M x.1 σ && sTold σ.2.2.2.1 x.2.2.1 x.2.2.2.1 x.2.2.2.2)
      | none => false)))
  | _, _ => false
theorem cOKx_of {vms : List vMt} {df : List (List vAV)} {d : Nat} {T : sHp} {scal : sCal} {md1 : sMd} {fuel : Nat} {x : sCtX} {op : sOp} {cuts : List sCut} {tm : sCut} (hn : x.1.2.2.2.1 = none) (hs : ∀ hp0, sCalOK vms df d md1 hp0 scal) (h : xChk vms T scal md1 fuel x op cuts tm = true) : cOKx vms df (d + 1) T x := by
  intro kav hp hav hty
  unfold xChk at h
  rw [vNth_eq] at h
  split at h
  · next M h0 hM hh0 =>
    rw [Bool.and_eq_true, Bool.and_eq_true, Bool.and_eq_true, Bool.and_eq_true, Bool.and_eq_true, Bool.and_eq_true, Bool.and_eq_true, Bool.and_eq_true, Bool.and_eq_true] at h
    obtain ⟨⟨b1, b2, b3⟩, ⟨b4, b5⟩, ⟨c1, c2, c3, c4⟩, c5⟩ := h
    have hG0 : sGr [] (0, [], []) := ⟨rfl, fun e he => (by cases he), fun t ht => (by cases ht)⟩
    obtain ⟨xs, i1, i2⟩ := sIni_ok hav hG0
    rw [List.nil_append] at i1 i2
    obtain ⟨q1, q2⟩ := sEnt_ok i2 M.2.2.1
    obtain ⟨κ, k1, ⟨e1, ρ1, e2⟩⟩ := sWhole (Q := fun κ => κ.1 = tm.1.1 ∧ ∃ ρ', sR md1 hp ρ' tm.1.2.1 tm.1.2.2.1 tm.1.2.2.2.1 tm.1.2.2.2.2 κ.2.1 κ.2.2.1 κ.2.2.2) (mc := 0) (ms := 0) (hs hp) (fun σ ρ kl ks hp1 hf hR => by
        obtain ⟨c, m1, m2, ρ', m3, -⟩ := sArr_ok hR hf
        rw [List.mem_singleton] at m1
        subst m1
        exact ⟨m2.symm, ρ', m3⟩) (fun c hc => by
        have := List.all_eq_true.mp b5 c hc
        rw [Bool.and_eq_true] at this
        exact this) b4 (ρ := xs) (kl := vEnt kav M.2.2.1) (ks := []) (hp := hp) ⟨q1, trivial, sHr_nil (sTp_ok hh0 hty), i1, sFr.rf _ _⟩
    obtain ⟨pc1, kl1, ks1, hp1⟩ := κ
    dsimp only at e1 e2
    subst e1
    split at c5
    · next L hL =>
      obtain ⟨σ', s1, ys, kl2, ks2, hp2, s2, s3, -⟩ := sRunL_ok (mc := 0) (ms := 0) (vms := vms) (df := df) (d := d) (hp0 := hp1) sNo_ok fuel tm.1 L hL ρ1 kl1 ks1 hp1 ⟨e2.1, e2.2.1, e2.2.2.1, e2.2.2.2.1, sFr.rf _ _⟩
      have hall := List.all_eq_true.mp c5 σ' s1
      rw [Bool.and_eq_true] at hall
      have hfin := hall.1
      unfold cFin at hfin
      split at hfin
      · next y hy =>
        obtain ⟨i, len, a, b, t⟩ := y
        rw [Bool.and_eq_true] at hfin
        have h2 := hfin.2
        split at h2
        · next r hr =>
          rw [Bool.and_eq_true] at h2
          obtain ⟨kr, r1, r2⟩ := sRetV_ok s3.2.2.2.1 s3.2.1 hr
          have r3 := sRtB_ok s3.2.2.2.1 h2.1 r2
          rw [hn] at r3
          have r4 : kr = none := by
            cases kr with
            | none => rfl
            | some v => exact r3.elim
          subst r4
          have f1 : sFr x.1.2.2.2.2 hp hp1 := e2.2.2.2.2.mono (sMsub_ok c1)
          have f2 : sFr x.1.2.2.2.2 hp1 hp2 := s3.2.2.2.2.mono (fun k j ⟨m, m1, m2, m3, m4⟩ => by
            rw [List.mem_singleton] at m1
            subst m1
            rw [← m2]
            exact sMc_ok c2 m3 m4)
          refine ⟨hp2, kCal_of hM (by rw [q2]; exact Nat.le_of_ble_eq_true b3) (Nat.eq_of_beq_eq_true b1) (Nat.eq_of_beq_eq_true b2) (k1.tr s2) hy hfin.1 r1, f1.tr f2, sTlc_ok s3.2.2.2.1 s3.2.2.1 h2.2, fun ob u g1 g2 => ?_⟩
          obtain ⟨ob1, g3, -, g4, g5⟩ := e2.2.2.2.2.2 _ _ g1
          have g6 := g5 _ (sMnot_ok c3)
          rw [g2] at g6
          obtain ⟨w, w1, w2⟩ := sTold_ok e2.2.2.1 c4 g3 g6
          obtain ⟨ob2, g7, -, g8, -⟩ := s3.2.2.2.2.2 _ _ g3
          have hlt : x.2.2.2.1 < ob2.2.length := by
            rw [g8, g4]
            exact (List.getElem?_eq_some_iff.mp g2).1
          obtain ⟨w', w3, w4⟩ := sTold_ok s3.2.2.1 hall.2 g7 (List.getElem?_eq_getElem hlt)
          refine ⟨ob2, g7, ?_⟩
          rw [List.getElem?_eq_getElem hlt, w4]
          rw [sApp_get ys w1] at w3
          have e5 := Option.some.inj w3
          subst e5
          have e6 : u = sUn w 0 := Sum.inl.inj w2
          rw [e6, ← sUn_add]
        · cases h2
      · cases hfin
    · cases c5
  · cases h
