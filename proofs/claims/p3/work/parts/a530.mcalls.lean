/-! ===== the calls of the reference, by their contracts ===== -/
def hTrN (v : Nat) : sHp := match v with
  | 0 => hTr0
  | 1 => hTr1
  | 2 => hTr2
  | _ => hTr3
theorem hTrN_is (v : Nat) : ∃ o, hTrN v = (222, o) :: hT := by
  unfold hTrN
  split
  · exact ⟨_, rfl⟩
  · exact ⟨_, rfl⟩
  · exact ⟨_, rfl⟩
  · exact ⟨_, rfl⟩
def plM : List Nat := [220, 221, 222, 223, 224, 225, 226, 227, 228, 229, 230, 231, 232, 233, 234, 235, 236, 237, 238, 239, 240, 241, 242, 243, 244, 245, 246, 247]
/-- rows of the reference alone, neither an image nor the codes -/
def mdM (md : sMd) : Bool := md.all (fun m => (Nat.ble 220 m.1 && Nat.ble m.1 247) && (!Nat.beq m.1 245 && !(Nat.beq m.1 222 && Nat.ble 142 m.2.2)))
theorem mdM_ok {md : sMd} (h : mdM md = true) {k i : Nat} (hm : sMin md k i) : 220 ≤ k ∧ k ≤ 247 ∧ k ≠ 245 ∧ (k = 222 → i < 142) := by
  obtain ⟨m, m1, m2, m3, m4⟩ := hm
  have h1 := List.all_eq_true.mp h m m1
  rw [Bool.and_eq_true, Bool.and_eq_true, Bool.and_eq_true] at h1
  obtain ⟨⟨q1, q2⟩, q3, q4⟩ := h1
  have q1 := Nat.le_of_ble_eq_true q1
  have q2 := Nat.le_of_ble_eq_true q2
  refine ⟨by omega, by omega, fun e => ?_, fun e => ?_⟩
  · rw [m2, e, Nat.beq_refl] at q3
    cases q3
  · by_cases hi : i < 142
    · exact hi
    · rw [m2, e, Nat.beq_refl, Nat.ble_eq_true_of_le (show 142 ≤ m.2.2 by omega)] at q4
      cases q4
def mOK (j k v : Nat) : Prop := ∀ (hp : List vOb) (args : List vAV), kTy (hTrN v) plM hp → args.length = k → ints args → ∃ u hp' md, (∃ N, ∀ fuel, N ≤ fuel → vCalD vms vdf fuel 60 j (yV 220 :: args) hp = some (some (.inl u), hp', 0, 0)) ∧ u < 4294967296 ∧ kTy (hTrN v) plM hp' ∧ sFr md hp hp' ∧ mdM md = true
def mB (e : sCtE) : Bool := e.2.2.1.all (fun k => sStop k plM) && (mdM e.2.2.2.2 && plM.all (fun k => sStop k e.2.2.1 || !sHas k e.2.2.2.2))
theorem plM_mem {pl : List Nat} (h : pl.all (fun k => sStop k plM) = true) : ∀ k ∈ pl, k ∈ plM := fun k hk => sStop_mem (List.all_eq_true.mp h k hk)
theorem mOK_of {e : sCtE} {k v : Nat} {S : sSet} (hc : cOK vms vdf 60 (hTrN v) e) (ha : e.2.1 = yO 220 :: List.replicate k zF) (hr : e.2.2.2.1 = some (.inr S)) (hB : mB e = true) : mOK e.1 k v := by
  intro hp args hty hl hi
  unfold mB at hB
  rw [Bool.and_eq_true, Bool.and_eq_true] at hB
  obtain ⟨b1, b2, b3⟩ := hB
  obtain ⟨r, hp', h1, h2, h3, h4⟩ := hc (yV 220 :: args) hp (by rw [ha]; exact ⟨rfl, sAr_full k hl hi⟩) (kTy_sub (plM_mem b1) hty)
  rw [hr] at h2
  obtain ⟨u, u1, u2⟩ := sRt_int h2
  subst u2
  exact ⟨u, hp', _, h1, u1, kTy_upd b3 h3 hty h4, h3, b2⟩
theorem mOK_of0 {e : sCtE} {k v : Nat} {S : sSet} (hc : cOK vms vdf 60 hT e) (ha : e.2.1 = yO 220 :: List.replicate k zF) (hr : e.2.2.2.1 = some (.inr S)) (hB : mB e = true) (hs : tSame 222 e.2.2.1 = true) : mOK e.1 k v := by
  intro hp args hty hl hi
  unfold mB at hB
  rw [Bool.and_eq_true, Bool.and_eq_true] at hB
  obtain ⟨b1, b2, b3⟩ := hB
  obtain ⟨o, ho⟩ := hTrN_is v
  have hty0 : kTy hT e.2.2.1 hp := by
    have h := kTy_sub (plM_mem b1) hty
    rw [ho] at h
    exact (kTy_cons hs).mp h
  obtain ⟨r, hp', h1, h2, h3, h4⟩ := hc (yV 220 :: args) hp (by rw [ha]; exact ⟨rfl, sAr_full k hl hi⟩) hty0
  rw [hr] at h2
  obtain ⟨u, u1, u2⟩ := sRt_int h2
  subst u2
  refine ⟨u, hp', _, h1, u1, kTy_upd b3 h3 hty ?_, h3, b2⟩
  rw [ho]
  exact (kTy_cons hs).mpr h4
