/-! ===== the flags of the images: class and reference have the same ===== -/
/-- rows that hold no flag -/
def mdF (md : sMd) : Bool := md.all (fun m => !Nat.beq m.1 162 && (!Nat.beq m.1 191 && !Nat.beq m.1 247))
theorem mdF_ok {md : sMd} (h : mdF md = true) {k i : Nat} (hm : sMin md k i) : k ≠ 162 ∧ k ≠ 191 ∧ k ≠ 247 := by
  obtain ⟨m, m1, m2, -⟩ := hm
  have h1 := List.all_eq_true.mp h m m1
  rw [Bool.and_eq_true, Bool.and_eq_true, m2] at h1
  obtain ⟨q1, q2, q3⟩ := h1
  refine ⟨fun e => ?_, fun e => ?_, fun e => ?_⟩
  · rw [e] at q1; cases q1
  · rw [e] at q2; cases q2
  · rw [e] at q3; cases q3
def RK (hp : List vOb) : Prop := ∀ k, k < 2 → ∃ f, f < 2 ∧ hC hp (162 + 29 * k) 3 (.inl f) ∧ hC hp 247 k (.inl f)
def Iv2 (hp : List vOb) : Prop := Iv hp ∧ RK hp
theorem RK_keep {md : sMd} {hp hp' : List vOb} (hf : sFr md hp hp') (hm : mdF md = true) (h : RK hp) : RK hp' := fun k hk => by
  obtain ⟨f, f1, f2, f3⟩ := h k hk
  refine ⟨f, f1, hC_fr hf (fun hi => ?_) f2, hC_fr hf (fun hi => (mdF_ok hm hi).2.2 rfl) f3⟩
  have := mdF_ok hm hi
  have : k = 0 ∨ k = 1 := by omega
  rcases this with rfl | rfl <;> omega
/-- the machine's calls have one answer -/
theorem cal_det {d j : Nat} {av : List vAV} {hp hp1 hp2 : List vOb} {r1 r2 : Option vAV} (h1 : ∃ N, ∀ fuel, N ≤ fuel → vCalD vms vdf fuel d j av hp = some (r1, hp1, 0, 0)) (h2 : ∃ N, ∀ fuel, N ≤ fuel → vCalD vms vdf fuel d j av hp = some (r2, hp2, 0, 0)) : r1 = r2 ∧ hp1 = hp2 := by
  obtain ⟨N1, h1⟩ := h1
  obtain ⟨N2, h2⟩ := h2
  have a := h1 (max N1 N2) (by omega)
  rw [h2 (max N1 N2) (by omega)] at a
  have a := Option.some.inj a
  have b := Prod.mk.inj a
  exact ⟨b.1.symm, (Prod.mk.inj b.2).1.symm⟩
/-- what a call writes holds no flag -/
def FrOK (o j k : Nat) : Prop := ∀ (hp : List vOb) (args : List vAV), Iv hp → args.length = k → (∀ a ∈ args, ∃ u, u < 4294967296 ∧ a = .inl u) → ∃ r hp' md, (∃ N, ∀ fuel, N ≤ fuel → vCalD vms vdf fuel 60 j (yV o :: args) hp = some (r, hp', 0, 0)) ∧ sFr md hp hp' ∧ mdF md = true
theorem Call2 {o j k : Nat} (h : CallOK Iv o j k) (hf : FrOK o j k) : CallOK Iv2 o j k := by
  intro hp args ⟨hI, hR⟩ hl hi
  obtain ⟨u, hp', h1, h2, h3⟩ := h hp args hI hl hi
  obtain ⟨r, hp2, md, g1, g2, g3⟩ := hf hp args hI hl hi
  have e := (cal_det h1 g1).2
  rw [← e] at g2
  exact ⟨u, hp', h1, h2, h3, RK_keep g2 g3 hR⟩
/-! by contracts -/
def xFr (j k c : Nat) : Prop := ∀ (hp : List vOb) (args : List vAV), kTy (hTcN c) plC hp → args.length = k → ints args → ∃ r hp' md, (∃ N, ∀ fuel, N ≤ fuel → vCalD vms vdf fuel 60 j (yV 0 :: args) hp = some (r, hp', 0, 0)) ∧ sFr md hp hp' ∧ mdF md = true
def mFr (j k v : Nat) : Prop := ∀ (hp : List vOb) (args : List vAV), kTy (hTrN v) plM hp → args.length = k → ints args → ∃ r hp' md, (∃ N, ∀ fuel, N ≤ fuel → vCalD vms vdf fuel 60 j (yV 220 :: args) hp = some (r, hp', 0, 0)) ∧ sFr md hp hp' ∧ mdF md = true
def xBf (e : sCtE) : Bool := e.2.2.1.all (fun k => Nat.blt k 220) && mdF e.2.2.2.2
theorem xFr_of {e : sCtE} {k c : Nat} (hc : cOK vms vdf 60 (hTcN c) e) (ha : e.2.1 = yO 0 :: List.replicate k zF) (hB : xBf e = true) : xFr e.1 k c := by
  intro hp args hty hl hi
  unfold xBf at hB
  rw [Bool.and_eq_true] at hB
  obtain ⟨r, hp', h1, h2, h3, h4⟩ := hc (yV 0 :: args) hp (by rw [ha]; exact ⟨rfl, sAr_full k hl hi⟩) (kTy_sub (plC_mem hB.1) hty)
  exact ⟨r, hp', _, h1, h3, hB.2⟩
theorem xFr_ofS {e : sCtE} {k c c1 c2 : Nat} (hc : pOK vms vdf 60 (hTcN c) [hTcN c1, hTcN c2] e) (ha : e.2.1 = yO 0 :: List.replicate k zF) (hB : xBf e = true) : xFr e.1 k c := by
  intro hp args hty hl hi
  unfold xBf at hB
  rw [Bool.and_eq_true] at hB
  obtain ⟨r, hp', h1, h2, h3, -⟩ := hc (yV 0 :: args) hp (by rw [ha]; exact ⟨rfl, sAr_full k hl hi⟩) (kTy_sub (plC_mem hB.1) hty)
  exact ⟨r, hp', _, h1, h3, hB.2⟩
def mBf (e : sCtE) : Bool := e.2.2.1.all (fun k => sStop k plM) && mdF e.2.2.2.2
theorem mFr_of {e : sCtE} {k v : Nat} (hc : cOK vms vdf 60 (hTrN v) e) (ha : e.2.1 = yO 220 :: List.replicate k zF) (hB : mBf e = true) : mFr e.1 k v := by
  intro hp args hty hl hi
  unfold mBf at hB
  rw [Bool.and_eq_true] at hB
  obtain ⟨r, hp', h1, h2, h3, h4⟩ := hc (yV 220 :: args) hp (by rw [ha]; exact ⟨rfl, sAr_full k hl hi⟩) (kTy_sub (plM_mem hB.1) hty)
  exact ⟨r, hp', _, h1, h3, hB.2⟩
theorem mFr_of0 {e : sCtE} {k v : Nat} (hc : cOK vms vdf 60 hT e) (ha : e.2.1 = yO 220 :: List.replicate k zF) (hB : mBf e = true) (hs : tSame 222 e.2.2.1 = true) : mFr e.1 k v := by
  intro hp args hty hl hi
  unfold mBf at hB
  rw [Bool.and_eq_true] at hB
  obtain ⟨o, ho⟩ := hTrN_is v
  have hty0 : kTy hT e.2.2.1 hp := by
    have h := kTy_sub (plM_mem hB.1) hty
    rw [ho] at h
    exact (kTy_cons hs).mp h
  obtain ⟨r, hp', h1, h2, h3, h4⟩ := hc (yV 220 :: args) hp (by rw [ha]; exact ⟨rfl, sAr_full k hl hi⟩) hty0
  exact ⟨r, hp', _, h1, h3, hB.2⟩
theorem xFr2 {j k : Nat} (h : ∀ c, c < 4 → xFr j k c) : FrOK 0 j k := fun hp args hI hl hi => by
  obtain ⟨⟨⟨c, c1, c2⟩, -⟩, -⟩ := hI
  exact h c c1 hp args c2 hl hi
theorem mFr2 {j k : Nat} (h : ∀ v, v < 4 → mFr j k v) : FrOK 220 j k := fun hp args hI hl hi => by
  obtain ⟨-, ⟨v, v1, v2⟩, -, -⟩ := hI
  exact h v v1 hp args v2 hl hi
theorem xCall2 {j k : Nat} (h : ∀ c, c < 4 → xOK j k c) (hf : ∀ c, c < 4 → xFr j k c) : CallOK Iv2 0 j k := Call2 (xCall h) (xFr2 hf)
theorem mCall2 {j k : Nat} (h : ∀ v, v < 4 → mOK j k v) (hf : ∀ v, v < 4 → mFr j k v) : CallOK Iv2 220 j k := Call2 (mCall h) (mFr2 hf)
