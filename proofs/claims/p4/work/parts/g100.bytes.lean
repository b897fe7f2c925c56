/-! ===== the length of the tape: class and reference have the same ===== -/
/-- rows that hold no keyword -/
def mdK (md : sMd) : Bool := md.all (fun m => !Nat.beq m.1 3 && (!Nat.beq m.1 226 && !(Nat.beq m.1 220 && (Nat.ble m.2.1 10 && Nat.ble 10 m.2.2))))
/-- nor a length, nor a byte of the tape -/
def mdB (md : sMd) : Bool := md.all (fun m => (!(Nat.beq m.1 0 && (Nat.ble m.2.1 1 && Nat.ble 1 m.2.2)) && !(Nat.beq m.1 220 && (Nat.ble m.2.1 2 && Nat.ble 2 m.2.2))) && ((!Nat.beq m.1 2 && !Nat.beq m.1 221) && (!Nat.beq m.1 3 && (!Nat.beq m.1 226 && !(Nat.beq m.1 220 && (Nat.ble m.2.1 10 && Nat.ble 10 m.2.2))))))
theorem mdK_ok {md : sMd} (h : mdK md = true) : (∀ i, ¬ sMin md 3 i) ∧ (∀ i, ¬ sMin md 226 i) ∧ ¬ sMin md 220 10 := by
  refine ⟨fun i ⟨m, m1, m2, m3, m4⟩ => ?_, fun i ⟨m, m1, m2, m3, m4⟩ => ?_, fun ⟨m, m1, m2, m3, m4⟩ => ?_⟩
  · have h1 := List.all_eq_true.mp h m m1
    rw [Bool.and_eq_true, m2] at h1
    exact absurd h1.1 (by decide)
  · have h1 := List.all_eq_true.mp h m m1
    rw [Bool.and_eq_true, Bool.and_eq_true, m2] at h1
    exact absurd h1.2.1 (by decide)
  · have h1 := List.all_eq_true.mp h m m1
    rw [Bool.and_eq_true, Bool.and_eq_true, m2, Nat.ble_eq_true_of_le m3, Nat.ble_eq_true_of_le m4] at h1
    exact absurd h1.2.2 (by decide)
theorem mdB_ok {md : sMd} (h : mdB md = true) : ¬ sMin md 0 1 ∧ ¬ sMin md 220 2 := by
  refine ⟨fun ⟨m, m1, m2, m3, m4⟩ => ?_, fun ⟨m, m1, m2, m3, m4⟩ => ?_⟩
  · have h1 := List.all_eq_true.mp h m m1
    rw [Bool.and_eq_true, Bool.and_eq_true, m2, Nat.ble_eq_true_of_le m3, Nat.ble_eq_true_of_le m4] at h1
    exact absurd h1.1.1 (by decide)
  · have h1 := List.all_eq_true.mp h m m1
    rw [Bool.and_eq_true, Bool.and_eq_true, m2, Nat.ble_eq_true_of_le m3, Nat.ble_eq_true_of_le m4] at h1
    exact absurd h1.1.2 (by decide)
theorem mdB_t {md : sMd} (h : mdB md = true) : (∀ i, ¬ sMin md 2 i) ∧ (∀ i, ¬ sMin md 221 i) := by
  refine ⟨fun i ⟨m, m1, m2, m3, m4⟩ => ?_, fun i ⟨m, m1, m2, m3, m4⟩ => ?_⟩
  · have h1 := List.all_eq_true.mp h m m1
    rw [Bool.and_eq_true, Bool.and_eq_true, Bool.and_eq_true, m2] at h1
    exact absurd h1.2.1 (by decide)
  · have h1 := List.all_eq_true.mp h m m1
    rw [Bool.and_eq_true, Bool.and_eq_true, Bool.and_eq_true, m2] at h1
    exact absurd h1.2.1 (by decide)
theorem mdB_k {md : sMd} (h : mdB md = true) : mdK md = true := List.all_eq_true.mpr (fun m m1 => by
  have h1 := List.all_eq_true.mp h m m1
  rw [Bool.and_eq_true, Bool.and_eq_true (a := !Nat.beq m.1 2 && !Nat.beq m.1 221)] at h1
  exact h1.2.2)
/-- the keywords -/
def KR (hp : List vOb) : Prop := ∃ K R, kwOK K R ∧ (∀ i, i < 25 → hC hp 3 i (.inr (.inr (.inl (K i)))) ∧ K i < 18446744073709551616) ∧ mRs hp R
/-- the tape -/
theorem plC_in {k : Nat} (h : k < 220) : k ∈ plC := List.mem_range.mpr h
def TP (hp : List vOb) : Prop := ∃ (n : Nat) (τ : Nat → Nat), n ≤ 940 ∧ hC hp 0 1 (.inl n) ∧ hC hp 220 2 (.inl n) ∧ ∀ i, i < n → hC hp 2 i (.inl (τ i)) ∧ hC hp 221 i (.inl (τ i))
def RB (hp : List vOb) : Prop := TP hp ∧ KR hp
def Iv3 (hp : List vOb) : Prop := Iv hp ∧ RB hp
theorem KR_keep {md : sMd} {hp hp' : List vOb} (hf : sFr md hp hp') (hm : mdK md = true) (h : KR hp) : KR hp' := by
  obtain ⟨K, R, h1, h2, h3, h4⟩ := h
  obtain ⟨m1, m2, m3⟩ := mdK_ok hm
  exact ⟨K, R, h1, fun i hi => ⟨hC_fr hf (m1 i) (h2 i hi).1, (h2 i hi).2⟩, hC_fr hf m3 h3, fun i hi => ⟨hC_fr hf (m2 i) (h4 i hi).1, (h4 i hi).2⟩⟩
theorem RB_keep {md : sMd} {hp hp' : List vOb} (hf : sFr md hp hp') (hm : mdB md = true) (h : RB hp) : RB hp' := by
  obtain ⟨⟨n, τ, n1, n2, n3, n4⟩, h2⟩ := h
  exact ⟨⟨n, τ, n1, hC_fr hf (mdB_ok hm).1 n2, hC_fr hf (mdB_ok hm).2 n3, fun i hi => ⟨hC_fr hf ((mdB_t hm).1 i) (n4 i hi).1, hC_fr hf ((mdB_t hm).2 i) (n4 i hi).2⟩⟩, KR_keep hf (mdB_k hm) h2⟩
/-- the machine's calls have one answer -/
theorem cal_det3 {d j : Nat} {av : List vAV} {hp hp1 hp2 : List vOb} {r1 r2 : Option vAV} (h1 : ∃ N, ∀ fuel, N ≤ fuel → vCalD vms vdf fuel d j av hp = some (r1, hp1, 0, 0)) (h2 : ∃ N, ∀ fuel, N ≤ fuel → vCalD vms vdf fuel d j av hp = some (r2, hp2, 0, 0)) : r1 = r2 ∧ hp1 = hp2 := by
  obtain ⟨N1, h1⟩ := h1
  obtain ⟨N2, h2⟩ := h2
  have a := h1 (max N1 N2) (by omega)
  rw [h2 (max N1 N2) (by omega)] at a
  have a := Option.some.inj a
  have b := Prod.mk.inj a
  exact ⟨b.1.symm, (Prod.mk.inj b.2).1.symm⟩
/-- what a call writes holds no flag -/
def FbOK (o j k : Nat) : Prop := ∀ (hp : List vOb) (args : List vAV), Iv hp → args.length = k → (∀ a ∈ args, ∃ u, u < 4294967296 ∧ a = .inl u) → ∃ r hp' md, (∃ N, ∀ fuel, N ≤ fuel → vCalD vms vdf fuel 60 j (yV o :: args) hp = some (r, hp', 0, 0)) ∧ sFr md hp hp' ∧ mdB md = true
theorem Call3 {o j k : Nat} (h : CallOK Iv o j k) (hf : FbOK o j k) : CallOK Iv3 o j k := by
  intro hp args ⟨hI, hR⟩ hl hi
  obtain ⟨u, hp', h1, h2, h3⟩ := h hp args hI hl hi
  obtain ⟨r, hp2, md, g1, g2, g3⟩ := hf hp args hI hl hi
  have e := (cal_det3 h1 g1).2
  rw [← e] at g2
  exact ⟨u, hp', h1, h2, h3, RB_keep g2 g3 hR⟩
/-! by contracts -/
def xFb (j k c : Nat) : Prop := ∀ (hp : List vOb) (args : List vAV), kTy (hTcN c) plC hp → args.length = k → ints args → ∃ r hp' md, (∃ N, ∀ fuel, N ≤ fuel → vCalD vms vdf fuel 60 j (yV 0 :: args) hp = some (r, hp', 0, 0)) ∧ sFr md hp hp' ∧ mdB md = true
def mFb (j k v : Nat) : Prop := ∀ (hp : List vOb) (args : List vAV), kTy (hTrN v) plM hp → args.length = k → ints args → ∃ r hp' md, (∃ N, ∀ fuel, N ≤ fuel → vCalD vms vdf fuel 60 j (yV 220 :: args) hp = some (r, hp', 0, 0)) ∧ sFr md hp hp' ∧ mdB md = true
def xBb (e : sCtE) : Bool := e.2.2.1.all (fun k => Nat.blt k 220) && mdB e.2.2.2.2
theorem xFb_of {e : sCtE} {k c : Nat} (hc : cOK vms vdf 60 (hTcN c) e) (ha : e.2.1 = yO 0 :: List.replicate k zF) (hB : xBb e = true) : xFb e.1 k c := by
  intro hp args hty hl hi
  unfold xBb at hB
  rw [Bool.and_eq_true] at hB
  obtain ⟨r, hp', h1, h2, h3, h4⟩ := hc (yV 0 :: args) hp (by rw [ha]; exact ⟨rfl, sAr_full k hl hi⟩) (kTy_sub (plC_mem hB.1) hty)
  exact ⟨r, hp', _, h1, h3, hB.2⟩
theorem xFb_ofS {e : sCtE} {k c c1 c2 : Nat} (hc : pOK vms vdf 60 (hTcN c) [hTcN c1, hTcN c2] e) (ha : e.2.1 = yO 0 :: List.replicate k zF) (hB : xBb e = true) : xFb e.1 k c := by
  intro hp args hty hl hi
  unfold xBb at hB
  rw [Bool.and_eq_true] at hB
  obtain ⟨r, hp', h1, h2, h3, -⟩ := hc (yV 0 :: args) hp (by rw [ha]; exact ⟨rfl, sAr_full k hl hi⟩) (kTy_sub (plC_mem hB.1) hty)
  exact ⟨r, hp', _, h1, h3, hB.2⟩
def mBb (e : sCtE) : Bool := e.2.2.1.all (fun k => sStop k plM) && mdB e.2.2.2.2
theorem mFb_of {e : sCtE} {k v : Nat} (hc : cOK vms vdf 60 (hTrN v) e) (ha : e.2.1 = yO 220 :: List.replicate k zF) (hB : mBb e = true) : mFb e.1 k v := by
  intro hp args hty hl hi
  unfold mBb at hB
  rw [Bool.and_eq_true] at hB
  obtain ⟨r, hp', h1, h2, h3, h4⟩ := hc (yV 220 :: args) hp (by rw [ha]; exact ⟨rfl, sAr_full k hl hi⟩) (kTy_sub (plM_mem hB.1) hty)
  exact ⟨r, hp', _, h1, h3, hB.2⟩
theorem mFb_of0 {e : sCtE} {k v : Nat} (hc : cOK vms vdf 60 hT e) (ha : e.2.1 = yO 220 :: List.replicate k zF) (hB : mBb e = true) (hs : tSame 222 e.2.2.1 = true) : mFb e.1 k v := by
  intro hp args hty hl hi
  unfold mBb at hB
  rw [Bool.and_eq_true] at hB
  obtain ⟨o, ho⟩ := hTrN_is v
  have hty0 : kTy hT e.2.2.1 hp := by
    have h := kTy_sub (plM_mem hB.1) hty
    rw [ho] at h
    exact (kTy_cons hs).mp h
  obtain ⟨r, hp', h1, h2, h3, h4⟩ := hc (yV 220 :: args) hp (by rw [ha]; exact ⟨rfl, sAr_full k hl hi⟩) hty0
  exact ⟨r, hp', _, h1, h3, hB.2⟩
theorem xFb2 {j k : Nat} (h : ∀ c, c < 4 → xFb j k c) : FbOK 0 j k := fun hp args hI hl hi => by
  obtain ⟨⟨⟨c, c1, c2⟩, -⟩, -⟩ := hI
  exact h c c1 hp args c2 hl hi
theorem mFb2 {j k : Nat} (h : ∀ v, v < 4 → mFb j k v) : FbOK 220 j k := fun hp args hI hl hi => by
  obtain ⟨-, ⟨v, v1, v2⟩, -, -⟩ := hI
  exact h v v1 hp args v2 hl hi
theorem xCall3 {j k : Nat} (h : ∀ c, c < 4 → xOK j k c) (hf : ∀ c, c < 4 → xFb j k c) : CallOK Iv3 0 j k := Call3 (xCall h) (xFb2 hf)
theorem mCall3 {j k : Nat} (h : ∀ v, v < 4 → mOK j k v) (hf : ∀ v, v < 4 → mFb j k v) : CallOK Iv3 220 j k := Call3 (mCall h) (mFb2 hf)
