/-! ===== the length of the tape: class and reference have the same ===== -/
/-- rows that hold no keyword -/
def mdK0 (md : sMd) : Bool := md.all (fun m => !Nat.beq m.1 3 && (!Nat.beq m.1 226 && !(Nat.beq m.1 220 && (Nat.ble m.2.1 10 && Nat.ble 10 m.2.2))))
/-- nor a length, nor a byte of the tape -/
def mdB0 (md : sMd) : Bool := md.all (fun m => (!(Nat.beq m.1 0 && (Nat.ble m.2.1 1 && Nat.ble 1 m.2.2)) && !(Nat.beq m.1 220 && (Nat.ble m.2.1 2 && Nat.ble 2 m.2.2))) && ((!Nat.beq m.1 2 && !Nat.beq m.1 221) && (!Nat.beq m.1 3 && (!Nat.beq m.1 226 && !(Nat.beq m.1 220 && (Nat.ble m.2.1 10 && Nat.ble 10 m.2.2))))))
theorem mdK0_ok {md : sMd} (h : mdK0 md = true) : (∀ i, ¬ sMin md 3 i) ∧ (∀ i, ¬ sMin md 226 i) ∧ ¬ sMin md 220 10 := by
  refine ⟨fun i ⟨m, m1, m2, m3, m4⟩ => ?_, fun i ⟨m, m1, m2, m3, m4⟩ => ?_, fun ⟨m, m1, m2, m3, m4⟩ => ?_⟩
  · have h1 := List.all_eq_true.mp h m m1
    rw [Bool.and_eq_true, m2] at h1
    exact absurd h1.1 (by decide)
  · have h1 := List.all_eq_true.mp h m m1
    rw [Bool.and_eq_true, Bool.and_eq_true, m2] at h1
    exact absurd h1.2.1 (by decide)
  · have h1 := List.all_eq_true.mp h m m1
    rw [Bool.and_eq_true, Bool.and_eq_true, m2, Nat.ble_eq_true_of_le m3, Nat.ble_eq_true_of_le m4] at h1
    exact absurd h1.2.2 (by decide)
theorem mdB_ok0 {md : sMd} (h : mdB0 md = true) : ¬ sMin md 0 1 ∧ ¬ sMin md 220 2 := by
  refine ⟨fun ⟨m, m1, m2, m3, m4⟩ => ?_, fun ⟨m, m1, m2, m3, m4⟩ => ?_⟩
  · have h1 := List.all_eq_true.mp h m m1
    rw [Bool.and_eq_true, Bool.and_eq_true, m2, Nat.ble_eq_true_of_le m3, Nat.ble_eq_true_of_le m4] at h1
    exact absurd h1.1.1 (by decide)
  · have h1 := List.all_eq_true.mp h m m1
    rw [Bool.and_eq_true, Bool.and_eq_true, m2, Nat.ble_eq_true_of_le m3, Nat.ble_eq_true_of_le m4] at h1
    exact absurd h1.1.2 (by decide)
theorem mdB_t0 {md : sMd} (h : mdB0 md = true) : (∀ i, ¬ sMin md 2 i) ∧ (∀ i, ¬ sMin md 221 i) := by
  refine ⟨fun i ⟨m, m1, m2, m3, m4⟩ => ?_, fun i ⟨m, m1, m2, m3, m4⟩ => ?_⟩
  · have h1 := List.all_eq_true.mp h m m1
    rw [Bool.and_eq_true, Bool.and_eq_true, Bool.and_eq_true, m2] at h1
    exact absurd h1.2.1 (by decide)
  · have h1 := List.all_eq_true.mp h m m1
    rw [Bool.and_eq_true, Bool.and_eq_true, Bool.and_eq_true, m2] at h1
    exact absurd h1.2.1 (by decide)
theorem mdB_k0 {md : sMd} (h : mdB0 md = true) : mdK0 md = true := List.all_eq_true.mpr (fun m m1 => by
  have h1 := List.all_eq_true.mp h m m1
  rw [Bool.and_eq_true, Bool.and_eq_true (a := !Nat.beq m.1 2 && !Nat.beq m.1 221)] at h1
  exact h1.2.2)
/-- nor a TOWN, nor an image of one -/
def mdI (md : sMd) : Bool := md.all (fun m => (!(Nat.beq m.1 0 && (Nat.ble m.2.1 2 && Nat.ble 2 m.2.2)) && !(Nat.beq m.1 222 && Nat.ble m.2.1 63)) && ((!(Nat.ble 4 m.1 && Nat.ble m.1 29) && !(Nat.ble 162 m.1 && Nat.ble m.1 175)) && (!(Nat.ble 191 m.1 && Nat.ble m.1 204) && (!Nat.beq m.1 245 && !Nat.beq m.1 247))))
def mdK (md : sMd) : Bool := mdK0 md && mdI md
def mdB (md : sMd) : Bool := mdB0 md && mdI md
theorem bnt {a : Bool} (h : (!a) = true) : ¬ a = true := by
  cases a
  · exact fun e => by cases e
  · cases h
theorem mdI_ok {md : sMd} (h : mdI md = true) {k i : Nat} (hm : sMin md k i) : ¬ (k = 0 ∧ i = 2) ∧ ¬ (k = 222 ∧ i ≤ 63) ∧ ¬ (4 ≤ k ∧ k ≤ 29) ∧ ¬ (162 ≤ k ∧ k ≤ 175) ∧ ¬ (191 ≤ k ∧ k ≤ 204) ∧ k ≠ 245 ∧ k ≠ 247 := by
  obtain ⟨m, m1, m2, m3, m4⟩ := hm
  have h1 := List.all_eq_true.mp h m m1
  rw [Bool.and_eq_true, Bool.and_eq_true, Bool.and_eq_true, Bool.and_eq_true, Bool.and_eq_true, Bool.and_eq_true] at h1
  obtain ⟨⟨a1, a2⟩, ⟨a3, a4⟩, a5, a6, a7⟩ := h1
  rw [m2] at a1 a2 a3 a4 a5 a6 a7
  refine ⟨fun ⟨e1, e2⟩ => bnt a1 ?_, fun ⟨e1, e2⟩ => bnt a2 ?_, fun ⟨e1, e2⟩ => bnt a3 ?_, fun ⟨e1, e2⟩ => bnt a4 ?_, fun ⟨e1, e2⟩ => bnt a5 ?_, fun e => bnt a6 ?_, fun e => bnt a7 ?_⟩
  · rw [e1, Nat.ble_eq_true_of_le (by omega : m.2.1 ≤ 2), Nat.ble_eq_true_of_le (by omega : 2 ≤ m.2.2)]
    rfl
  · rw [e1, Nat.ble_eq_true_of_le (by omega : m.2.1 ≤ 63)]
    rfl
  · rw [Nat.ble_eq_true_of_le e1, Nat.ble_eq_true_of_le e2]
    rfl
  · rw [Nat.ble_eq_true_of_le e1, Nat.ble_eq_true_of_le e2]
    rfl
  · rw [Nat.ble_eq_true_of_le e1, Nat.ble_eq_true_of_le e2]
    rfl
  · rw [e]
    rfl
  · rw [e]
    rfl
theorem mdB_ok {md : sMd} (h : mdB md = true) : ¬ sMin md 0 1 ∧ ¬ sMin md 220 2 := by
  unfold mdB at h
  rw [Bool.and_eq_true] at h
  exact mdB_ok0 h.1
theorem mdB_t {md : sMd} (h : mdB md = true) : (∀ i, ¬ sMin md 2 i) ∧ (∀ i, ¬ sMin md 221 i) := by
  unfold mdB at h
  rw [Bool.and_eq_true] at h
  exact mdB_t0 h.1
theorem mdB_k {md : sMd} (h : mdB md = true) : mdK md = true := by
  unfold mdB at h
  unfold mdK
  rw [Bool.and_eq_true] at h ⊢
  exact ⟨mdB_k0 h.1, h.2⟩
/-- the keywords -/
def KR0 (hp : List vOb) : Prop := ∃ K R, kwOK K R ∧ (∀ i, i < 25 → hC hp 3 i (.inr (.inr (.inl (K i)))) ∧ K i < 18446744073709551616) ∧ mRs hp R
/-- the TOWN, and the images -/
def TWr (hp : List vOb) : Prop := ∃ t s q p r hm fx TK BR ST, (t = 4 ∨ t = 17) ∧ hC hp 0 2 (.inr (.inr (.inr (.inl (some t))))) ∧ TB s q p r hm fx TK BR ST ∧ CT t hp s q p r hm fx TK BR ST ∧ MT 0 222 hp s q p r hm fx TK BR ST
def IMk (k : Nat) (hp : List vOb) : Prop := (hC hp (162 + 29 * k) 3 (.inl 0) ∧ hC hp 247 k (.inl 0)) ∨ (hC hp (162 + 29 * k) 3 (.inl 1) ∧ hC hp 247 k (.inl 1) ∧ ∃ s q p r hm fx TK BR ST, TB s q p r hm fx TK BR ST ∧ CT (163 + 29 * k) hp s q p r hm fx TK BR ST ∧ MT (323 * k) 245 hp s q p r hm fx TK BR ST)
def IMr (hp : List vOb) : Prop := ∀ k, k < 2 → IMk k hp
def TI (hp : List vOb) : Prop := TWr hp ∧ IMr hp
def KR (hp : List vOb) : Prop := KR0 hp ∧ TI hp
theorem plC_in {k : Nat} (h : k < 220) : k ∈ plC := List.mem_range.mpr h
/-- the tape -/
def TP (hp : List vOb) : Prop := ∃ (n : Nat) (τ : Nat → Nat), n ≤ 940 ∧ hC hp 0 1 (.inl n) ∧ hC hp 220 2 (.inl n) ∧ ∀ i, i < n → hC hp 2 i (.inl (τ i)) ∧ hC hp 221 i (.inl (τ i))
def RB (hp : List vOb) : Prop := TP hp ∧ KR hp
def Iv3 (hp : List vOb) : Prop := Iv hp ∧ RB hp
theorem KR0_keep {md : sMd} {hp hp' : List vOb} (hf : sFr md hp hp') (hm : mdK0 md = true) (h : KR0 hp) : KR0 hp' := by
  obtain ⟨K, R, h1, h2, h3, h4⟩ := h
  obtain ⟨m1, m2, m3⟩ := mdK0_ok hm
  exact ⟨K, R, h1, fun i hi => ⟨hC_fr hf (m1 i) (h2 i hi).1, (h2 i hi).2⟩, hC_fr hf m3 h3, fun i hi => ⟨hC_fr hf (m2 i) (h4 i hi).1, (h4 i hi).2⟩⟩
theorem MT_fr {b k : Nat} {md : sMd} {hp hp' : List vOb} {s q p r hm fx : Nat} {TK BR ST : Nat → Nat} (hr : r ≤ 5) (hf : sFr md hp hp') (hn : ∀ i, b ≤ i → i < b + 32 → ¬ sMin md k i) (h : MT b k hp s q p r hm fx TK BR ST) : MT b k hp' s q p r hm fx TK BR ST := by
  obtain ⟨h0, h1, h2, h3, h4, h5, h6, h7, h8⟩ := h
  exact ⟨hC_fr hf (hn _ (by omega) (by omega)) h0, hC_fr hf (hn _ (by omega) (by omega)) h1, hC_fr hf (hn _ (by omega) (by omega)) h2, hC_fr hf (hn _ (by omega) (by omega)) h3, hC_fr hf (hn _ (by omega) (by omega)) h4, hC_fr hf (hn _ (by omega) (by omega)) h5, fun i hi => hC_fr hf (hn _ (by omega) (by omega)) (h6 i hi), fun i hi => hC_fr hf (hn _ (by omega) (by omega)) (h7 i hi), fun i hi => hC_fr hf (hn _ (by omega) (by omega)) (h8 i hi)⟩
theorem MT_cp {a b k l : Nat} {hp hp' : List vOb} {s q p r hm fx : Nat} {TK BR ST : Nat → Nat} (hr : r ≤ 5) (hc : ∀ j, j < 323 → ∀ v, hC hp k (a + j) (.inl v) → hC hp' l (b + j) (.inl v)) (h : MT a k hp s q p r hm fx TK BR ST) : MT b l hp' s q p r hm fx TK BR ST := by
  obtain ⟨h0, h1, h2, h3, h4, h5, h6, h7, h8⟩ := h
  exact ⟨hc 0 (by omega) _ h0, hc 1 (by omega) _ h1, hc 2 (by omega) _ h2, hc 3 (by omega) _ h3, hc 4 (by omega) _ h4, hc 5 (by omega) _ h5, fun i hi => by
    rw [Nat.add_assoc]
    exact hc (6 + i) (by omega) _ (by rw [← Nat.add_assoc]; exact h6 i hi), fun i hi => by
    rw [Nat.add_assoc]
    exact hc (27 + i) (by omega) _ (by rw [← Nat.add_assoc]; exact h7 i hi), fun i hi => by
    rw [Nat.add_assoc]
    exact hc (17 + i) (by omega) _ (by rw [← Nat.add_assoc]; exact h8 i hi)⟩
theorem TWr_keep {md : sMd} {hp hp' : List vOb} (hf : sFr md hp hp') (hm : ∀ k i, sMin md k i → ¬ (k = 0 ∧ i = 2) ∧ ¬ (k = 222 ∧ i ≤ 63) ∧ ¬ (4 ≤ k ∧ k ≤ 29)) (h : TWr hp) : TWr hp' := by
  obtain ⟨t, s, q, p, r, hm', fx, TK, BR, ST, ht, h02, hB, hC', hM⟩ := h
  refine ⟨t, s, q, p, r, hm', fx, TK, BR, ST, ht, hC_fr hf (fun h => (hm _ _ h).1 ⟨rfl, rfl⟩) h02, hB, CT_fr hf (fun k i hk h => ?_) hC', MT_fr hB.2.2.2.1 hf (fun i h1 h2 h => (hm _ _ h).2.1 ⟨rfl, by omega⟩) hM⟩
  have := (hm _ _ h).2.2
  omega
theorem IMk_keep {k : Nat} (hk : k < 2) {md : sMd} {hp hp' : List vOb} (hf : sFr md hp hp') (hm : ∀ r i, sMin md r i → ¬ (162 + 29 * k ≤ r ∧ r ≤ 175 + 29 * k) ∧ ¬ (r = 245 ∧ 323 * k ≤ i ∧ i < 323 * k + 323) ∧ ¬ (r = 247 ∧ i = k)) (h : IMk k hp) : IMk k hp' := by
  rcases h with ⟨h1, h2⟩ | ⟨h1, h2, s, q, p, r, hm', fx, TK, BR, ST, hB, hC', hM⟩
  · exact Or.inl ⟨hC_fr hf (fun h => (hm _ _ h).1 ⟨by omega, by omega⟩) h1, hC_fr hf (fun h => (hm _ _ h).2.2 ⟨rfl, rfl⟩) h2⟩
  · refine Or.inr ⟨hC_fr hf (fun h => (hm _ _ h).1 ⟨by omega, by omega⟩) h1, hC_fr hf (fun h => (hm _ _ h).2.2 ⟨rfl, rfl⟩) h2, s, q, p, r, hm', fx, TK, BR, ST, hB, CT_fr hf (fun k i hk h => ?_) hC', MT_fr hB.2.2.2.1 hf (fun i h1 h2 h => (hm _ _ h).2.1 ⟨rfl, by omega, by omega⟩) hM⟩
    have := (hm _ _ h).1
    omega
theorem TI_keep {md : sMd} {hp hp' : List vOb} (hf : sFr md hp hp') (hm : mdI md = true) (h : TI hp) : TI hp' := ⟨TWr_keep hf (fun k i h => ⟨(mdI_ok hm h).1, (mdI_ok hm h).2.1, (mdI_ok hm h).2.2.1⟩) h.1, fun k hk => IMk_keep hk hf (fun r i h => by
  obtain ⟨-, -, -, a4, a5, a6, a7⟩ := mdI_ok hm h
  exact ⟨by omega, by omega, by omega⟩) (h.2 k hk)⟩
theorem KR_keep {md : sMd} {hp hp' : List vOb} (hf : sFr md hp hp') (hm : mdK md = true) (h : KR hp) : KR hp' := by
  unfold mdK at hm
  rw [Bool.and_eq_true] at hm
  exact ⟨KR0_keep hf hm.1 h.1, TI_keep hf hm.2 h.2⟩
theorem TP_keep {md : sMd} {hp hp' : List vOb} (hf : sFr md hp hp') (h1 : ¬ sMin md 0 1) (h2 : ¬ sMin md 220 2) (h3 : ∀ i, ¬ sMin md 2 i) (h4 : ∀ i, ¬ sMin md 221 i) (h : TP hp) : TP hp' := by
  obtain ⟨n, τ, n1, n2, n3, n4⟩ := h
  exact ⟨n, τ, n1, hC_fr hf h1 n2, hC_fr hf h2 n3, fun i hi => ⟨hC_fr hf (h3 i) (n4 i hi).1, hC_fr hf (h4 i) (n4 i hi).2⟩⟩
theorem RB_keep {md : sMd} {hp hp' : List vOb} (hf : sFr md hp hp') (hm : mdB md = true) (h : RB hp) : RB hp' := ⟨TP_keep hf (mdB_ok hm).1 (mdB_ok hm).2 (mdB_t hm).1 (mdB_t hm).2 h.1, KR_keep hf (mdB_k hm) h.2⟩
/-- the machine's calls have one answer -/
theorem cal_det3 {d j : Nat} {av : List vAV} {hp hp1 hp2 : List vOb} {r1 r2 : Option vAV} (h1 : ∃ N, ∀ fuel, N ≤ fuel → vCalD vms vdf fuel d j av hp = some (r1, hp1, 0, 0)) (h2 : ∃ N, ∀ fuel, N ≤ fuel → vCalD vms vdf fuel d j av hp = some (r2, hp2, 0, 0)) : r1 = r2 ∧ hp1 = hp2 := by
  obtain ⟨N1, h1⟩ := h1
  obtain ⟨N2, h2⟩ := h2
  have a := h1 (max N1 N2) (by omega)
  rw [h2 (max N1 N2) (by omega)] at a
  have a := Option.some.inj a
  have b := Prod.mk.inj a
  exact ⟨b.1.symm, (Prod.mk.inj b.2).1.symm⟩
/-- what a call writes holds no flag -/
def FbOK (o j k : Nat) : Prop := ∀ (hp : List vOb) (args : List vAV), Iv hp → args.length = k → (∀ a ∈ args, ∃ u, u < 4294967296 ∧ a = .inl u) → ∃ r hp' md, (∃ N, ∀ fuel, N ≤ fuel → vCalD vms vdf fuel 60 j (yV o :: args) hp = some (r, hp', 0, 0)) ∧ sFr md hp hp' ∧ mdB md = true
theorem Call3 {o j k : Nat} (h : CallOK Iv o j k) (hf : FbOK o j k) : CallOK Iv3 o j k := by
  intro hp args ⟨hI, hR⟩ hl hi
  obtain ⟨u, hp', h1, h2, h3⟩ := h hp args hI hl hi
  obtain ⟨r, hp2, md, g1, g2, g3⟩ := hf hp args hI hl hi
  have e := (cal_det3 h1 g1).2
  rw [← e] at g2
  exact ⟨u, hp', h1, h2, h3, RB_keep g2 g3 hR⟩
/-! by contracts -/
def xFb (j k c : Nat) : Prop := ∀ (hp : List vOb) (args : List vAV), kTy (hTcN c) plC hp → args.length = k → ints args → ∃ r hp' md, (∃ N, ∀ fuel, N ≤ fuel → vCalD vms vdf fuel 60 j (yV 0 :: args) hp = some (r, hp', 0, 0)) ∧ sFr md hp hp' ∧ mdB md = true
def mFb (j k v : Nat) : Prop := ∀ (hp : List vOb) (args : List vAV), kTy (hTrN v) plM hp → args.length = k → ints args → ∃ r hp' md, (∃ N, ∀ fuel, N ≤ fuel → vCalD vms vdf fuel 60 j (yV 220 :: args) hp = some (r, hp', 0, 0)) ∧ sFr md hp hp' ∧ mdB md = true
def xBb (e : sCtE) : Bool := e.2.2.1.all (fun k => Nat.blt k 220) && mdB e.2.2.2.2
theorem xFb_of {e : sCtE} {k c : Nat} (hc : cOK vms vdf 60 (hTcN c) e) (ha : e.2.1 = yO 0 :: List.replicate k zF) (hB : xBb e = true) : xFb e.1 k c := by
  intro hp args hty hl hi
  unfold xBb at hB
  rw [Bool.and_eq_true] at hB
  obtain ⟨r, hp', h1, h2, h3, h4⟩ := hc (yV 0 :: args) hp (by rw [ha]; exact ⟨rfl, sAr_full k hl hi⟩) (kTy_sub (plC_mem hB.1) hty)
  exact ⟨r, hp', _, h1, h3, hB.2⟩
theorem xFb_ofS {e : sCtE} {k c c1 c2 : Nat} (hc : pOK vms vdf 60 (hTcN c) [hTcN c1, hTcN c2] e) (ha : e.2.1 = yO 0 :: List.replicate k zF) (hB : xBb e = true) : xFb e.1 k c := by
  intro hp args hty hl hi
  unfold xBb at hB
  rw [Bool.and_eq_true] at hB
  obtain ⟨r, hp', h1, h2, h3, -⟩ := hc (yV 0 :: args) hp (by rw [ha]; exact ⟨rfl, sAr_full k hl hi⟩) (kTy_sub (plC_mem hB.1) hty)
  exact ⟨r, hp', _, h1, h3, hB.2⟩
def mBb (e : sCtE) : Bool := e.2.2.1.all (fun k => sStop k plM) && mdB e.2.2.2.2
theorem mFb_of {e : sCtE} {k v : Nat} (hc : cOK vms vdf 60 (hTrN v) e) (ha : e.2.1 = yO 220 :: List.replicate k zF) (hB : mBb e = true) : mFb e.1 k v := by
  intro hp args hty hl hi
  unfold mBb at hB
  rw [Bool.and_eq_true] at hB
  obtain ⟨r, hp', h1, h2, h3, h4⟩ := hc (yV 220 :: args) hp (by rw [ha]; exact ⟨rfl, sAr_full k hl hi⟩) (kTy_sub (plM_mem hB.1) hty)
  exact ⟨r, hp', _, h1, h3, hB.2⟩
theorem mFb_of0 {e : sCtE} {k v : Nat} (hc : cOK vms vdf 60 hT e) (ha : e.2.1 = yO 220 :: List.replicate k zF) (hB : mBb e = true) (hs : tSame 222 e.2.2.1 = true) : mFb e.1 k v := by
  intro hp args hty hl hi
  unfold mBb at hB
  rw [Bool.and_eq_true] at hB
  obtain ⟨o, ho⟩ := hTrN_is v
  have hty0 : kTy hT e.2.2.1 hp := by
    have h := kTy_sub (plM_mem hB.1) hty
    rw [ho] at h
    exact (kTy_cons hs).mp h
  obtain ⟨r, hp', h1, h2, h3, h4⟩ := hc (yV 220 :: args) hp (by rw [ha]; exact ⟨rfl, sAr_full k hl hi⟩) hty0
  exact ⟨r, hp', _, h1, h3, hB.2⟩
theorem xFb2 {j k : Nat} (h : ∀ c, c < 4 → xFb j k c) : FbOK 0 j k := fun hp args hI hl hi => by
  obtain ⟨⟨⟨c, c1, c2⟩, -⟩, -⟩ := hI
  exact h c c1 hp args c2 hl hi
theorem mFb2 {j k : Nat} (h : ∀ v, v < 4 → mFb j k v) : FbOK 220 j k := fun hp args hI hl hi => by
  obtain ⟨-, ⟨v, v1, v2⟩, -, -⟩ := hI
  exact h v v1 hp args v2 hl hi
theorem xCall3 {j k : Nat} (h : ∀ c, c < 4 → xOK j k c) (hf : ∀ c, c < 4 → xFb j k c) : CallOK Iv3 0 j k := Call3 (xCall h) (xFb2 hf)
theorem mCall3 {j k : Nat} (h : ∀ v, v < 4 → mOK j k v) (hf : ∀ v, v < 4 → mFb j k v) : CallOK Iv3 220 j k := Call3 (mCall h) (mFb2 hf)
