/-! ===== the calls that write the length, both sides ===== -/
def EqOK3 (jx jm k : Nat) : Prop := ∀ (hp : List vOb) (args : List vAV), Iv3 hp → args.length = k → (∀ a ∈ args, ∃ u, u < 4294967296 ∧ a = .inl u) → ∃ r hp1, r < 4294967296 ∧ (∃ N, ∀ fuel, N ≤ fuel → vCalD vms vdf fuel 60 jx (yV 0 :: args) hp = some (some (.inl r), hp1, 0, 0)) ∧ Iv hp1 ∧ ∃ hp2, (∃ N, ∀ fuel, N ≤ fuel → vCalD vms vdf fuel 60 jm (yV 220 :: args) hp1 = some (some (.inl r), hp2, 0, 0)) ∧ Iv3 hp2
def PairOK3 (jx jm k : Nat) : Prop := ∀ (hp : List vOb) (args : List vAV), Iv3 hp → args.length = k → (∀ a ∈ args, ∃ u, u < 4294967296 ∧ a = .inl u) → ∃ u hp1, (∃ N, ∀ fuel, N ≤ fuel → vCalD vms vdf fuel 60 jx (yV 0 :: args) hp = some (some (.inl u), hp1, 0, 0)) ∧ u < 4294967296 ∧ Iv hp1 ∧ ∃ v hp2, (∃ N, ∀ fuel, N ≤ fuel → vCalD vms vdf fuel 60 jm (yV 220 :: args) hp1 = some (some (.inl v), hp2, 0, 0)) ∧ v < 4294967296 ∧ Iv3 hp2
theorem Pair_of_Eq {jx jm k : Nat} (h : EqOK3 jx jm k) : PairOK3 jx jm k := by
  intro hp args hI hl hi
  obtain ⟨r, hp1, hr, h1, h2, hp2, h3, h4⟩ := h hp args hI hl hi
  exact ⟨r, hp1, h1, hr, h2, r, hp2, h3, hr, h4⟩
/-- what feed() asks of the rows -/
def fdT (c : Nat) : Bool := ([(0, 88, 19), (1, 48, 13), (2, 2, 940)] : List (Nat × Nat × Nat)).all (fun e => sStop e.1 plC && (match sGo (hTcN c) e.1 with
  | some o => Nat.beq o.1 e.2.1 && Nat.beq (sLen o.2.1) e.2.2
  | none => false))
theorem fdT_k : (fdT 0 && (fdT 1 && (fdT 2 && fdT 3))) = true := by decide +kernel
theorem fdT_ok : ∀ c, c < 4 → fdT c = true := by
  have h := fdT_k
  rw [Bool.and_eq_true, Bool.and_eq_true, Bool.and_eq_true] at h
  exact four (P := fun c => fdT c = true) h.1 h.2.1 h.2.2.1 h.2.2.2
def fdU (v : Nat) : Bool := ([(220, 96, 60), (221, 2, 940)] : List (Nat × Nat × Nat)).all (fun e => sStop e.1 plM && (match sGo (hTrN v) e.1 with
  | some o => Nat.beq o.1 e.2.1 && Nat.beq (sLen o.2.1) e.2.2
  | none => false))
theorem fdU_k : (fdU 0 && (fdU 1 && (fdU 2 && fdU 3))) = true := by decide +kernel
theorem fdU_ok : ∀ v, v < 4 → fdU v = true := by
  have h := fdU_k
  rw [Bool.and_eq_true, Bool.and_eq_true, Bool.and_eq_true] at h
  exact four (P := fun v => fdU v = true) h.1 h.2.1 h.2.2.1 h.2.2.2
def rfX (c : Nat) : Prop := ∀ hp, kTy (hTcN c) plC hp → hC hp 0 0 (.inr (.inr (.inr (.inl (some 1))))) ∧ hC hp 1 0 (.inr (.inr (.inr (.inl (some 2)))))
theorem rfX_0 : rfX 0 := fun hp h => ⟨ref_ty (T := hTc0) (plC_in (by decide)) rfl rfl h, ref_ty (T := hTc0) (plC_in (by decide)) rfl rfl h⟩
theorem rfX_1 : rfX 1 := fun hp h => ⟨ref_ty (T := hTc1) (plC_in (by decide)) rfl rfl h, ref_ty (T := hTc1) (plC_in (by decide)) rfl rfl h⟩
theorem rfX_2 : rfX 2 := fun hp h => ⟨ref_ty (T := hTc2) (plC_in (by decide)) rfl rfl h, ref_ty (T := hTc2) (plC_in (by decide)) rfl rfl h⟩
theorem rfX_3 : rfX 3 := fun hp h => ⟨ref_ty (T := hTc3) (plC_in (by decide)) rfl rfl h, ref_ty (T := hTc3) (plC_in (by decide)) rfl rfl h⟩
def rfM (v : Nat) : Prop := ∀ hp, kTy (hTrN v) plM hp → hC hp 220 1 (.inr (.inr (.inr (.inl (some 221)))))
theorem rfM_0 : rfM 0 := fun hp h => ref_ty (T := hTr0) (by decide) rfl rfl h
theorem rfM_1 : rfM 1 := fun hp h => ref_ty (T := hTr1) (by decide) rfl rfl h
theorem rfM_2 : rfM 2 := fun hp h => ref_ty (T := hTr2) (by decide) rfl rfl h
theorem rfM_3 : rfM 3 := fun hp h => ref_ty (T := hTr3) (by decide) rfl rfl h
theorem eq_feed : EqOK3 26 28 5 := by
  intro hp args ⟨hI, ⟨n, τ, hn, hx, hm, hT⟩, hK⟩ hl hi
  obtain ⟨u, hp1, a1, a2, hI1⟩ := xCall (four xk_feed_0 xk_feed_1 xk_feed_2 xk_feed_3) hp args hI hl hi
  obtain ⟨c, c1, c2⟩ := hI.1.1
  obtain ⟨hp1', b1, b2, b3⟩ := four (P := xFeedP) xfeed_0 xfeed_1 xfeed_2 xfeed_3 c c1 hp n args hl hi c2 hn hx
  have e := (cal_det3 b1 a1).2
  subst e
  have hm1 : hC hp1' 220 2 (.inl n) := hC_fr b3 (sMnot_ok rfl) hm
  obtain ⟨u2, hp2, d1, d2, hI2⟩ := mCall (four mk_feed_0 mk_feed_1 mk_feed_2 mk_feed_3) hp1' args hI1 hl hi
  obtain ⟨v, v1, v2⟩ := hI1.2.1
  obtain ⟨hp2', g1, g2, g3⟩ := mfeed_x v1 hp1' n args hl hi v2 hn hm1
  have e := (cal_det3 g1 d1).2
  subst e
  have KR2 : KR hp2' := KR_keep g3 (by decide) (KR_keep b3 (by decide) hK)
  refine ⟨fdR n, hp1', ?_, b1, hI1, hp2', g1, hI2, ?_, KR2⟩
  · unfold fdR
    split <;> omega
  · have T2 : ∀ i, i < n → hC hp1' 221 i (.inl (τ i)) := fun i h => hC_fr b3 (fun ⟨m, m1, m2, m3, m4⟩ => by
      simp only [fxM, List.mem_cons, List.not_mem_nil, or_false] at m1
      rcases m1 with rfl | rfl <;> dsimp only at m2 <;> omega) (hT i h).2
    have sX := eSh_ty (fdT_ok c c1) c2
    have sM := eSh_ty (fdU_ok v v1) v2
    match args, hl, hi with
    | [x1, x2, x3, x4, x5], hl, hi =>
      obtain ⟨y1, l1, e1⟩ := hi x1 (by simp)
      obtain ⟨y2, l2, e2⟩ := hi x2 (by simp)
      obtain ⟨y3, l3, e3⟩ := hi x3 (by simp)
      obtain ⟨y4, l4, e4⟩ := hi x4 (by simp)
      obtain ⟨y5, l5, e5⟩ := hi x5 (by simp)
      subst e1 e2 e3 e4 e5
      by_cases h20 : n ≤ 920
      · obtain ⟨q1, q2⟩ := four (P := rfX) rfX_0 rfX_1 rfX_2 rfX_3 c c1 hp c2
        have q3 := four (P := rfM) rfM_0 rfM_1 rfM_2 rfM_3 v v1 hp1' v2
        obtain ⟨r, hpx, k1, k2, k3⟩ := fdx h20 l1 l2 l3 l4 l5 sX q1 q2 hx
        have e := (cal_det3 k1 a1).2
        subst e
        obtain ⟨r', hpy, w1, w2, w3⟩ := fdm h20 l1 l2 l3 l4 l5 sM q3 hm1
        have e := (cal_det3 w1 d1).2
        subst e
        refine ⟨n + 20, fun i => if i < n then τ i else fB [y1, y2, y3, y4, y5] (i - n), by omega, hC_fr w3 (fun ⟨m, m1, m2, m3, m4⟩ => by
          simp only [List.mem_cons, List.not_mem_nil, or_false] at m1
          rcases m1 with rfl | rfl <;> dsimp only at m2 <;> omega) (by rw [fdC, if_pos h20] at b2; exact b2), by rw [fdC, if_pos h20] at g2; exact g2, fun i h => ?_⟩
        by_cases c : i < n
        · dsimp only
          rw [if_pos c]
          refine ⟨hC_fr w3 (fun ⟨m, m1, m2, m3, m4⟩ => by
            simp only [List.mem_cons, List.not_mem_nil, or_false] at m1
            rcases m1 with rfl | rfl <;> dsimp only at m2 <;> omega) (hC_fr k3 (fun ⟨m, m1, m2, m3, m4⟩ => by
            simp only [List.mem_cons, List.not_mem_nil, or_false] at m1
            rcases m1 with rfl | rfl <;> dsimp only at m2 m3 <;> omega) (hT i c).1), hC_fr w3 (fun ⟨m, m1, m2, m3, m4⟩ => by
            simp only [List.mem_cons, List.not_mem_nil, or_false] at m1
            rcases m1 with rfl | rfl <;> dsimp only at m2 m3 <;> omega) (T2 i c)⟩
        · dsimp only
          rw [if_neg c]
          obtain ⟨j, rfl⟩ : ∃ j, i = n + j := ⟨i - n, by omega⟩
          have e : n + j - n = j := by omega
          rw [e]
          exact ⟨hC_fr w3 (fun ⟨m, m1, m2, m3, m4⟩ => by
            simp only [List.mem_cons, List.not_mem_nil, or_false] at m1
            rcases m1 with rfl | rfl <;> dsimp only at m2 <;> omega) (k2 j (by omega)), w2 j (by omega)⟩
      · obtain ⟨r, hpx, k1, k3⟩ := fdxN (a := y1) (b := y2) (c := y3) (e := y4) (f := y5) (by omega) hn sX hx
        have e := (cal_det3 k1 a1).2
        subst e
        obtain ⟨r', hpy, w1, w3⟩ := fdmN (a := y1) (b := y2) (c := y3) (e := y4) (f := y5) (by omega) hn sM hm1
        have e := (cal_det3 w1 d1).2
        subst e
        exact ⟨n, τ, hn, hC_fr w3 (sMnot_ok rfl) (hC_fr k3 (fun ⟨m, m1, _⟩ => by cases m1) hx), hC_fr w3 (sMnot_ok rfl) hm1, fun i h => ⟨hC_fr w3 (fun ⟨m, m1, m2, m3, m4⟩ => by
          rw [List.mem_singleton.mp m1] at m2
          exact absurd m2 (by decide)) (hC_fr k3 (fun ⟨m, m1, _⟩ => by cases m1) (hT i h).1), hC_fr w3 (fun ⟨m, m1, m2, m3, m4⟩ => by
          rw [List.mem_singleton.mp m1] at m2
          exact absurd m2 (by decide)) (T2 i h)⟩⟩
theorem eq_end : EqOK3 29 30 1 := by
  intro hp args ⟨hI, ⟨n, τ, hn, hx, hm, hT⟩, hK⟩ hl hi
  match args, hl, hi with
  | [a], hl, hi =>
    obtain ⟨w, hw, e0⟩ := hi a List.mem_cons_self
    subst e0
    obtain ⟨u, hp1, a1, a2, hI1⟩ := xCall (four xk_end_0 xk_end_1 xk_end_2 xk_end_3) hp [.inl w] hI hl hi
    obtain ⟨c, c1, c2⟩ := hI.1.1
    obtain ⟨hp1', b1, b2, b3⟩ := four (P := xEndP) xend_0 xend_1 xend_2 xend_3 c c1 hp n w hw c2 hn hx
    have e := (cal_det3 b1 a1).2
    subst e
    have hm1 : hC hp1' 220 2 (.inl n) := hC_fr b3 (sMnot_ok rfl) hm
    obtain ⟨u2, hp2, d1, d2, hI2⟩ := mCall (four mk_end_0 mk_end_1 mk_end_2 mk_end_3) hp1' [.inl w] hI1 hl hi
    obtain ⟨v, v1, v2⟩ := hI1.2.1
    obtain ⟨hp2', g1, g2, g3⟩ := mend_x v1 hp1' n w hw v2 hn hm1
    have e := (cal_det3 g1 d1).2
    subst e
    have hle : (if w ≤ n then w else n) ≤ n := by split <;> omega
    refine ⟨_, hp1', ?_, b1, hI1, hp2', g1, hI2, ⟨_, τ, by omega, hC_fr g3 (sMnot_ok rfl) b2, g2, fun i h => ⟨hC_fr g3 (fun ⟨m, m1, m2, m3, m4⟩ => ?_) (hC_fr b3 (fun ⟨m, m1, m2, m3, m4⟩ => ?_) (hT i (by omega)).1), hC_fr g3 (fun ⟨m, m1, m2, m3, m4⟩ => ?_) (hC_fr b3 (fun ⟨m, m1, m2, m3, m4⟩ => ?_) (hT i (by omega)).2)⟩⟩, KR_keep g3 (by decide) (KR_keep b3 (by decide) hK)⟩
    · split <;> omega
    · simp only [List.mem_cons, List.not_mem_nil, or_false] at m1
      rcases m1 with rfl | rfl <;> dsimp only at m2 <;> omega
    · rw [List.mem_singleton.mp m1] at m2
      exact absurd m2 (by decide)
    · simp only [List.mem_cons, List.not_mem_nil, or_false] at m1
      rcases m1 with rfl | rfl <;> dsimp only at m2 <;> omega
    · rw [List.mem_singleton.mp m1] at m2
      exact absurd m2 (by decide)
/-- a call that keeps the keywords -/
def KeepK (o j : Nat) (args : List vAV) (hp : List vOb) : Prop := ∃ r hp' md, (∃ N, ∀ fuel, N ≤ fuel → vCalD vms vdf fuel 60 j (yV o :: args) hp = some (r, hp', 0, 0)) ∧ sFr md hp hp' ∧ mdK md = true
def kX (j c : Nat) : Prop := ∀ hp, kTy (hTcN c) plC hp → KeepK 0 j [] hp
theorem kX_of {e : sCtE} {c : Nat} {Ts : List sHp} (hc : pOK vms vdf 60 (hTcN c) Ts e) (ha : e.2.1 = [yO 0]) (hB : (e.2.2.1.all (fun k => Nat.blt k 220) && mdK e.2.2.2.2) = true) : kX e.1 c := fun hp hty => by
  rw [Bool.and_eq_true] at hB
  obtain ⟨r, hp', h1, h2, h3, -⟩ := hc [yV 0] hp (by rw [ha]; exact ⟨rfl, trivial⟩) (kTy_sub (plC_mem hB.1) hty)
  exact ⟨r, hp', _, h1, h3, hB.2⟩
theorem kX_sentence_0 : kX 262 0 := kX_of (e := cc0_X_sentence_214_e) (c := 0) (zx0_sentence_ok 60 (by decide)) rfl (by decide +kernel)
theorem kX_sentence_1 : kX 262 1 := kX_of (e := cc1_X_sentence_410_e) (c := 1) (zx1_sentence_ok 60 (by decide)) rfl (by decide +kernel)
theorem kX_sentence_2 : kX 262 2 := kX_of (e := cc2_X_sentence_480_e) (c := 2) (zx2_sentence_ok 60 (by decide)) rfl (by decide +kernel)
theorem kX_sentence_3 : kX 262 3 := kX_of (e := cc3_X_sentence_547_e) (c := 3) (zx3_sentence_ok 60 (by decide)) rfl (by decide +kernel)
theorem kX_limps_0 : kX 190 0 := kX_of (e := cc0_X_limps_140_e) (c := 0) (zx0_limps_ok 60 (by decide)) rfl (by decide +kernel)
theorem kX_limps_1 : kX 190 1 := kX_of (e := cc1_X_limps_342_e) (c := 1) (zx1_limps_ok 60 (by decide)) rfl (by decide +kernel)
theorem kX_limps_2 : kX 190 2 := kX_of (e := cc2_X_limps_454_e) (c := 2) (zx2_limps_ok 60 (by decide)) rfl (by decide +kernel)
theorem kX_limps_3 : kX 190 3 := kX_of (e := cc3_X_limps_524_e) (c := 3) (zx3_limps_ok 60 (by decide)) rfl (by decide +kernel)
/-- town() of the class: keywords and images stay -/
def mdJ (md : sMd) : Bool := mdK0 md && md.all (fun m => Nat.blt m.1 220 && (!(Nat.ble 162 m.1 && Nat.ble m.1 175) && !(Nat.ble 191 m.1 && Nat.ble m.1 204)))
def kJ (c : Nat) : Prop := ∀ hp, kTy (hTcN c) plC hp → ∃ r hp' md, (∃ N, ∀ fuel, N ≤ fuel → vCalD vms vdf fuel 60 60 [yV 0] hp = some (r, hp', 0, 0)) ∧ sFr md hp hp' ∧ mdJ md = true
theorem kJ_of {e : sCtE} {c : Nat} {Ts : List sHp} (hc : pOK vms vdf 60 (hTcN c) Ts e) (he : e.1 = 60) (ha : e.2.1 = [yO 0]) (hB : (e.2.2.1.all (fun k => Nat.blt k 220) && mdJ e.2.2.2.2) = true) : kJ c := fun hp hty => by
  rw [Bool.and_eq_true] at hB
  obtain ⟨r, hp', h1, h2, h3, -⟩ := hc [yV 0] hp (by rw [ha]; exact ⟨rfl, trivial⟩) (kTy_sub (plC_mem hB.1) hty)
  rw [he] at h1
  exact ⟨r, hp', _, h1, h3, hB.2⟩
theorem kJ_0 : kJ 0 := kJ_of (e := cc0_X_town_19_e) (c := 0) (zx0_town_ok 60 (by decide)) rfl rfl (by decide +kernel)
theorem kJ_1 : kJ 1 := kJ_of (e := cc1_X_town_246_e) (c := 1) (zx1_town_ok 60 (by decide)) rfl rfl (by decide +kernel)
theorem kJ_2 : kJ 2 := kJ_of (e := cc2_X_town_438_e) (c := 2) (zx2_town_ok 60 (by decide)) rfl rfl (by decide +kernel)
theorem kJ_3 : kJ 3 := kJ_of (e := cc3_X_town_508_e) (c := 3) (zx3_town_ok 60 (by decide)) rfl rfl (by decide +kernel)
/-- both empty the tape -/
theorem pair_zero {jx jm k : Nat} {args : List vAV} {hp : List vOb} (hX : CallOK Iv 0 jx k) (hM : CallOK Iv 220 jm k) (hI : Iv hp) (hK : KR hp) (kx : KeepK 0 jx args hp) (hl : args.length = k) (hi : ∀ a ∈ args, ∃ u, u < 4294967296 ∧ a = .inl u) (zx : ∃ r hp', (∃ N, ∀ fuel, N ≤ fuel → vCalD vms vdf fuel 60 jx (yV 0 :: args) hp = some (r, hp', 0, 0)) ∧ hC hp' 0 1 (.inl 0)) (zm : ∀ hp, Iv hp → ∃ r hp' md, (∃ N, ∀ fuel, N ≤ fuel → vCalD vms vdf fuel 60 jm (yV 220 :: args) hp = some (r, hp', 0, 0)) ∧ sFr md hp hp' ∧ ¬ sMin md 0 1 ∧ mdK md = true) (zz : ∀ hp, Iv hp → ∃ r hp', (∃ N, ∀ fuel, N ≤ fuel → vCalD vms vdf fuel 60 jm (yV 220 :: args) hp = some (r, hp', 0, 0)) ∧ hC hp' 220 2 (.inl 0)) : ∃ u hp1, (∃ N, ∀ fuel, N ≤ fuel → vCalD vms vdf fuel 60 jx (yV 0 :: args) hp = some (some (.inl u), hp1, 0, 0)) ∧ u < 4294967296 ∧ Iv hp1 ∧ ∃ v hp2, (∃ N, ∀ fuel, N ≤ fuel → vCalD vms vdf fuel 60 jm (yV 220 :: args) hp1 = some (some (.inl v), hp2, 0, 0)) ∧ v < 4294967296 ∧ Iv3 hp2 := by
  obtain ⟨u, hp1, a1, a2, hI1⟩ := hX hp args hI hl hi
  obtain ⟨r1, hp1', b1, b2⟩ := zx
  have e := (cal_det3 b1 a1).2
  subst e
  obtain ⟨v, hp2, d1, d2, hI2⟩ := hM hp1' args hI1 hl hi
  obtain ⟨rk, hpk, mdk, x1, x2, x3⟩ := kx
  have e := (cal_det3 x1 a1).2
  subst e
  obtain ⟨r2, hp2', md, g1, g2, g3, g4⟩ := zm hpk hI1
  have e := (cal_det3 g1 d1).2
  subst e
  obtain ⟨r3, hp3, f1, f2⟩ := zz hpk hI1
  have e := (cal_det3 f1 d1).2
  subst e
  exact ⟨u, hpk, a1, a2, hI1, v, hp3, d1, d2, hI2, ⟨0, fun _ => 0, by omega, hC_fr g2 g3 b2, f2, fun i hi => by omega⟩, KR_keep g2 g4 (KR_keep x2 x3 hK)⟩
theorem zx4 {j : Nat} (h : ∀ c, c < 4 → zXo j c) {hp : List vOb} (hI : Iv hp) : ∃ r hp', (∃ N, ∀ fuel, N ≤ fuel → vCalD vms vdf fuel 60 j [yV 0] hp = some (r, hp', 0, 0)) ∧ hC hp' 0 1 (.inl 0) := by
  obtain ⟨c, c1, c2⟩ := hI.1.1
  exact h c c1 hp c2
theorem fz_of {e : sCtE} {v : Nat} (hc : cOK vms vdf 60 (hTrN v) e) (ha : e.2.1 = [yO 220]) (hB : e.2.2.1.all (fun k => sStop k plM) = true) (hn : ¬ sMin e.2.2.2.2 0 1) (hk : mdK e.2.2.2.2 = true) : ∀ hp, kTy (hTrN v) plM hp → ∃ r hp' md, (∃ N, ∀ fuel, N ≤ fuel → vCalD vms vdf fuel 60 e.1 [yV 220] hp = some (r, hp', 0, 0)) ∧ sFr md hp hp' ∧ ¬ sMin md 0 1 ∧ mdK md = true := fun hp hty => by
  obtain ⟨r, hp', h1, h2, h3, h4⟩ := hc [yV 220] hp (by rw [ha]; exact ⟨rfl, trivial⟩) (kTy_sub (plM_mem hB) hty)
  exact ⟨r, hp', _, h1, h3, hn, hk⟩
def fzP (j v : Nat) : Prop := ∀ hp, kTy (hTrN v) plM hp → ∃ r hp' md, (∃ N, ∀ fuel, N ≤ fuel → vCalD vms vdf fuel 60 j [yV 220] hp = some (r, hp', 0, 0)) ∧ sFr md hp hp' ∧ ¬ sMin md 0 1 ∧ mdK md = true
theorem fz_limps_0 : fzP 194 0 := fz_of (e := cr0_M_limps_964_e) (v := 0) (cr0_M_limps_964_ok 60 (by decide)) rfl (by decide +kernel) (sMnot_ok rfl) (by decide +kernel)
theorem fz_limps_1 : fzP 194 1 := fz_of (e := cr1_M_limps_885_e) (v := 1) (cr1_M_limps_885_ok 60 (by decide)) rfl (by decide +kernel) (sMnot_ok rfl) (by decide +kernel)
theorem fz_limps_2 : fzP 194 2 := fz_of (e := cr2_M_limps_813_e) (v := 2) (cr2_M_limps_813_ok 60 (by decide)) rfl (by decide +kernel) (sMnot_ok rfl) (by decide +kernel)
theorem fz_limps_3 : fzP 194 3 := fz_of (e := cr3_M_limps_657_e) (v := 3) (cr3_M_limps_657_ok 60 (by decide)) rfl (by decide +kernel) (sMnot_ok rfl) (by decide +kernel)
theorem pair_limps : PairOK3 190 194 0 := by
  intro hp args ⟨hI, _, hK⟩ hl hi
  have e := List.length_eq_zero_iff.mp hl
  subst e
  refine pair_zero (k := 0) (xCall (four xk_limps_0 xk_limps_1 xk_limps_2 xk_limps_3)) (mCall (four mk_limps_0 mk_limps_1 mk_limps_2 mk_limps_3)) hI hK (by obtain ⟨c, c1, c2⟩ := hI.1.1; exact four (P := kX 190) kX_limps_0 kX_limps_1 kX_limps_2 kX_limps_3 c c1 hp c2) hl hi (zx4 (four zX_limps_0 zX_limps_1 zX_limps_2 zX_limps_3) hI) (fun hp hI => ?_) (fun hp hI => ?_)
  · obtain ⟨v, v1, v2⟩ := hI.2.1
    exact four (P := fzP 194) fz_limps_0 fz_limps_1 fz_limps_2 fz_limps_3 v v1 hp v2
  · obtain ⟨v, v1, v2⟩ := hI.2.1
    exact four (P := zMo 194) zM_limps_0 zM_limps_1 zM_limps_2 zM_limps_3 v v1 hp v2
theorem pair_sentence : PairOK3 262 270 0 := by
  intro hp args ⟨hI, _, hK⟩ hl hi
  have e := List.length_eq_zero_iff.mp hl
  subst e
  refine pair_zero (k := 0) (xCall (four xk_sentence_0 xk_sentence_1 xk_sentence_2 xk_sentence_3)) mSentence hI hK (by obtain ⟨c, c1, c2⟩ := hI.1.1; exact four (P := kX 262) kX_sentence_0 kX_sentence_1 kX_sentence_2 kX_sentence_3 c c1 hp c2) hl hi (zx4 (four zX_sentence_0 zX_sentence_1 zX_sentence_2 zX_sentence_3) hI) (fun hp hI => ?_) (fun hp hI => ?_)
  · obtain ⟨-, ⟨v, v1, v2⟩, hS, -⟩ := hI
    obtain ⟨r, hp', h1, h2, h3, h4, h5⟩ := sentence_ok (d := 59) (by decide) (kTy_sub (by decide) (rW v1 v2)) hS
    exact ⟨r, hp', zMs, h1, h4, sMnot_ok rfl, by decide +kernel⟩
  · obtain ⟨-, ⟨v, v1, v2⟩, hS, -⟩ := hI
    exact sentence_Z (d := 59) (by decide) (kTy_sub (by decide) (rW v1 v2)) hS
def xlZ (c : Nat) : Prop := ∀ (hp : List vOb) (w : Nat), kTy (hTcN c) plC hp → w < 2 → ∃ r hp', (∃ N, ∀ fuel, N ≤ fuel → vCalD vms vdf fuel 60 248 [yV 0, .inl w] hp = some (r, hp', 0, 0)) ∧ hC hp' 0 1 (.inl 0) ∧ sFr (mT0 ++ mXm) hp hp'
theorem mXm_K : mdK (mT0 ++ mXm) = true := by decide +kernel
theorem xlZ_0 : xlZ 0 := fun hp w hty hw => xlog_Z (T := hTc0) xl_V0 xl_z0 (d := 59) (by decide) hw hty
theorem xlZ_1 : xlZ 1 := fun hp w hty hw => xlog_Z (T := hTc1) xl_V1 xl_z1 (d := 59) (by decide) hw hty
theorem xlZ_2 : xlZ 2 := fun hp w hty hw => xlog_Z (T := hTc2) xl_V2 xl_z2 (d := 59) (by decide) hw hty
theorem xlZ_3 : xlZ 3 := fun hp w hty hw => xlog_Z (T := hTc3) xl_V3 xl_z3 (d := 59) (by decide) hw hty
theorem xlog_hi {hp : List vOb} {w : Nat} (hw : w < 4294967296) (h : ¬ w < 2) : ∃ r hp', (∃ N, ∀ fuel, N ≤ fuel → vCalD vms vdf fuel 60 248 [yV 0, .inl w] hp = some (r, hp', 0, 0)) ∧ sFr [] hp hp' := by
  refine kEnd_cal (d := 59) hM_xlog (show 2 ≤ 4 by omega) rfl rfl ?_
  obtain ⟨κ1, a2, a3, a4⟩ := n_one (d := 59) (κ := (0, [some (yV 0), some (.inl w), none, none], [], hp)) (fun hp0 => sNo_ok) xl_hh ⟨rfl, ⟨fun c hc => by cases hc; exact ⟨_, rfl, rfl⟩, fun c hc => by cases hc; exact ⟨_, rfl, w, hw, rest_in hw h, rfl⟩, nLr_none (nLr_none trivial)⟩, trivial, (fun k hk => absurd hk List.not_mem_nil), nCs_nil⟩
  exact kEnd.of a2 (n_ret (List.all_eq_true.mp xl_r 12 (by decide)) a4 (fun kr hkr => a3))
theorem log_hi {hp : List vOb} {w : Nat} (hw : w < 4294967296) (h : ¬ w < 2) (hty : kTy hT [220] hp) : ∃ r hp', (∃ N, ∀ fuel, N ≤ fuel → vCalD vms vdf fuel 60 251 [yV 220, .inl w] hp = some (r, hp', 0, 0)) ∧ sFr [(220, 0, 0)] hp hp' := by
  refine kEnd_cal (d := 59) hM_log (show 2 ≤ 5 by omega) rfl rfl ?_
  obtain ⟨κ1, a2, a3, a4⟩ := n_one (d := 59) (κ := (0, [some zO, some (.inl w), none, none, none], [], hp)) (lgS_ok (by omega)) lg_hh ⟨rfl, nLr_this ⟨fun c hc => by cases hc; exact ⟨_, rfl, w, hw, rest_in hw h, rfl⟩, nLr_none (nLr_none (nLr_none trivial))⟩, trivial, hty, nCs_nil⟩
  have a5 : kTy hT plL κ1.2.2.2 → True := fun _ => trivial
  exact kEnd.of a2 (n_ret (List.all_eq_true.mp lg_r 17 (by decide)) a4 (fun kr hkr => a3))
theorem pair_log : PairOK3 248 251 1 := by
  intro hp args ⟨hI, hB⟩ hl hi
  have hK := hB.2
  match args, hl, hi with
  | [a], hl, hi =>
    obtain ⟨w, hw, e0⟩ := hi a List.mem_cons_self
    subst e0
    by_cases h : w < 2
    · refine pair_zero (k := 1) (xCall (four xk_log_0 xk_log_1 xk_log_2 xk_log_3)) mLog hI hK (by obtain ⟨c, c1, c2⟩ := hI.1.1; obtain ⟨r, hp', q1, q2, q3⟩ := four (P := xlZ) xlZ_0 xlZ_1 xlZ_2 xlZ_3 c c1 hp w c2 h; exact ⟨r, hp', _, q1, q3, mXm_K⟩) hl hi ?_ (fun hp hI => ?_) (fun hp hI => ?_)
      · obtain ⟨c, c1, c2⟩ := hI.1.1
        obtain ⟨r, hp', q1, q2, -⟩ := four (P := xlZ) xlZ_0 xlZ_1 xlZ_2 xlZ_3 c c1 hp w c2 h
        exact ⟨r, hp', q1, q2⟩
      · obtain ⟨v, v1, v2⟩ := hI.2.1
        obtain ⟨S, hV⟩ := lgVN v1
        obtain ⟨r, hp', h1, h2, h3, h4⟩ := log_okV hV (d := 59) (by decide) hw (kTy_sub (by decide) v2)
        exact ⟨r, hp', mLg, h1, h4, sMnot_ok rfl, by decide +kernel⟩
      · obtain ⟨v, v1, v2⟩ := hI.2.1
        obtain ⟨S, hV⟩ := lgVN v1
        exact log_Z hV (d := 59) (by decide) h (kTy_sub (by decide) v2)
    · obtain ⟨u, hp1, a1, a2, hI1⟩ := xCall (four xk_log_0 xk_log_1 xk_log_2 xk_log_3) hp [.inl w] hI hl hi
      obtain ⟨r1, hp1', b1, b2⟩ := xlog_hi (hp := hp) hw h
      have e := (cal_det3 b1 a1).2
      subst e
      obtain ⟨v, hp2, d1, d2, hI2⟩ := mLog hp1' [.inl w] hI1 hl hi
      obtain ⟨x, x1, x2⟩ := hI1.2.1
      obtain ⟨r2, hp2', g1, g2⟩ := log_hi (hp := hp1') hw h (kTy_sub (by decide) (rW x1 x2))
      have e := (cal_det3 g1 d1).2
      subst e
      exact ⟨u, hp1', a1, a2, hI1, v, hp2', d1, d2, hI2, RB_keep g2 (by decide) (RB_keep b2 (by decide) hB)⟩
/-! the images -/
theorem xImageC : CallOK Iv 0 281 1 := by
  intro hp args hI hl hi
  match args, hl, hi with
  | [a], hl, hi =>
    obtain ⟨w, hw, e0⟩ := hi a List.mem_cons_self
    subst e0
    obtain ⟨hp', h1, h2⟩ := xImage_ok hI hw
    exact ⟨_, hp', h1, by split <;> omega, h2⟩
theorem mImageC : CallOK Iv 220 282 1 := by
  intro hp args hI hl hi
  match args, hl, hi with
  | [a], hl, hi =>
    obtain ⟨w, hw, e0⟩ := hi a List.mem_cons_self
    subst e0
    obtain ⟨hp', h1, h2⟩ := mImage w hw hp hI
    exact ⟨_, hp', h1, by split <;> omega, h2⟩
