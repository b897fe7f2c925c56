/-! ===== feed() and end(), told exactly ===== -/
noncomputable def vIr (M : vMt) (pc : Nat) : Bool := match vGet M.2.2.2.2.1 pc with
  | some x => (match x.1 with
    | .ireturn => true
    | _ => false)
  | none => false
theorem k_iret2 {d : Nat} {M : vMt} {pc u : Nat} {kl : vLs} {hp : List vOb} {P : Option vAV → List vOb → Prop} (hg : vIr M pc = true) (hr : M.2.2.2.1 = some .int) (h : P (some (.inl u)) hp) : kEnd vms vdf d M (pc, kl, [.inl u], hp) P := by
  unfold vIr at hg
  split at hg
  · next x hx =>
    obtain ⟨i, len, a, b, t⟩ := x
    dsimp only at hg
    split at hg
    · refine ⟨_, kRe.rf _, .ireturn, len, a, b, t, some (.inl u), hx, rfl, ?_, h⟩
      show vRet M.2.2.2.1 .ireturn [.inl u] = _
      rw [hr]
      rfl
    · cases hg
  · cases hg
theorem zY_st {xs : List Nat} {o n : Nat} {ks : List vAV} (ho : o + n < 4294967296) (h : nAr ([sBi o] ++ xs) [zY n] ks) : ks = [.inl (o + n)] := by
  match ks, h with
  | [], h => exact h.elim
  | _ :: _ :: _, h => exact h.2.elim
  | [v], h =>
    obtain ⟨⟨r, r1, r2⟩, -⟩ := h
    have r1 : (sBi o :: xs)[0]? = some r := r1
    have r1 := Option.some.inj r1
    rw [r2, ← r1, sUn_add, sUn_bi (by omega), Nat.mod_eq_of_lt ho]
def fdA (r i : Nat) : nN := (0, [some (yO r), some zF, some zF, some zF, some zF, some zF], [], [(r, i, zY 0)])
def fdB (pc r i : Nat) : nN := (pc, [none, none, none, none, none, none], [zY 20], [(r, i, zY 20)])
def fdN (pc r i : Nat) : nN := (pc, [none, none, none, none, none, none], [zK 4294967295], [(r, i, zY 0)])
noncomputable def fdS (T : sHp) (md : sMd) : sCal := sCalI vms (sCt T md []) md 3000 6
theorem fdS_ok {T : sHp} {md : sMd} (hp0 : List vOb) : sCalOK vms vdf 59 md hp0 (fdS T md) := sCalI_ok (d0 := 0) (fun m hm => sCt_ok (T := T) cs_nil) 6 59 (by decide)
/-- the answer of feed() by the length -/
def fdR (n : Nat) : Nat := if n ≤ 920 then n + 20 else 4294967295
def fdC (n : Nat) : Nat := if n ≤ 920 then n + 20 else n
theorem feed_gen {M : vMt} {j r i pE pN : Nat} {T : sHp} {pl : List Nat} {md : sMd} (hM : vms[j]? = some M) (hm : M.2.2.1 = 6) (hc0 : (mRm M).cells = 0) (hs0 : (mRm M).slots = 0) (hr : M.2.2.2.1 = some .int) (g1 : vIr M pE = true) (g2 : vIr M pN = true)
    (k1 : nChk M T pl (1, [(0, [(0 + 2147483648, 920 + 2147483648)])], []) (fdS T md) md [] 3000 (fdA r i) [fdB pE r i] = true) (k2 : nChk M T pl (1, [(0, [(921 + 2147483648, 940 + 2147483648)])], []) (fdS T md) md [] 3000 (fdA r i) [fdN pN r i] = true)
    {hp : List vOb} {n : Nat} {args : List vAV} (hl : args.length = 5) (hi : ints args) (hty : kTy T pl hp) (hn : n ≤ 940) (hc : hC hp r i (.inl n)) : ∃ hp', (∃ N, ∀ fuel, N ≤ fuel → vCalD vms vdf fuel 60 j (yV r :: args) hp = some (some (.inl (fdR n)), hp', 0, 0)) ∧ hC hp' r i (.inl (fdC n)) ∧ sFr md hp hp' := by
  have cell : nCs [sBi n] hp [(r, i, zY 0)] := nCs_sym (by omega) hc
  match args, hl, hi with
  | [a1, a2, a3, a4, a5], _, hi =>
    have hz : ∀ a, a ∈ [a1, a2, a3, a4, a5] → ∀ c, (some zF : Option sC) = some c → ∃ y, (some a : Option vAV) = some y ∧ sCr [sBi n] c y := fun a ha c hc => by
      cases hc
      obtain ⟨u, u1, u2⟩ := hi a ha
      exact ⟨a, rfl, u, u1, sIn_full (sBi_lt u), u2⟩
    have hloc : nLr [sBi n] [some (yO r), some zF, some zF, some zF, some zF, some zF] [some (yV r), some a1, some a2, some a3, some a4, some a5] := ⟨fun c hc => by cases hc; exact ⟨_, rfl, rfl⟩, hz a1 (by simp), hz a2 (by simp), hz a3 (by simp), hz a4 (by simp), hz a5 (by simp), trivial⟩
    have hent : vEnt [yV r, a1, a2, a3, a4, a5] M.2.2.1 = [some (yV r), some a1, some a2, some a3, some a4, some a5] := by
      rw [hm]
      obtain ⟨u1, -, e1⟩ := hi a1 (by simp)
      obtain ⟨u2, -, e2⟩ := hi a2 (by simp)
      obtain ⟨u3, -, e3⟩ := hi a3 (by simp)
      obtain ⟨u4, -, e4⟩ := hi a4 (by simp)
      obtain ⟨u5, -, e5⟩ := hi a5 (by simp)
      subst e1 e2 e3 e4 e5
      rfl
    have hlen : (vArgs [yV r, a1, a2, a3, a4, a5]).length ≤ M.2.2.1 := by
      rw [hm]
      obtain ⟨u1, -, e1⟩ := hi a1 (by simp)
      obtain ⟨u2, -, e2⟩ := hi a2 (by simp)
      obtain ⟨u3, -, e3⟩ := hi a3 (by simp)
      obtain ⟨u4, -, e4⟩ := hi a4 (by simp)
      obtain ⟨u5, -, e5⟩ := hi a5 (by simp)
      subst e1 e2 e3 e4 e5
      exact (by decide : 6 ≤ 6)
    have fin : kEnd vms vdf 59 M (0, vEnt [yV r, a1, a2, a3, a4, a5] M.2.2.1, [], hp) (fun kr hp' => kr = some (.inl (fdR n)) ∧ hC hp' r i (.inl (fdC n)) ∧ sFr md hp hp') := by
      rw [hent]
      by_cases h : n ≤ 920
      · obtain ⟨κ', B, xs, b1, b2, b3, b4⟩ := n_ok (d := 59) fdS_ok k1 (zG (by omega) h (by omega)) (κ := (0, [some (yV r), some a1, some a2, some a3, some a4, some a5], [], hp)) ⟨rfl, hloc, trivial, hty, cell⟩
        rw [List.mem_singleton] at b1
        subst b1
        obtain ⟨pc, kl, ks, hp1⟩ := κ'
        have e1 : pc = pE := b4.1
        subst e1
        have e2 := zY_st (by omega) b4.2.2.1
        dsimp only at e2
        subst e2
        have c1 : hC hp1 r i (.inl (n + 20)) := zY_cell b4 List.mem_cons_self (by omega)
        refine kEnd.of b2 (k_iret2 g1 hr ⟨?_, ?_, b3⟩)
        · rw [fdR, if_pos h]
        · rw [fdC, if_pos h]
          exact c1
      · obtain ⟨κ', B, xs, b1, b2, b3, b4⟩ := n_ok (d := 59) fdS_ok k2 (zG (by omega) hn (by omega)) (κ := (0, [some (yV r), some a1, some a2, some a3, some a4, some a5], [], hp)) ⟨rfl, hloc, trivial, hty, cell⟩
        rw [List.mem_singleton] at b1
        subst b1
        obtain ⟨pc, kl, ks, hp1⟩ := κ'
        have e1 : pc = pN := b4.1
        subst e1
        have e2 := nAr_eq (as := [.inl 4294967295]) rfl b4.2.2.1
        dsimp only at e2
        subst e2
        have c1 : hC hp1 r i (.inl (n + 0)) := zY_cell b4 List.mem_cons_self (by omega)
        refine kEnd.of b2 (k_iret2 g2 hr ⟨?_, ?_, b3⟩)
        · rw [fdR, if_neg h]
        · rw [fdC, if_neg h]
          exact c1
    obtain ⟨kr, hp', h1, h2, h3, h4⟩ := kEnd_cal hM hlen hc0 hs0 fin
    subst h2
    exact ⟨hp', h1, h3, h4⟩
def fxM : sMd := [(0, 1, 1), (2, 0, 939)]
def fmM : sMd := [(220, 0, 0), (220, 2, 2), (221, 0, 939)]
theorem hM_xfeed : vms[26]? = some m_X11_feed := by rw [← vNth_eq]; rfl
theorem hM_mfeed : vms[28]? = some m_X12_feed := by rw [← vNth_eq]; rfl
def xFeedP (c : Nat) : Prop := ∀ (hp : List vOb) (n : Nat) (args : List vAV), args.length = 5 → ints args → kTy (hTcN c) plC hp → n ≤ 940 → hC hp 0 1 (.inl n) → ∃ hp', (∃ N, ∀ fuel, N ≤ fuel → vCalD vms vdf fuel 60 26 (yV 0 :: args) hp = some (some (.inl (fdR n)), hp', 0, 0)) ∧ hC hp' 0 1 (.inl (fdC n)) ∧ sFr fxM hp hp'
set_option maxRecDepth 1000000 in
theorem fx_g : (vIr m_X11_feed 46 && vIr m_X11_feed 14) = true := by decide +kernel
set_option maxRecDepth 1000000 in
theorem fx_a0 : nChk m_X11_feed hTc0 [0, 1, 2] (1, [(0, [(0 + 2147483648, 920 + 2147483648)])], []) (fdS hTc0 fxM) fxM [] 3000 (fdA 0 1) [fdB 46 0 1] = true := by decide +kernel
set_option maxRecDepth 1000000 in
theorem fx_b0 : nChk m_X11_feed hTc0 [0, 1, 2] (1, [(0, [(921 + 2147483648, 940 + 2147483648)])], []) (fdS hTc0 fxM) fxM [] 3000 (fdA 0 1) [fdN 14 0 1] = true := by decide +kernel
theorem xfeed_0 : xFeedP 0 := fun hp n args hl hi hty hn hc => feed_gen (T := hTc0) (pl := [0, 1, 2]) (r := 0) hM_xfeed rfl rfl rfl rfl (and2 fx_g).1 (and2 fx_g).2 fx_a0 fx_b0 hl hi (kTy_sub (plC_mem rfl) hty) hn hc
set_option maxRecDepth 1000000 in
theorem fx_a1 : nChk m_X11_feed hTc1 [0, 1, 2] (1, [(0, [(0 + 2147483648, 920 + 2147483648)])], []) (fdS hTc1 fxM) fxM [] 3000 (fdA 0 1) [fdB 46 0 1] = true := by decide +kernel
set_option maxRecDepth 1000000 in
theorem fx_b1 : nChk m_X11_feed hTc1 [0, 1, 2] (1, [(0, [(921 + 2147483648, 940 + 2147483648)])], []) (fdS hTc1 fxM) fxM [] 3000 (fdA 0 1) [fdN 14 0 1] = true := by decide +kernel
theorem xfeed_1 : xFeedP 1 := fun hp n args hl hi hty hn hc => feed_gen (T := hTc1) (pl := [0, 1, 2]) (r := 0) hM_xfeed rfl rfl rfl rfl (and2 fx_g).1 (and2 fx_g).2 fx_a1 fx_b1 hl hi (kTy_sub (plC_mem rfl) hty) hn hc
set_option maxRecDepth 1000000 in
theorem fx_a2 : nChk m_X11_feed hTc2 [0, 1, 2] (1, [(0, [(0 + 2147483648, 920 + 2147483648)])], []) (fdS hTc2 fxM) fxM [] 3000 (fdA 0 1) [fdB 46 0 1] = true := by decide +kernel
set_option maxRecDepth 1000000 in
theorem fx_b2 : nChk m_X11_feed hTc2 [0, 1, 2] (1, [(0, [(921 + 2147483648, 940 + 2147483648)])], []) (fdS hTc2 fxM) fxM [] 3000 (fdA 0 1) [fdN 14 0 1] = true := by decide +kernel
theorem xfeed_2 : xFeedP 2 := fun hp n args hl hi hty hn hc => feed_gen (T := hTc2) (pl := [0, 1, 2]) (r := 0) hM_xfeed rfl rfl rfl rfl (and2 fx_g).1 (and2 fx_g).2 fx_a2 fx_b2 hl hi (kTy_sub (plC_mem rfl) hty) hn hc
set_option maxRecDepth 1000000 in
theorem fx_a3 : nChk m_X11_feed hTc3 [0, 1, 2] (1, [(0, [(0 + 2147483648, 920 + 2147483648)])], []) (fdS hTc3 fxM) fxM [] 3000 (fdA 0 1) [fdB 46 0 1] = true := by decide +kernel
set_option maxRecDepth 1000000 in
theorem fx_b3 : nChk m_X11_feed hTc3 [0, 1, 2] (1, [(0, [(921 + 2147483648, 940 + 2147483648)])], []) (fdS hTc3 fxM) fxM [] 3000 (fdA 0 1) [fdN 14 0 1] = true := by decide +kernel
theorem xfeed_3 : xFeedP 3 := fun hp n args hl hi hty hn hc => feed_gen (T := hTc3) (pl := [0, 1, 2]) (r := 0) hM_xfeed rfl rfl rfl rfl (and2 fx_g).1 (and2 fx_g).2 fx_a3 fx_b3 hl hi (kTy_sub (plC_mem rfl) hty) hn hc
set_option maxRecDepth 1000000 in
theorem fm_g : (vIr m_X12_feed 51 && vIr m_X12_feed 19) = true := by decide +kernel
set_option maxRecDepth 1000000 in
theorem fm_a : nChk m_X12_feed hT [220, 221] (1, [(0, [(0 + 2147483648, 920 + 2147483648)])], []) (fdS hT fmM) fmM [] 3000 (fdA 220 2) [fdB 51 220 2] = true := by decide +kernel
set_option maxRecDepth 1000000 in
theorem fm_b : nChk m_X12_feed hT [220, 221] (1, [(0, [(921 + 2147483648, 940 + 2147483648)])], []) (fdS hT fmM) fmM [] 3000 (fdA 220 2) [fdN 19 220 2] = true := by decide +kernel
theorem mfeed_x {v : Nat} (hv : v < 4) (hp : List vOb) (n : Nat) (args : List vAV) (hl : args.length = 5) (hi : ints args) (hty : kTy (hTrN v) plM hp) (hn : n ≤ 940) (hc : hC hp 220 2 (.inl n)) : ∃ hp', (∃ N, ∀ fuel, N ≤ fuel → vCalD vms vdf fuel 60 28 (yV 220 :: args) hp = some (some (.inl (fdR n)), hp', 0, 0)) ∧ hC hp' 220 2 (.inl (fdC n)) ∧ sFr fmM hp hp' := feed_gen (T := hT) (pl := [220, 221]) (r := 220) hM_mfeed rfl rfl rfl rfl (and2 fm_g).1 (and2 fm_g).2 fm_a fm_b hl hi (kTy_sub (by decide) (rW hv hty)) hn hc
/-! end() -/
def zW : sC := .inl (.inr (.inl (1, 0)))
def gE : sG := (2, [(0, [(2147483648, 2147484588)]), (1, [(2147483648, 4294967295)])], [])
theorem gE_ok {n w : Nat} (hn : n ≤ 940) (hw : w < 2147483648) : sGr [sBi n, sBi w] gE := by
  refine ⟨rfl, fun e he => ?_, fun t ht => by cases ht⟩
  have he : e ∈ [(0, [(2147483648, 2147484588)]), (1, [(2147483648, 4294967295)])] := he
  simp only [List.mem_cons, List.not_mem_nil, or_false] at he
  rcases he with rfl | rfl
  · exact ⟨sBi n, rfl, sBi_lt n, sIn_one (by unfold sBi; omega) (by unfold sBi; omega)⟩
  · exact ⟨sBi w, rfl, sBi_lt w, sIn_one (by unfold sBi; omega) (by unfold sBi; omega)⟩
def gEf : sG := (2, [(0, [(2147483648, 2147484588)]), (1, [(2147483648, 2147484588)])], [])
theorem gEf_ok {n w : Nat} (hn : n ≤ 940) (hw : w ≤ 940) : sGr [sBi n, sBi w] gEf := by
  refine ⟨rfl, fun e he => ?_, fun t ht => by cases ht⟩
  have he : e ∈ [(0, [(2147483648, 2147484588)]), (1, [(2147483648, 2147484588)])] := he
  simp only [List.mem_cons, List.not_mem_nil, or_false] at he
  rcases he with rfl | rfl
  · exact ⟨sBi n, rfl, sBi_lt n, sIn_one (by unfold sBi; omega) (by unfold sBi; omega)⟩
  · exact ⟨sBi w, rfl, sBi_lt w, sIn_one (by unfold sBi; omega) (by unfold sBi; omega)⟩
theorem zW_val {n w : Nat} {xs : List Nat} {v : vAV} (hw : w < 4294967296) (h : sCr ([sBi n, sBi w] ++ xs) zW v) : v = .inl w := by
  obtain ⟨r, r1, r2⟩ := h
  have r1 : (sBi n :: sBi w :: xs)[1]? = some r := r1
  have r1 := Option.some.inj r1
  rw [r2, ← r1, sUn_bi hw]
theorem zY_val {n : Nat} {ys : List Nat} {v : vAV} (hn : n < 4294967296) (h : sCr (sBi n :: ys) (zY 0) v) : v = .inl n := by
  obtain ⟨r, r1, r2⟩ := h
  have r1 : (sBi n :: ys)[0]? = some r := r1
  have r1 := Option.some.inj r1
  rw [r2, ← r1, sUn_bi hn]
def enL (r : Nat) : List (Option sC) := [some (yO r), some zW]
theorem enL_of {n w r : Nat} {xs : List Nat} {kl : vLs} (hw : w < 4294967296) (h : nLr ([sBi n, sBi w] ++ xs) (enL r) kl) : kl = [some (yV r), some (.inl w)] := by
  match kl, h with
  | [], h => exact h.elim
  | [_], h => exact h.2.elim
  | _ :: _ :: _ :: _, h => exact h.2.2.elim
  | [a, b], h =>
    obtain ⟨y, y1, y2⟩ := h.1 _ rfl
    obtain ⟨z, z1, z2⟩ := h.2.1 _ rfl
    have y2 : y = yV r := y2
    rw [y1, y2, z1, zW_val hw z2]
theorem enL_to {n w r : Nat} (hw : w < 4294967296) : nLr [sBi n, sBi w] (enL r) [some (yV r), some (.inl w)] := ⟨fun c hc => by cases hc; exact ⟨_, rfl, rfl⟩, fun c hc => by
  cases hc
  exact ⟨_, rfl, sBi w, rfl, by rw [sUn_bi hw]⟩, trivial⟩
theorem en_cs {n w r i : Nat} {hp : List vOb} (hn : n < 4294967296) (h : hC hp r i (.inl n)) : nCs [sBi n, sBi w] hp [(r, i, zY 0)] := fun c hc => by
  rw [List.mem_singleton] at hc
  subst hc
  exact ⟨_, h, sBi n, rfl, by rw [sUn_bi hn]⟩
noncomputable def vIle (M : vMt) (pc pT : Nat) : Bool := match vGet M.2.2.2.2.1 pc with
  | some (.if_icmp .le _, len, a, _, _) => Nat.beq len 3 && Nat.beq a pT
  | _ => false
theorem vIle_re {d : Nat} {M : vMt} {pc pT n w : Nat} {kl : vLs} {hp : List vOb} (h : vIle M pc pT = true) (hn : n < 2147483648) (hw : w < 2147483648) : kRe vms vdf d M.2.2.2.2.1 0 0 (pc, kl, [.inl n, .inl w], hp) ((if w ≤ n then pT else pc + 3), kl, [], hp) := by
  unfold vIle at h
  split at h
  · next off len a b t hg =>
    rw [Bool.and_eq_true] at h
    have e1 := Nat.eq_of_beq_eq_true h.1
    have e2 := Nat.eq_of_beq_eq_true h.2
    subst e1 e2
    refine kRe_step hg ?_
    show vIc (fun x y => vNot (vLt y x)) (pc + 3) a kl (.inl n :: .inl w :: []) hp = _
    rw [vIc_k kf_le]
    have e : kCmp 5 (sBi w) (sBi n) = !Nat.blt (sBi n) (sBi w) := rfl
    rw [e]
    have b1 : sBi n = n + 2147483648 := by unfold sBi; omega
    have b2 : sBi w = w + 2147483648 := by unfold sBi; omega
    rw [b1, b2]
    by_cases hle : w ≤ n
    · have e3 : Nat.blt (n + 2147483648) (w + 2147483648) = false := by
        cases hb : Nat.blt (n + 2147483648) (w + 2147483648) with
        | false => rfl
        | true =>
          have := Nat.blt_eq.mp hb
          omega
      rw [e3, if_pos hle]
      rfl
    · have e3 : Nat.blt (n + 2147483648) (w + 2147483648) = true := Nat.blt_eq.mpr (by omega)
      rw [e3, if_neg hle]
      rfl
  · cases h
def zNeg : sC := .inr [(0, 2147483647)]
theorem end_gen {M : vMt} {j r i pA pT pN pE : Nat} {T : sHp} {pl : List Nat} {md0 md : sMd} (hM : vms[j]? = some M) (hm : M.2.2.1 = 2) (hc0 : (mRm M).cells = 0) (hs0 : (mRm M).slots = 0) (hg : vIle M pA pT = true) (h0 : ¬ sMin md0 r i) (hmd : sMsub md0 md = true)
    (r0 : nRet M (pN, [none, none], [zK 0], []) (some (zS 0 0)) = true) (r1 : nRet M (pE, [none, none], [zK 1], []) (some (zS 1 1)) = true)
    (k0 : nChk0 M T pl sNo md0 [] 3000 (0, [some (yO r), some zNeg], [], []) [(pN, [none, none], [zK 0], [])] = true)
    (k1 : nChk M T pl gE sNo md0 [pA] 3000 (0, enL r, [], [(r, i, zY 0)]) [(pA, enL r, [zY 0, zW], [])] = true)
    (k2 : nChk0 M T pl sNo [] [] 3000 (pA + 3, [none, none], [], []) [(pN, [none, none], [zK 0], [])] = true)
    (k3 : nChk M T pl gEf sNo md [] 3000 (pT, enL r, [], []) [(pE, [none, none], [zK 1], [(r, i, zW)])] = true)
    {hp : List vOb} {n w : Nat} (hw : w < 4294967296) (hty : kTy T pl hp) (hn : n ≤ 940) (hc : hC hp r i (.inl n)) : ∃ hp', (∃ N, ∀ fuel, N ≤ fuel → vCalD vms vdf fuel 60 j [yV r, .inl w] hp = some (some (.inl (if w ≤ n then 1 else 0)), hp', 0, 0)) ∧ hC hp' r i (.inl (if w ≤ n then w else n)) ∧ sFr md hp hp' := by
  have hent : vEnt [yV r, .inl w] M.2.2.1 = [some (yV r), some (.inl w)] := by rw [hm]; rfl
  have hlen : (vArgs [yV r, .inl w]).length ≤ M.2.2.1 := by rw [hm]; exact (by decide : 2 ≤ 2)
  have fin : kEnd vms vdf 59 M (0, vEnt [yV r, .inl w] M.2.2.1, [], hp) (fun kr hp' => kr = some (.inl (if w ≤ n then 1 else 0)) ∧ hC hp' r i (.inl (if w ≤ n then w else n)) ∧ sFr md hp hp') := by
    rw [hent]
    by_cases hneg : w < 2147483648
    · obtain ⟨κ', B, xs, b1, b2, b3, b4⟩ := n_ok (vms := vms) (df := vdf) (d := 59) (fun hp0 => sNo_ok) k1 (gE_ok (n := n) hn hneg) (κ := (0, [some (yV r), some (.inl w)], [], hp)) ⟨rfl, enL_to hw, trivial, hty, en_cs (by omega) hc⟩
      rw [List.mem_singleton] at b1
      subst b1
      obtain ⟨pc, kl, ks, hp1⟩ := κ'
      have e1 : pc = pA := b4.1
      subst e1
      have e2 := enL_of hw b4.2.1
      dsimp only at e2
      subst e2
      have e3 : ks = [.inl n, .inl w] := by
        have h := b4.2.2.1
        dsimp only at h
        match ks, h with
        | [], h => exact h.elim
        | [_], h => exact h.2.elim
        | _ :: _ :: _ :: _, h => exact h.2.2.elim
        | [a, b], h => rw [zY_val (by omega) h.1, zW_val hw h.2.1]
      subst e3
      have hc1 : hC hp1 r i (.inl n) := hC_fr b3 h0 hc
      refine kEnd.of b2 (kEnd.of (vIle_re hg (by omega) hneg) ?_)
      by_cases hle : w ≤ n
      · rw [if_pos hle, if_pos hle, if_pos hle]
        obtain ⟨κ2, B, ys, c1, c2, c3, c4⟩ := n_ok (vms := vms) (df := vdf) (d := 59) (fun hp0 => sNo_ok) k3 (gEf_ok (n := n) hn (by omega)) (κ := (pT, [some (yV r), some (.inl w)], [], hp1)) ⟨rfl, enL_to hw, trivial, b4.2.2.2.1, nCs_nil⟩
        rw [List.mem_singleton] at c1
        subst c1
        obtain ⟨x, x1, x2⟩ := c4.2.2.2.2 _ List.mem_cons_self
        have e5 := zW_val hw x2
        rw [e5] at x1
        refine kEnd.of c2 (n_ret r1 (nSat_less c4 rfl rfl) (fun kr hkr => ⟨zRt (by omega) hkr, x1, ?_⟩))
        exact (b3.mono (sMsub_ok hmd)).tr c3
      · rw [if_neg hle, if_neg hle, if_neg hle]
        obtain ⟨κ2, c2, c3, c4⟩ := n_one (vms := vms) (df := vdf) (d := 59) (fun hp0 => sNo_ok) k2 (κ := (pc + 3, [some (yV r), some (.inl w)], [], hp1)) ⟨rfl, nLr_none (nLr_none trivial), trivial, b4.2.2.2.1, nCs_nil⟩
        refine kEnd.of c2 (n_ret r0 c4 (fun kr hkr => ⟨zRt (by omega) hkr, hC_fr0 c3 hc1, ?_⟩))
        exact (b3.mono (sMsub_ok hmd)).tr (sFr_nil c3)
    · have hle : ¬ w ≤ n := by omega
      rw [if_neg hle, if_neg hle]
      obtain ⟨κ2, c2, c3, c4⟩ := n_one (vms := vms) (df := vdf) (d := 59) (fun hp0 => sNo_ok) k0 (κ := (0, [some (yV r), some (.inl w)], [], hp)) ⟨rfl, ⟨fun c hc => by cases hc; exact ⟨_, rfl, rfl⟩, fun c hc => by cases hc; exact ⟨_, rfl, w, hw, sIn_one (Nat.zero_le _) (by unfold sBi; omega), rfl⟩, trivial⟩, trivial, hty, nCs_nil⟩
      exact kEnd.of c2 (n_ret r0 c4 (fun kr hkr => ⟨zRt (by omega) hkr, hC_fr c3 h0 hc, c3.mono (sMsub_ok hmd)⟩))
  obtain ⟨kr, hp', h1, h2, h3, h4⟩ := kEnd_cal hM hlen hc0 hs0 fin
  subst h2
  exact ⟨hp', h1, h3, h4⟩
theorem hM_xend : vms[29]? = some m_X11_end := by rw [← vNth_eq]; rfl
theorem hM_mend : vms[30]? = some m_X12_end := by rw [← vNth_eq]; rfl
def xEndP (c : Nat) : Prop := ∀ (hp : List vOb) (n w : Nat), w < 4294967296 → kTy (hTcN c) plC hp → n ≤ 940 → hC hp 0 1 (.inl n) → ∃ hp', (∃ N, ∀ fuel, N ≤ fuel → vCalD vms vdf fuel 60 29 [yV 0, .inl w] hp = some (some (.inl (if w ≤ n then 1 else 0)), hp', 0, 0)) ∧ hC hp' 0 1 (.inl (if w ≤ n then w else n)) ∧ sFr [(0, 1, 1)] hp hp'
set_option maxRecDepth 1000000 in
theorem ex_g : (vIle m_X11_end 9 14 && (nRet m_X11_end (13, [none, none], [zK 0], []) (some (zS 0 0)) && nRet m_X11_end (20, [none, none], [zK 1], []) (some (zS 1 1)))) = true := by decide +kernel
set_option maxRecDepth 1000000 in
theorem ex_k0 : (nChk0 m_X11_end hTc0 [0] sNo [] [] 3000 (0, [some (yO 0), some zNeg], [], []) [(13, [none, none], [zK 0], [])] && (nChk m_X11_end hTc0 [0] gE sNo [] [9] 3000 (0, enL 0, [], [(0, 1, zY 0)]) [(9, enL 0, [zY 0, zW], [])] && (nChk0 m_X11_end hTc0 [0] sNo [] [] 3000 (9 + 3, [none, none], [], []) [(13, [none, none], [zK 0], [])] && nChk m_X11_end hTc0 [0] gEf sNo [(0, 1, 1)] [] 3000 (14, enL 0, [], []) [(20, [none, none], [zK 1], [(0, 1, zW)])]))) = true := by decide +kernel
theorem xend_0 : xEndP 0 := fun hp n w hw hty hn hc => end_gen (T := hTc0) (pl := [0]) (r := 0) hM_xend rfl rfl rfl (and2 ex_g).1 (fun ⟨m, m1, _⟩ => by cases m1) rfl (and2 (and2 ex_g).2).1 (and2 (and2 ex_g).2).2 (and2 ex_k0).1 (and2 (and2 ex_k0).2).1 (and2 (and2 (and2 ex_k0).2).2).1 (and2 (and2 (and2 ex_k0).2).2).2 hw (kTy_sub (plC_mem rfl) hty) hn hc
set_option maxRecDepth 1000000 in
theorem ex_k1 : (nChk0 m_X11_end hTc1 [0] sNo [] [] 3000 (0, [some (yO 0), some zNeg], [], []) [(13, [none, none], [zK 0], [])] && (nChk m_X11_end hTc1 [0] gE sNo [] [9] 3000 (0, enL 0, [], [(0, 1, zY 0)]) [(9, enL 0, [zY 0, zW], [])] && (nChk0 m_X11_end hTc1 [0] sNo [] [] 3000 (9 + 3, [none, none], [], []) [(13, [none, none], [zK 0], [])] && nChk m_X11_end hTc1 [0] gEf sNo [(0, 1, 1)] [] 3000 (14, enL 0, [], []) [(20, [none, none], [zK 1], [(0, 1, zW)])]))) = true := by decide +kernel
theorem xend_1 : xEndP 1 := fun hp n w hw hty hn hc => end_gen (T := hTc1) (pl := [0]) (r := 0) hM_xend rfl rfl rfl (and2 ex_g).1 (fun ⟨m, m1, _⟩ => by cases m1) rfl (and2 (and2 ex_g).2).1 (and2 (and2 ex_g).2).2 (and2 ex_k1).1 (and2 (and2 ex_k1).2).1 (and2 (and2 (and2 ex_k1).2).2).1 (and2 (and2 (and2 ex_k1).2).2).2 hw (kTy_sub (plC_mem rfl) hty) hn hc
set_option maxRecDepth 1000000 in
theorem ex_k2 : (nChk0 m_X11_end hTc2 [0] sNo [] [] 3000 (0, [some (yO 0), some zNeg], [], []) [(13, [none, none], [zK 0], [])] && (nChk m_X11_end hTc2 [0] gE sNo [] [9] 3000 (0, enL 0, [], [(0, 1, zY 0)]) [(9, enL 0, [zY 0, zW], [])] && (nChk0 m_X11_end hTc2 [0] sNo [] [] 3000 (9 + 3, [none, none], [], []) [(13, [none, none], [zK 0], [])] && nChk m_X11_end hTc2 [0] gEf sNo [(0, 1, 1)] [] 3000 (14, enL 0, [], []) [(20, [none, none], [zK 1], [(0, 1, zW)])]))) = true := by decide +kernel
theorem xend_2 : xEndP 2 := fun hp n w hw hty hn hc => end_gen (T := hTc2) (pl := [0]) (r := 0) hM_xend rfl rfl rfl (and2 ex_g).1 (fun ⟨m, m1, _⟩ => by cases m1) rfl (and2 (and2 ex_g).2).1 (and2 (and2 ex_g).2).2 (and2 ex_k2).1 (and2 (and2 ex_k2).2).1 (and2 (and2 (and2 ex_k2).2).2).1 (and2 (and2 (and2 ex_k2).2).2).2 hw (kTy_sub (plC_mem rfl) hty) hn hc
set_option maxRecDepth 1000000 in
theorem ex_k3 : (nChk0 m_X11_end hTc3 [0] sNo [] [] 3000 (0, [some (yO 0), some zNeg], [], []) [(13, [none, none], [zK 0], [])] && (nChk m_X11_end hTc3 [0] gE sNo [] [9] 3000 (0, enL 0, [], [(0, 1, zY 0)]) [(9, enL 0, [zY 0, zW], [])] && (nChk0 m_X11_end hTc3 [0] sNo [] [] 3000 (9 + 3, [none, none], [], []) [(13, [none, none], [zK 0], [])] && nChk m_X11_end hTc3 [0] gEf sNo [(0, 1, 1)] [] 3000 (14, enL 0, [], []) [(20, [none, none], [zK 1], [(0, 1, zW)])]))) = true := by decide +kernel
theorem xend_3 : xEndP 3 := fun hp n w hw hty hn hc => end_gen (T := hTc3) (pl := [0]) (r := 0) hM_xend rfl rfl rfl (and2 ex_g).1 (fun ⟨m, m1, _⟩ => by cases m1) rfl (and2 (and2 ex_g).2).1 (and2 (and2 ex_g).2).2 (and2 ex_k3).1 (and2 (and2 ex_k3).2).1 (and2 (and2 (and2 ex_k3).2).2).1 (and2 (and2 (and2 ex_k3).2).2).2 hw (kTy_sub (plC_mem rfl) hty) hn hc
set_option maxRecDepth 1000000 in
theorem em_g : (vIle m_X12_end 14 19 && (nRet m_X12_end (18, [none, none], [zK 0], []) (some (zS 0 0)) && nRet m_X12_end (25, [none, none], [zK 1], []) (some (zS 1 1)))) = true := by decide +kernel
set_option maxRecDepth 1000000 in
theorem em_k : (nChk0 m_X12_end hT [220] sNo [(220, 0, 0)] [] 3000 (0, [some (yO 220), some zNeg], [], []) [(18, [none, none], [zK 0], [])] && (nChk m_X12_end hT [220] gE sNo [(220, 0, 0)] [14] 3000 (0, enL 220, [], [(220, 2, zY 0)]) [(14, enL 220, [zY 0, zW], [])] && (nChk0 m_X12_end hT [220] sNo [] [] 3000 (14 + 3, [none, none], [], []) [(18, [none, none], [zK 0], [])] && nChk m_X12_end hT [220] gEf sNo [(220, 0, 0), (220, 2, 2)] [] 3000 (19, enL 220, [], []) [(25, [none, none], [zK 1], [(220, 2, zW)])]))) = true := by decide +kernel
theorem mend_x {v : Nat} (hv : v < 4) (hp : List vOb) (n w : Nat) (hw : w < 4294967296) (hty : kTy (hTrN v) plM hp) (hn : n ≤ 940) (hc : hC hp 220 2 (.inl n)) : ∃ hp', (∃ N, ∀ fuel, N ≤ fuel → vCalD vms vdf fuel 60 30 [yV 220, .inl w] hp = some (some (.inl (if w ≤ n then 1 else 0)), hp', 0, 0)) ∧ hC hp' 220 2 (.inl (if w ≤ n then w else n)) ∧ sFr [(220, 0, 0), (220, 2, 2)] hp hp' := end_gen (T := hT) (pl := [220]) (r := 220) hM_mend rfl rfl rfl (and2 em_g).1 (sMnot_ok rfl) (by decide) (and2 (and2 em_g).2).1 (and2 (and2 em_g).2).2 (and2 em_k).1 (and2 (and2 em_k).2).1 (and2 (and2 (and2 em_k).2).2).1 (and2 (and2 (and2 em_k).2).2).2 hw (kTy_sub (by decide) (rW hv hty)) hn hc
