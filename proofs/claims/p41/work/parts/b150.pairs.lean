/-! ===== both calls of a case ===== -/
def PairOK (jx jm k : Nat) : Prop := ∀ (hp : List vOb) (args : List vAV), Iv2 hp → args.length = k → (∀ a ∈ args, ∃ u, u < 4294967296 ∧ a = .inl u) → ∃ u hp1, (∃ N, ∀ fuel, N ≤ fuel → vCalD vms vdf fuel 60 jx (yV 0 :: args) hp = some (some (.inl u), hp1, 0, 0)) ∧ u < 4294967296 ∧ Iv hp1 ∧ ∃ v hp2, (∃ N, ∀ fuel, N ≤ fuel → vCalD vms vdf fuel 60 jm (yV 220 :: args) hp1 = some (some (.inl v), hp2, 0, 0)) ∧ v < 4294967296 ∧ Iv2 hp2
/-- both answer the same, 0 or 1 -/
def SameOK (jx jm : Nat) : Prop := ∀ (hp : List vOb) (w : Nat), Iv2 hp → w < 4294967296 → ∃ r hp1, r < 2 ∧ (∃ N, ∀ fuel, N ≤ fuel → vCalD vms vdf fuel 60 jx [yV 0, .inl w] hp = some (some (.inl r), hp1, 0, 0)) ∧ Iv hp1 ∧ ∃ hp2, (∃ N, ∀ fuel, N ≤ fuel → vCalD vms vdf fuel 60 jm [yV 220, .inl w] hp1 = some (some (.inl r), hp2, 0, 0)) ∧ Iv2 hp2
theorem pair_image : PairOK 281 282 1 := by
  intro hp args ⟨hI, hR⟩ hl hi
  match args, hl with
  | [a], _ =>
    obtain ⟨w, hw, e0⟩ := hi a List.mem_cons_self
    subst e0
    obtain ⟨hp1, hx, hI1⟩ := xImage_ok hI hw
    obtain ⟨hp2, hm, hI2⟩ := mImage w hw hp1 hI1
    have hr : (if w < 2 then 1 else 0) < 4294967296 := by split <;> omega
    refine ⟨_, hp1, hx, hr, hI1, _, hp2, hm, hr, hI2, ?_⟩
    obtain ⟨⟨⟨c, c1, c2⟩, -⟩, -⟩ := hI
    by_cases h : w < 2
    · obtain ⟨kr, hp1', md, q1, q2, q3, q4, q5⟩ := four (P := xImgP) ximg_0 ximg_1 ximg_2 ximg_3 c c1 hp w c2 h
      have e1 := (cal_det q1 hx).2
      subst e1
      obtain ⟨-, ⟨v, v1, v2⟩, -, -⟩ := hI1
      obtain ⟨r, hp2', g1, g2, g3⟩ := image_f (d := 59) (by decide) (in2 h) (kTy_sub (by decide) (rW v1 v2))
      have e2 := (cal_det g1 hm).2
      subst e2
      intro k hk
      by_cases ek : k = w
      · subst ek
        exact ⟨1, by omega, hC_fr g2 (fun hi => by have := (imF_not hi).1; omega) q3, g3⟩
      · have ek2 : 1 - w = k := by omega
        rw [ek2] at q4
        obtain ⟨f, f1, f2, f3⟩ := hR k hk
        refine ⟨f, f1, hC_fr g2 (fun hi => by have := (imF_not hi).1; omega) (hC_fr q2 (q4 3) f2), hC_fr g2 (fun hi => ?_) (hC_fr q2 (q5 k) f3)⟩
        obtain ⟨m, m1, m2, m3, m4⟩ := hi
        unfold imF at m1
        simp only [List.mem_cons, List.not_mem_nil, or_false] at m1
        rcases m1 with rfl | rfl | rfl | rfl <;> dsimp only at m2 m3 m4 <;> omega
    · obtain ⟨r, hp1', g1, g2, g3, g4⟩ := cc_X_image_1073_ok 60 (by decide) [yV 0, .inl w] hp ⟨rfl, ⟨w, hw, rest_in hw h, rfl⟩, trivial⟩ (fun k hk => absurd hk List.not_mem_nil)
      have g1 : ∃ N, ∀ fuel, N ≤ fuel → vCalD vms vdf fuel 60 281 [yV 0, .inl w] hp = some (r, hp1', 0, 0) := g1
      have e1 := (cal_det g1 hx).2
      subst e1
      obtain ⟨-, ⟨v, v1, v2⟩, -, -⟩ := hI1
      obtain ⟨r2, hp2', k1, k2, k3, k4⟩ := cc_M_image_988_ok 60 (by decide) [yV 220, .inl w] hp1' ⟨rfl, ⟨w, hw, rest_in hw h, rfl⟩, trivial⟩ (kTy_sub (pl' := [220]) (by decide) (rW v1 v2))
      have k1 : ∃ N, ∀ fuel, N ≤ fuel → vCalD vms vdf fuel 60 282 [yV 220, .inl w] hp1' = some (r2, hp2', 0, 0) := k1
      have e2 := (cal_det k1 hm).2
      subst e2
      exact RK_keep k3 (by decide) (RK_keep g3 (by decide) hR)
theorem same_restore : SameOK 283 284 := by
  intro hp w ⟨hI, hR⟩ hw
  have hc := hI.1.1
  obtain ⟨c, c1, c2⟩ := hc
  obtain ⟨f, f1, flo, fhi⟩ : ∃ f, f < 2 ∧ (w < 2 → hC hp (162 + 29 * w) 3 (.inl f)) ∧ (¬ w < 2 → f = 0) := by
    by_cases h : w < 2
    · obtain ⟨f, f1, f2, -⟩ := hR w h
      exact ⟨f, f1, fun _ => f2, fun h' => absurd h h'⟩
    · exact ⟨0, by omega, fun h' => absurd h' h, fun _ => rfl⟩
  obtain ⟨hp1, md, hx, q2, q3⟩ := four (P := xResP) xres_0 xres_1 xres_2 xres_3 c c1 hp w f c2 hw f1 flo fhi
  have hi1 : ∀ a ∈ [(.inl w : vAV)], ∃ u, u < 4294967296 ∧ a = .inl u := fun a ha => by
    rw [List.mem_singleton] at ha
    exact ⟨w, hw, ha⟩
  obtain ⟨u, hp1', x1, x2, hI1⟩ := xCall (four xk_restore_0 xk_restore_1 xk_restore_2 xk_restore_3) hp [.inl w] hI rfl hi1
  have e1 := (cal_det x1 hx).2
  subst e1
  have hR1 : RK hp1' := RK_keep q2 q3 hR
  have hfl : w < 2 → hC hp1' 247 w (.inl f) := fun h => by
    obtain ⟨f', -, g2, g3⟩ := hR1 w h
    have h1 : hC hp1' (162 + 29 * w) 3 (.inl f) := hC_fr q2 (fun hi => by
      have := mdF_ok q3 hi
      have : w = 0 ∨ w = 1 := by omega
      rcases this with rfl | rfl <;> omega) (flo h)
    have e := Sum.inl.inj (hC_fun h1 g2)
    rw [e]
    exact g3
  obtain ⟨v9, hp2, m1, m2, hI2⟩ := mRestore hp1' [.inl w] hI1 rfl hi1
  refine ⟨f, hp1', f1, hx, hI1, ?_⟩
  obtain ⟨-, ⟨v, v1, v2⟩, -, -⟩ := hI1
  by_cases h : w < 2
  · have hf := hfl h
    have : f = 0 ∨ f = 1 := by omega
    rcases this with rfl | rfl
    · obtain ⟨r, hp2', g1, g2, g3⟩ := restore_f0 (d := 59) (by decide) (in2 h) (kTy_sub (by decide) (rW v1 v2)) hf
      subst g2
      have e2 := (cal_det m1 g1).2
      subst e2
      exact ⟨hp2, g1, hI2, RK_keep g3 (by decide) hR1⟩
    · obtain ⟨r, hp2', g1, g2, g3⟩ := restore_f1 (d := 59) (by decide) (in2 h) (kTy_sub (by decide) (rW v1 v2)) hf
      subst g2
      have e2 := (cal_det m1 g1).2
      subst e2
      exact ⟨hp2, g1, hI2, RK_keep g3 (by decide) hR1⟩
  · have e0 := fhi h
    subst e0
    obtain ⟨r, hp2', k1, k2, k3, k4⟩ := cc_M_restore_997_ok 60 (by decide) [yV 220, .inl w] hp1' ⟨rfl, ⟨w, hw, rest_in hw h, rfl⟩, trivial⟩ (kTy_sub (pl' := [220]) (by decide) (rW v1 v2))
    have k1 : ∃ N, ∀ fuel, N ≤ fuel → vCalD vms vdf fuel 60 284 [yV 220, .inl w] hp1' = some (r, hp2', 0, 0) := k1
    have er := zRt (n := 0) (by decide) k2
    subst er
    have e2 := (cal_det m1 k1).2
    subst e2
    exact ⟨hp2, k1, hI2, RK_keep k3 (by decide) hR1⟩
/-! ===== the cases of the law, over the new invariant ===== -/
section LPAIR
variable {p : Program} {l : Launch} {e : Env} {s : State} {m : MethodId} {below : List Frame} {meth : Method} {c : Code} {b sa sv : Nat} {D : va_G} {sc : List vAV}
theorem l_call1 (K : lCx p s m meth c b sa sv) {w : Nat → Nat} {ce sl : Nat} (hce : ce ≤ 601024) (hsl : sl ≤ 7293034) {pc o j k t u : Nat} (hz : zCl pc j k t = true) {hp hp' : List vOb} (hrc : vRc t (yV o) hp = true) (hc : ∃ N, ∀ fuel, N ≤ fuel → vCalD vms vdf fuel 60 j (yV o :: fA w k []) hp = some (some (.inl u), hp', 0, 0)) {ls : vLs} (kk : LW p l e s m below meth c b sa sv D (pc + 3) ls [.inl u] hp' ce sl) : LW p l e s m below meth c b sa sv D pc ls (wL w k ++ [yV o]) hp ce sl := by
  obtain ⟨x, len, hg⟩ := zCl_get hz
  exact LW_virt K hg ⟨_, rfl⟩ (vTk_wL k []) hrc hc hce hsl kk
theorem std2 (K : lCx p s m meth c b sa sv) (hsc : vScr b sa sv (fun q => s.heap.size ≤ q) s sc) {p0 pc1 pc2 jx jm k : Nat} (hk : k < 6) (ha : lChk lG [pc1] 3000 (p0, lL, [], []) [(pc1, lL, lArgs k ++ [yO 0], [])] = true) (hb : lChk lG [pc2] 3000 (pc1 + 3, lL, [zF], []) [(pc2, lL, lArgs k ++ [yO 220], [])] = true) (hc : lChk lG [1398] 3000 (pc2 + 3, lL, [zF], []) [(1398, lL, [], [])] = true) (hz : (zCl pc1 jx k 11 && zCl pc2 jm k 12) = true) (hX : CallOK Iv2 0 jx k) (hM : CallOK Iv2 220 jm k) : caseOK p l e s m below meth c b sa sv D Iv2 sc p0 := fun i w hp u v ce sl hi hw hI h1 h2 next =>
  std_case K hsc (fun hp h => Iv_rc h.1) (by omega) (by omega) hi hw hk ha hb hc (and2 hz).1 (and2 hz).2 hX hM hI (fun hp' u v hI' => next hp' u v ce sl hI' (by omega) (by omega))
theorem pair_case (K : lCx p s m meth c b sa sv) (hsc : vScr b sa sv (fun q => s.heap.size ≤ q) s sc) {p0 pc1 pc2 jx jm k : Nat} (hk : k < 6) (ha : lChk lG [pc1] 3000 (p0, lL, [], []) [(pc1, lL, lArgs k ++ [yO 0], [])] = true) (hb : lChk lG [pc2] 3000 (pc1 + 3, lL, [zF], []) [(pc2, lL, lArgs k ++ [yO 220], [])] = true) (hc : lChk lG [1398] 3000 (pc2 + 3, lL, [zF], []) [(1398, lL, [], [])] = true) (hz : (zCl pc1 jx k 11 && zCl pc2 jm k 12) = true) (hP : PairOK jx jm k) : caseOK p l e s m below meth c b sa sv D Iv2 sc p0 := by
  intro i w hp u v ce sl hi hw hI h1 h2 next
  have hce : ce ≤ 601024 := by omega
  have hsl : sl ≤ 7293034 := by omega
  have hE := lEnv_of (sc := sc) (i := i) (w := w) (by omega) hw
  have hG := lG_of (i := i) (w := w) hi
  have h0 : ∀ xs : List Nat, (lRho i w ++ xs)[0]? = some (sBi i) := fun xs => rfl
  have hρ : ∀ (xs : List Nat) (c : Nat), c < 6 → w c < 4294967296 ∧ (lRho i w ++ xs)[c + 1]? = some (sBi (w c)) := fun xs c hc => by
    obtain ⟨w', q1, q2, q3⟩ := hE.2.2 c hc
    rw [(hw c hc).2] at q2
    have e : w c = w' := Sum.inl.inj (Option.some.inj q2)
    rw [e]
    exact ⟨q1, sApp_get xs q3⟩
  obtain ⟨pc', kl', ks', B, xs, b1, b2, b3, b4, b5⟩ := l_ok (hp := hp) (ks := []) ha hE hG ⟨rfl, kL_to (u := u) (v := v) rfl (by omega), trivial⟩
  rw [List.mem_singleton] at b1
  subst b1 b3
  obtain ⟨u1, v1, e1⟩ := kL_of (δ := 0) (h0 xs) (by omega) b4
  have e2 := lArgs_of (hρ xs) k hk b5
  subst e1 e2
  obtain ⟨r, hp1, hx, hr, hI1, r2, hp2, hm, hr2, hI2⟩ := hP hp (fA w k []) hI (by rw [fA_len]; rfl) (fA_int (fun c hc => (hw c hc).1) k [] hk (fun a ha => by cases ha))
  refine LW_steps K hsc b2 (l_call1 K hce hsl (and2 hz).1 (Iv_rc hI.1).1 hx ?_)
  obtain ⟨pc', kl', ks', B, ys, b1, b2, b3, b4, b5⟩ := l_ok (hp := hp1) (ks := [.inl r]) hb hE hG ⟨rfl, kL_to (i := i) (u := u1) (v := v1) rfl (by omega), ⟨r, hr, sIn_full (sBi_lt r), rfl⟩, trivial⟩
  rw [List.mem_singleton] at b1
  subst b1 b3
  obtain ⟨u2, v2, e1⟩ := kL_of (δ := 0) (h0 ys) (by omega) b4
  have e2 := lArgs_of (hρ ys) k hk b5
  subst e1 e2
  refine LW_steps K hsc b2 (l_call1 K hce hsl (and2 hz).2 (Iv_rc hI1).2 hm ?_)
  obtain ⟨pc', kl', ks', B, zs, b1, b2, b3, b4, b5⟩ := l_ok (hp := hp2) (ks := [.inl r2]) hc hE hG ⟨rfl, kL_to (i := i) (u := u2) (v := v2) rfl (by omega), ⟨r2, hr2, sIn_full (sBi_lt r2), rfl⟩, trivial⟩
  rw [List.mem_singleton] at b1
  subst b1 b3
  obtain ⟨u3, v3, e1⟩ := kL_of (δ := 0) (h0 zs) (by omega) b4
  have e2 := nAr_eq (as := []) rfl b5
  subst e1 e2
  exact LW_steps K hsc b2 (next hp2 u3 v3 ce sl hI2 (by omega) (by omega))
theorem same_case (K : lCx p s m meth c b sa sv) (hsc : vScr b sa sv (fun q => s.heap.size ≤ q) s sc) {p0 pc1 pc2 jx jm : Nat} (ha : lChk lG [pc1] 3000 (p0, lL, [], []) [(pc1, lL, lArgs 1 ++ [yO 0], [])] = true) (hb : ∀ r, r < 2 → lChk lG [pc2] 3000 (pc1 + 3, lL, [zK r], []) [(pc2, lL, lArgs 1 ++ [yO 220, zK r], [])] = true) (hc : ∀ r, r < 2 → lChk lG [1398] 3000 (pc2 + 3, lL, [zK r, zK r], []) [(1398, lL, [], [])] = true) (hz : (zCl pc1 jx 1 11 && zCl pc2 jm 1 12) = true) (hP : SameOK jx jm) : caseOK p l e s m below meth c b sa sv D Iv2 sc p0 := by
  intro i w hp u v ce sl hi hw hI h1 h2 next
  have hce : ce ≤ 601024 := by omega
  have hsl : sl ≤ 7293034 := by omega
  have hE := lEnv_of (sc := sc) (i := i) (w := w) (by omega) hw
  have hG := lG_of (i := i) (w := w) hi
  have h0 : ∀ xs : List Nat, (lRho i w ++ xs)[0]? = some (sBi i) := fun xs => rfl
  have hρ : ∀ (xs : List Nat) (c : Nat), c < 6 → w c < 4294967296 ∧ (lRho i w ++ xs)[c + 1]? = some (sBi (w c)) := fun xs c hc => by
    obtain ⟨w', q1, q2, q3⟩ := hE.2.2 c hc
    rw [(hw c hc).2] at q2
    have e : w c = w' := Sum.inl.inj (Option.some.inj q2)
    rw [e]
    exact ⟨q1, sApp_get xs q3⟩
  obtain ⟨pc', kl', ks', B, xs, b1, b2, b3, b4, b5⟩ := l_ok (hp := hp) (ks := []) ha hE hG ⟨rfl, kL_to (u := u) (v := v) rfl (by omega), trivial⟩
  rw [List.mem_singleton] at b1
  subst b1 b3
  obtain ⟨u1, v1, e1⟩ := kL_of (δ := 0) (h0 xs) (by omega) b4
  have e2 := lArgs_of (hρ xs) 1 (by omega) b5
  subst e1 e2
  obtain ⟨r, hp1, hr, hx, hI1, hp2, hm, hI2⟩ := hP hp (w 1) hI (hw 1 (by omega)).1
  obtain ⟨x2, len2, hg2⟩ := zCl_get (and2 hz).2
  refine LW_steps K hsc b2 (l_call1 K hce hsl (and2 hz).1 (Iv_rc hI.1).1 hx ?_)
  obtain ⟨pc', kl', ks', B, ys, b1, b2, b3, b4, b5⟩ := l_ok (hp := hp1) (ks := [.inl r]) (hb r hr) hE hG ⟨rfl, kL_to (i := i) (u := u1) (v := v1) rfl (by omega), ⟨by omega, rfl⟩, trivial⟩
  rw [List.mem_singleton] at b1
  subst b1 b3
  obtain ⟨u2, v2, e1⟩ := kL_of (δ := 0) (h0 ys) (by omega) b4
  have e2 : ks' = [.inl (w 1), yV 220, .inl r] := by
    match ks', b5 with
    | [], h => exact h.elim
    | [_], h => exact h.2.elim
    | [_, _], h => exact h.2.2.elim
    | _ :: _ :: _ :: _ :: _, h => exact h.2.2.2.elim
    | [k1, k2, k3], h =>
      obtain ⟨⟨q, q1, q2⟩, h3, ⟨-, h4⟩, -⟩ := h
      have q1 : (lRho i w ++ ys)[1 + 1]? = some q := q1
      rw [(hρ ys 1 (by omega)).2] at q1
      have q1 := Option.some.inj q1
      rw [← q1, sUn_bi (hρ ys 1 (by omega)).1] at q2
      have h3 : k2 = yV 220 := h3
      rw [q2, h3, h4]
  subst e1 e2
  refine LW_steps K hsc b2 (LW_virt1 K hg2 ⟨_, rfl⟩ (show vTk 1 [] [.inl (w 1), yV 220, .inl r] = some ([.inl (w 1)], [yV 220, .inl r]) from rfl) (Iv_rc hI1).2 hm hce hsl ?_)
  obtain ⟨pc', kl', ks', B, zs, b1, b2, b3, b4, b5⟩ := l_ok (hp := hp2) (ks := [.inl r, .inl r]) (hc r hr) hE hG ⟨rfl, kL_to (i := i) (u := u2) (v := v2) rfl (by omega), ⟨by omega, rfl⟩, ⟨by omega, rfl⟩, trivial⟩
  rw [List.mem_singleton] at b1
  subst b1 b3
  obtain ⟨u3, v3, e1⟩ := kL_of (δ := 0) (h0 zs) (by omega) b4
  have e2 := nAr_eq (as := []) rfl b5
  subst e1 e2
  exact LW_steps K hsc b2 (next hp2 u3 v3 ce sl hI2 (by omega) (by omega))
end LPAIR
