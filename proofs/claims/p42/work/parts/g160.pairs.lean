/-! ===== both calls of a case ===== -/
/-- both answer the same, 0 or 1 -/
def SameOK3 (jx jm : Nat) : Prop := ∀ (hp : List vOb) (w : Nat), Iv3 hp → w < 4294967296 → ∃ r hp1, r < 2 ∧ (∃ N, ∀ fuel, N ≤ fuel → vCalD vms vdf fuel 60 jx [yV 0, .inl w] hp = some (some (.inl r), hp1, 0, 0)) ∧ Iv hp1 ∧ ∃ hp2, (∃ N, ∀ fuel, N ≤ fuel → vCalD vms vdf fuel 60 jm [yV 220, .inl w] hp1 = some (some (.inl r), hp2, 0, 0)) ∧ Iv3 hp2
/-! ===== the cases of the law, over the new invariant ===== -/
section LPAIR3
variable {p : Program} {l : Launch} {e : Env} {s : State} {m : MethodId} {below : List Frame} {meth : Method} {c : Code} {b sa sv : Nat} {D : va_G} {sc : List vAV}
theorem l_call3 (K : lCx p s m meth c b sa sv) {w : Nat → Nat} {ce sl : Nat} (hce : ce ≤ 601024) (hsl : sl ≤ 7293034) {pc o j k t u : Nat} (hz : zCl pc j k t = true) {hp hp' : List vOb} (hrc : vRc t (yV o) hp = true) (hc : ∃ N, ∀ fuel, N ≤ fuel → vCalD vms vdf fuel 60 j (yV o :: fA w k []) hp = some (some (.inl u), hp', 0, 0)) {ls : vLs} (kk : LW p l e s m below meth c b sa sv D (pc + 3) ls [.inl u] hp' ce sl) : LW p l e s m below meth c b sa sv D pc ls (wL w k ++ [yV o]) hp ce sl := by
  obtain ⟨x, len, hg⟩ := zCl_get hz
  exact LW_virt K hg ⟨_, rfl⟩ (vTk_wL k []) hrc hc hce hsl kk
theorem std3 (K : lCx p s m meth c b sa sv) (hsc : vScr b sa sv (fun q => s.heap.size ≤ q) s sc) {p0 pc1 pc2 jx jm k : Nat} (hk : k < 6) (ha : lChk lG [pc1] 3000 (p0, lL, [], []) [(pc1, lL, lArgs k ++ [yO 0], [])] = true) (hb : lChk lG [pc2] 3000 (pc1 + 3, lL, [zF], []) [(pc2, lL, lArgs k ++ [yO 220], [])] = true) (hc : lChk lG [1398] 3000 (pc2 + 3, lL, [zF], []) [(1398, lL, [], [])] = true) (hz : (zCl pc1 jx k 11 && zCl pc2 jm k 12) = true) (hX : CallOK Iv3 0 jx k) (hM : CallOK Iv3 220 jm k) : caseOK p l e s m below meth c b sa sv D Iv3 sc p0 := fun i w hp u v ce sl hi hw hI h1 h2 next =>
  std_case K hsc (fun hp h => Iv_rc h.1) (by omega) (by omega) hi hw hk ha hb hc (and2 hz).1 (and2 hz).2 hX hM hI (fun hp' u v hI' => next hp' u v ce sl hI' (by omega) (by omega))
theorem pair_case3 (K : lCx p s m meth c b sa sv) (hsc : vScr b sa sv (fun q => s.heap.size ≤ q) s sc) {p0 pc1 pc2 jx jm k : Nat} (hk : k < 6) (ha : lChk lG [pc1] 3000 (p0, lL, [], []) [(pc1, lL, lArgs k ++ [yO 0], [])] = true) (hb : lChk lG [pc2] 3000 (pc1 + 3, lL, [zF], []) [(pc2, lL, lArgs k ++ [yO 220], [])] = true) (hc : lChk lG [1398] 3000 (pc2 + 3, lL, [zF], []) [(1398, lL, [], [])] = true) (hz : (zCl pc1 jx k 11 && zCl pc2 jm k 12) = true) (hP : PairOK3 jx jm k) : caseOK p l e s m below meth c b sa sv D Iv3 sc p0 := by
  intro i w hp u v ce sl hi hw hI h1 h2 next
  have hce : ce ≤ 601024 := by omega
  have hsl : sl ≤ 7293034 := by omega
  have hE := lEnv_of (sc := sc) (i := i) (w := w) (by omega) hw
  have hG := lG_of (i := i) (w := w) hi
  have h0 : ∀ xs : List Nat, (lRho i w ++ xs)[0]? = some (sBi i) := fun xs => rfl
  have hρ : ∀ (xs : List Nat) (c : Nat), c < 6 → w c < 4294967296 ∧ (lRho i w ++ xs)[c + 1]? = some (sBi (w c)) := fun xs c hc => by
    obtain ⟨w', q1, q2, q3⟩ := hE.2.2 c hc
    rw [(hw c hc).2] at q2
    have e : w c = w' := Sum.inl.inj (Option.some.inj q2)
    rw [e]
    exact ⟨q1, sApp_get xs q3⟩
  obtain ⟨pc', kl', ks', B, xs, b1, b2, b3, b4, b5⟩ := l_ok (hp := hp) (ks := []) ha hE hG ⟨rfl, kL_to (u := u) (v := v) rfl (by omega), trivial⟩
  rw [List.mem_singleton] at b1
  subst b1 b3
  obtain ⟨u1, v1, e1⟩ := kL_of (δ := 0) (h0 xs) (by omega) b4
  have e2 := lArgs_of (hρ xs) k hk b5
  subst e1 e2
  obtain ⟨r, hp1, hx, hr, hI1, r2, hp2, hm, hr2, hI2⟩ := hP hp (fA w k []) hI (by rw [fA_len]; rfl) (fA_int (fun c hc => (hw c hc).1) k [] hk (fun a ha => by cases ha))
  refine LW_steps K hsc b2 (l_call3 K hce hsl (and2 hz).1 (Iv_rc hI.1).1 hx ?_)
  obtain ⟨pc', kl', ks', B, ys, b1, b2, b3, b4, b5⟩ := l_ok (hp := hp1) (ks := [.inl r]) hb hE hG ⟨rfl, kL_to (i := i) (u := u1) (v := v1) rfl (by omega), ⟨r, hr, sIn_full (sBi_lt r), rfl⟩, trivial⟩
  rw [List.mem_singleton] at b1
  subst b1 b3
  obtain ⟨u2, v2, e1⟩ := kL_of (δ := 0) (h0 ys) (by omega) b4
  have e2 := lArgs_of (hρ ys) k hk b5
  subst e1 e2
  refine LW_steps K hsc b2 (l_call3 K hce hsl (and2 hz).2 (Iv_rc hI1).2 hm ?_)
  obtain ⟨pc', kl', ks', B, zs, b1, b2, b3, b4, b5⟩ := l_ok (hp := hp2) (ks := [.inl r2]) hc hE hG ⟨rfl, kL_to (i := i) (u := u2) (v := v2) rfl (by omega), ⟨r2, hr2, sIn_full (sBi_lt r2), rfl⟩, trivial⟩
  rw [List.mem_singleton] at b1
  subst b1 b3
  obtain ⟨u3, v3, e1⟩ := kL_of (δ := 0) (h0 zs) (by omega) b4
  have e2 := nAr_eq (as := []) rfl b5
  subst e1 e2
  exact LW_steps K hsc b2 (next hp2 u3 v3 ce sl hI2 (by omega) (by omega))
theorem same_case3 (K : lCx p s m meth c b sa sv) (hsc : vScr b sa sv (fun q => s.heap.size ≤ q) s sc) {p0 pc1 pc2 jx jm : Nat} (ha : lChk lG [pc1] 3000 (p0, lL, [], []) [(pc1, lL, lArgs 1 ++ [yO 0], [])] = true) (hb : ∀ r, r < 2 → lChk lG [pc2] 3000 (pc1 + 3, lL, [zK r], []) [(pc2, lL, lArgs 1 ++ [yO 220, zK r], [])] = true) (hc : ∀ r, r < 2 → lChk lG [1398] 3000 (pc2 + 3, lL, [zK r, zK r], []) [(1398, lL, [], [])] = true) (hz : (zCl pc1 jx 1 11 && zCl pc2 jm 1 12) = true) (hP : SameOK3 jx jm) : caseOK p l e s m below meth c b sa sv D Iv3 sc p0 := by
  intro i w hp u v ce sl hi hw hI h1 h2 next
  have hce : ce ≤ 601024 := by omega
  have hsl : sl ≤ 7293034 := by omega
  have hE := lEnv_of (sc := sc) (i := i) (w := w) (by omega) hw
  have hG := lG_of (i := i) (w := w) hi
  have h0 : ∀ xs : List Nat, (lRho i w ++ xs)[0]? = some (sBi i) := fun xs => rfl
  have hρ : ∀ (xs : List Nat) (c : Nat), c < 6 → w c < 4294967296 ∧ (lRho i w ++ xs)[c + 1]? = some (sBi (w c)) := fun xs c hc => by
    obtain ⟨w', q1, q2, q3⟩ := hE.2.2 c hc
    rw [(hw c hc).2] at q2
    have e : w c = w' := Sum.inl.inj (Option.some.inj q2)
    rw [e]
    exact ⟨q1, sApp_get xs q3⟩
  obtain ⟨pc', kl', ks', B, xs, b1, b2, b3, b4, b5⟩ := l_ok (hp := hp) (ks := []) ha hE hG ⟨rfl, kL_to (u := u) (v := v) rfl (by omega), trivial⟩
  rw [List.mem_singleton] at b1
  subst b1 b3
  obtain ⟨u1, v1, e1⟩ := kL_of (δ := 0) (h0 xs) (by omega) b4
  have e2 := lArgs_of (hρ xs) 1 (by omega) b5
  subst e1 e2
  obtain ⟨r, hp1, hr, hx, hI1, hp2, hm, hI2⟩ := hP hp (w 1) hI (hw 1 (by omega)).1
  obtain ⟨x2, len2, hg2⟩ := zCl_get (and2 hz).2
  refine LW_steps K hsc b2 (l_call3 K hce hsl (and2 hz).1 (Iv_rc hI.1).1 hx ?_)
  obtain ⟨pc', kl', ks', B, ys, b1, b2, b3, b4, b5⟩ := l_ok (hp := hp1) (ks := [.inl r]) (hb r hr) hE hG ⟨rfl, kL_to (i := i) (u := u1) (v := v1) rfl (by omega), ⟨by omega, rfl⟩, trivial⟩
  rw [List.mem_singleton] at b1
  subst b1 b3
  obtain ⟨u2, v2, e1⟩ := kL_of (δ := 0) (h0 ys) (by omega) b4
  have e2 : ks' = [.inl (w 1), yV 220, .inl r] := by
    match ks', b5 with
    | [], h => exact h.elim
    | [_], h => exact h.2.elim
    | [_, _], h => exact h.2.2.elim
    | _ :: _ :: _ :: _ :: _, h => exact h.2.2.2.elim
    | [k1, k2, k3], h =>
      obtain ⟨⟨q, q1, q2⟩, h3, ⟨-, h4⟩, -⟩ := h
      have q1 : (lRho i w ++ ys)[1 + 1]? = some q := q1
      rw [(hρ ys 1 (by omega)).2] at q1
      have q1 := Option.some.inj q1
      rw [← q1, sUn_bi (hρ ys 1 (by omega)).1] at q2
      have h3 : k2 = yV 220 := h3
      rw [q2, h3, h4]
  subst e1 e2
  refine LW_steps K hsc b2 (LW_virt1 K hg2 ⟨_, rfl⟩ (show vTk 1 [] [.inl (w 1), yV 220, .inl r] = some ([.inl (w 1)], [yV 220, .inl r]) from rfl) (Iv_rc hI1).2 hm hce hsl ?_)
  obtain ⟨pc', kl', ks', B, zs, b1, b2, b3, b4, b5⟩ := l_ok (hp := hp2) (ks := [.inl r, .inl r]) (hc r hr) hE hG ⟨rfl, kL_to (i := i) (u := u2) (v := v2) rfl (by omega), ⟨by omega, rfl⟩, ⟨by omega, rfl⟩, trivial⟩
  rw [List.mem_singleton] at b1
  subst b1 b3
  obtain ⟨u3, v3, e1⟩ := kL_of (δ := 0) (h0 zs) (by omega) b4
  have e2 := nAr_eq (as := []) rfl b5
  subst e1 e2
  exact LW_steps K hsc b2 (next hp2 u3 v3 ce sl hI2 (by omega) (by omega))
end LPAIR3
