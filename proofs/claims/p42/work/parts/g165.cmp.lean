/-! ===== a case that compares ===== -/
def zR : sC := .inl (.inr (.inl (7, 0)))
def lG8 : sG := sNew lG [(0, 4294967295)]
theorem lG8_of {i r : Nat} {w : Nat → Nat} (hi : i ≤ 3066) : sGr (lRho i w ++ [sBi r]) lG8 := sGr_new (lG_of (i := i) (w := w) hi) (sBi_lt r) (sIn_full (sBi_lt r))
theorem lEnv_ap9 {sc : List vAV} {i : Nat} {ρ xs : List Nat} (h : lEnv sc i ρ) : lEnv sc i (ρ ++ xs) := ⟨sApp_get xs h.1, h.2.1, fun c hc => by
  obtain ⟨w, q1, q2, q3⟩ := h.2.2 c hc
  exact ⟨w, q1, q2, sApp_get xs q3⟩⟩
theorem lArgs_of2 {ρ : List Nat} {w : Nat → Nat} {o r : Nat} (hρ : ∀ c, c < 6 → w c < 4294967296 ∧ ρ[c + 1]? = some (sBi (w c))) (h7 : ρ[7]? = some (sBi r)) (hr : r < 4294967296) : ∀ (k : Nat) {ks : List vAV}, k < 6 → nAr ρ (lArgs k ++ [yO o, zR]) ks → ks = wL w k ++ [yV o, .inl r]
  | 0, ks, _, h => by
    match ks, h with
    | [], h => exact h.elim
    | [_], h => exact h.2.elim
    | [x, y], h =>
      have e : x = yV o := h.1
      obtain ⟨q, q1, q2⟩ := h.2.1
      have q1 : ρ[7]? = some q := q1
      rw [h7] at q1
      have q1 := Option.some.inj q1
      rw [← q1, sUn_bi hr] at q2
      rw [e, q2]
      rfl
    | _ :: _ :: _ :: _, h => exact h.2.2.elim
  | k + 1, ks, hk, h => by
    match ks, h with
    | [], h => exact h.elim
    | x :: xs, h =>
      obtain ⟨q, r1, r2⟩ := h.1
      have r1 : ρ[k + 1 + 1]? = some q := r1
      rw [(hρ (k + 1) hk).2] at r1
      have r1 := Option.some.inj r1
      rw [← r1, sUn_bi (hρ (k + 1) hk).1] at r2
      have e := lArgs_of2 hρ h7 hr k (by omega) h.2
      rw [r2, e]
      rfl
noncomputable def lIeq (pc : Nat) : Bool := match vGet vt_law2 pc with
  | some (.if_icmp .eq _, _, a, _, _) => Nat.beq a 1398
  | _ => false
theorem lIeq_re {sc : List vAV} {pc r : Nat} {kl : vLs} {hp : List vOb} (h : lIeq pc = true) : lRe sc (pc, kl, [.inl r, .inl r], hp) (1398, kl, [], hp) := by
  unfold lIeq at h
  split at h
  · next off len a b t hg =>
    have e := Nat.eq_of_beq_eq_true h
    subst e
    refine lRe_step hg ?_
    show vIc vEq (pc + len) 1398 kl (.inl r :: .inl r :: []) hp = _
    rw [vIc_k kf_eq]
    have e : kCmp 0 (sBi r) (sBi r) = true := Nat.beq_refl _
    rw [e]
    rfl
  · cases h
section LCMP
variable {p : Program} {l : Launch} {e : Env} {s : State} {m : MethodId} {below : List Frame} {meth : Method} {c : Code} {b sa sv : Nat} {D : va_G} {sc : List vAV}
theorem cmp_case3 (K : lCx p s m meth c b sa sv) (hsc : vScr b sa sv (fun q => s.heap.size ≤ q) s sc) {p0 pc1 pc2 jx jm k : Nat} (hk : k < 6) (ha : lChk lG [pc1] 3000 (p0, lL, [], []) [(pc1, lL, lArgs k ++ [yO 0], [])] = true) (hb : lChk lG8 [pc2] 3000 (pc1 + 3, lL, [zR], []) [(pc2, lL, lArgs k ++ [yO 220, zR], [])] = true) (hq : lIeq (pc2 + 3) = true) (hz : (zCl pc1 jx k 11 && zCl pc2 jm k 12) = true) (hP : EqOK3 jx jm k) : caseOK p l e s m below meth c b sa sv D Iv3 sc p0 := by
  intro i w hp u v ce sl hi hw hI h1 h2 next
  have hce : ce ≤ 601024 := by omega
  have hsl : sl ≤ 7293034 := by omega
  have hE := lEnv_of (sc := sc) (i := i) (w := w) (by omega) hw
  have hG := lG_of (i := i) (w := w) hi
  have h0 : ∀ xs : List Nat, (lRho i w ++ xs)[0]? = some (sBi i) := fun xs => rfl
  have hρ : ∀ (xs : List Nat) (c : Nat), c < 6 → w c < 4294967296 ∧ (lRho i w ++ xs)[c + 1]? = some (sBi (w c)) := fun xs c hc => by
    obtain ⟨w', q1, q2, q3⟩ := hE.2.2 c hc
    rw [(hw c hc).2] at q2
    have e : w c = w' := Sum.inl.inj (Option.some.inj q2)
    rw [e]
    exact ⟨q1, sApp_get xs q3⟩
  obtain ⟨pc', kl', ks', B, xs, b1, b2, b3, b4, b5⟩ := l_ok (hp := hp) (ks := []) ha hE hG ⟨rfl, kL_to (u := u) (v := v) rfl (by omega), trivial⟩
  rw [List.mem_singleton] at b1
  subst b1 b3
  obtain ⟨u1, v1, e1⟩ := kL_of (δ := 0) (h0 xs) (by omega) b4
  have e2 := lArgs_of (hρ xs) k hk b5
  subst e1 e2
  obtain ⟨r, hp1, hr, hx, hI1, hp2, hm, hI2⟩ := hP hp (fA w k []) hI (by rw [fA_len]; rfl) (fA_int (fun c hc => (hw c hc).1) k [] hk (fun a ha => by cases ha))
  refine LW_steps K hsc b2 (l_call3 K hce hsl (and2 hz).1 (Iv_rc hI.1).1 hx ?_)
  obtain ⟨pc', kl', ks', B, ys, b1, b2, b3, b4, b5⟩ := l_ok (hp := hp1) (ks := [.inl r]) hb (lEnv_ap9 (xs := [sBi r]) hE) (lG8_of (r := r) hi) ⟨rfl, kL_to (i := i) (u := u1) (v := v1) rfl (by omega), ⟨sBi r, rfl, by rw [sUn_bi hr]⟩, trivial⟩
  rw [List.mem_singleton] at b1
  subst b1 b3
  have eA : lRho i w ++ [sBi r] ++ ys = lRho i w ++ ([sBi r] ++ ys) := List.append_assoc _ _ _
  rw [eA] at b4 b5
  obtain ⟨u2, v2, e1⟩ := kL_of (δ := 0) (h0 _) (by omega) b4
  have e2 := lArgs_of2 (r := r) (hρ _) rfl hr k hk b5
  subst e1 e2
  obtain ⟨x2, len2, hg2⟩ := zCl_get (and2 hz).2
  refine LW_steps K hsc b2 (LW_virt1 K hg2 ⟨_, rfl⟩ (vTk_wL k []) (Iv_rc hI1).2 hm hce hsl ?_)
  exact LW_steps K hsc (lIeq_re hq) (next hp2 u2 v2 ce sl hI2 (by omega) (by omega))
end LCMP
