/-! ===== a case of the law: two calls ===== -/
def wL (w : Nat → Nat) : Nat → List vAV
  | 0 => []
  | k + 1 => .inl (w (k + 1)) :: wL w k
def fA (w : Nat → Nat) : Nat → List vAV → List vAV
  | 0, acc => acc
  | k + 1, acc => fA w k (.inl (w (k + 1)) :: acc)
theorem vTk_wL {w : Nat → Nat} {rest : List vAV} : ∀ (k : Nat) (acc : List vAV), vTk k acc (wL w k ++ rest) = some (fA w k acc, rest)
  | 0, acc => by
    cases rest <;> rfl
  | k + 1, acc => vTk_wL k _
theorem fA_len {w : Nat → Nat} : ∀ (k : Nat) (acc : List vAV), (fA w k acc).length = k + acc.length
  | 0, acc => by rw [Nat.zero_add]; rfl
  | k + 1, acc => by
    show (fA w k (.inl (w (k + 1)) :: acc)).length = _
    rw [fA_len k]
    simp only [List.length_cons]
    omega
theorem fA_int {w : Nat → Nat} (hw : ∀ c, c < 6 → w c < 4294967296) : ∀ (k : Nat) (acc : List vAV), k < 6 → (∀ a ∈ acc, ∃ u, u < 4294967296 ∧ a = .inl u) → ∀ a ∈ fA w k acc, ∃ u, u < 4294967296 ∧ a = .inl u
  | 0, acc, _, h => h
  | k + 1, acc, hk, h => fA_int hw k _ (by omega) (fun a ha => by
    rcases List.mem_cons.mp ha with e | e
    · exact ⟨_, hw (k + 1) hk, e⟩
    · exact h a e)
theorem lArgs_of {ρ : List Nat} {w : Nat → Nat} {o : Nat} (hρ : ∀ c, c < 6 → w c < 4294967296 ∧ ρ[c + 1]? = some (sBi (w c))) : ∀ (k : Nat) {ks : List vAV}, k < 6 → nAr ρ (lArgs k ++ [yO o]) ks → ks = wL w k ++ [yV o]
  | 0, ks, _, h => by
    match ks, h with
    | [], h => exact h.elim
    | [x], h =>
      have e : x = yV o := h.1
      rw [e]
      rfl
    | _ :: _ :: _, h => exact h.2.elim
  | k + 1, ks, hk, h => by
    match ks, h with
    | [], h => exact h.elim
    | x :: xs, h =>
      obtain ⟨r, r1, r2⟩ := h.1
      have r1 : ρ[k + 1 + 1]? = some r := r1
      rw [(hρ (k + 1) hk).2] at r1
      have r1 := Option.some.inj r1
      rw [← r1, sUn_bi (hρ (k + 1) hk).1] at r2
      have e := lArgs_of hρ k (by omega) h.2
      rw [r2, e]
      rfl
noncomputable def zCl (pc j b t : Nat) : Bool := match vGet vt_law2 pc with
  | some (.invokevirtual _, _, a, b', t') => Nat.beq a j && (Nat.beq b' b && Nat.beq t' t)
  | _ => false
/-- a call of x or of m, from every state that the invariant has -/
def CallOK (Iv : List vOb → Prop) (o j k : Nat) : Prop := ∀ (hp : List vOb) (args : List vAV), Iv hp → args.length = k → (∀ a ∈ args, ∃ u, u < 4294967296 ∧ a = .inl u) → ∃ u hp', (∃ N, ∀ fuel, N ≤ fuel → vCalD vms vdf fuel 60 j (yV o :: args) hp = some (some (.inl u), hp', 0, 0)) ∧ u < 4294967296 ∧ Iv hp'
section LCASE
variable {p : Program} {l : Launch} {e : Env} {s : State} {m : MethodId} {below : List Frame} {meth : Method} {c : Code} {b sa sv : Nat} {D : va_G}
variable {Iv : List vOb → Prop} {sc : List vAV} {i : Nat} {w : Nat → Nat} {ce sl : Nat}
theorem l_call (K : lCx p s m meth c b sa sv) (hrc : ∀ hp, Iv hp → vRc 11 (yV 0) hp = true ∧ vRc 12 (yV 220) hp = true) (hce : ce ≤ 601024) (hsl : sl ≤ 7293034) (hw : ∀ c, c < 6 → w c < 4294967296) {pc o j k t : Nat} (hot : (o = 0 ∧ t = 11) ∨ (o = 220 ∧ t = 12)) (hk : k < 6) (hz : zCl pc j k t = true) (hC : CallOK Iv o j k) {hp : List vOb} (hI : Iv hp) {ls : vLs} (kk : ∀ u hp', u < 4294967296 → Iv hp' → LW p l e s m below meth c b sa sv D (pc + 3) ls [.inl u] hp' ce sl) : LW p l e s m below meth c b sa sv D pc ls (wL w k ++ [yV o]) hp ce sl := by
  obtain ⟨u, hp', h1, h2, h3⟩ := hC hp (fA w k []) hI (by rw [fA_len]; rfl) (fA_int hw k [] hk (fun a ha => by cases ha))
  unfold zCl at hz
  split at hz
  · next x len a b' t' hg =>
    rw [Bool.and_eq_true, Bool.and_eq_true] at hz
    have e1 := Nat.eq_of_beq_eq_true hz.1
    have e2 := Nat.eq_of_beq_eq_true hz.2.1
    have e3 := Nat.eq_of_beq_eq_true hz.2.2
    subst e1 e2 e3
    refine LW_virt K hg ⟨_, rfl⟩ (vTk_wL b' []) ?_ h1 hce hsl (kk u hp' h2 h3)
    rcases hot with ⟨rfl, rfl⟩ | ⟨rfl, rfl⟩
    · exact (hrc hp hI).1
    · exact (hrc hp hI).2
  · cases hz
theorem std_case (K : lCx p s m meth c b sa sv) (hsc : vScr b sa sv (fun q => s.heap.size ≤ q) s sc) (hrc : ∀ hp, Iv hp → vRc 11 (yV 0) hp = true ∧ vRc 12 (yV 220) hp = true) (hce : ce ≤ 601024) (hsl : sl ≤ 7293034) (hi : i ≤ 3066) (hw : ∀ c, c < 6 → w c < 4294967296 ∧ sc[i + c]? = some (.inl (w c)))
    {p0 pc1 pc2 jx jm k : Nat} (hk : k < 6) (ha : lChk lG [pc1] 3000 (p0, lL, [], []) [(pc1, lL, lArgs k ++ [yO 0], [])] = true) (hb : lChk lG [pc2] 3000 (pc1 + 3, lL, [zF], []) [(pc2, lL, lArgs k ++ [yO 220], [])] = true) (hc : lChk lG [1398] 3000 (pc2 + 3, lL, [zF], []) [(1398, lL, [], [])] = true)
    (z1 : zCl pc1 jx k 11 = true) (z2 : zCl pc2 jm k 12 = true) (hX : CallOK Iv 0 jx k) (hM : CallOK Iv 220 jm k) {hp : List vOb} (hI : Iv hp) {u v : Option vAV} (kk : ∀ hp' u v, Iv hp' → LW p l e s m below meth c b sa sv D 1398 (kL i u v) [] hp' ce sl) : LW p l e s m below meth c b sa sv D p0 (kL i u v) [] hp ce sl := by
  have hE := lEnv_of (sc := sc) (i := i) (w := w) (by omega) hw
  have hG := lG_of (i := i) (w := w) hi
  have hρ : ∀ (xs : List Nat) (c : Nat), c < 6 → w c < 4294967296 ∧ (lRho i w ++ xs)[c + 1]? = some (sBi (w c)) := fun xs c hc => by
    obtain ⟨w', q1, q2, q3⟩ := hE.2.2 c hc
    rw [(hw c hc).2] at q2
    have e : w c = w' := Sum.inl.inj (Option.some.inj q2)
    rw [e]
    exact ⟨q1, sApp_get xs q3⟩
  have h0 : ∀ xs : List Nat, (lRho i w ++ xs)[0]? = some (sBi i) := fun xs => rfl
  obtain ⟨pc', kl', ks', B, xs, b1, b2, b3, b4, b5⟩ := l_ok (hp := hp) (ks := []) ha hE hG ⟨rfl, kL_to (u := u) (v := v) rfl (by omega), trivial⟩
  rw [List.mem_singleton] at b1
  subst b1 b3
  obtain ⟨u1, v1, e1⟩ := kL_of (δ := 0) (h0 xs) (by omega) b4
  have e2 := lArgs_of (hρ xs) k hk b5
  subst e1 e2
  refine LW_steps K hsc b2 (l_call K hrc hce hsl (fun c hc => (hw c hc).1) (Or.inl ⟨rfl, rfl⟩) hk z1 hX hI (fun r hp1 hr hI1 => ?_))
  obtain ⟨pc', kl', ks', B, ys, b1, b2, b3, b4, b5⟩ := l_ok (hp := hp1) (ks := [.inl r]) hb hE hG ⟨rfl, kL_to (u := u1) (v := v1) rfl (by omega), ⟨r, hr, sIn_full (sBi_lt r), rfl⟩, trivial⟩
  rw [List.mem_singleton] at b1
  subst b1 b3
  obtain ⟨u2, v2, e1⟩ := kL_of (δ := 0) (h0 ys) (by omega) b4
  have e2 := lArgs_of (hρ ys) k hk b5
  subst e1 e2
  refine LW_steps K hsc b2 (l_call K hrc hce hsl (fun c hc => (hw c hc).1) (Or.inr ⟨rfl, rfl⟩) hk z2 hM hI1 (fun r2 hp2 hr2 hI2 => ?_))
  obtain ⟨pc', kl', ks', B, zs, b1, b2, b3, b4, b5⟩ := l_ok (hp := hp2) (ks := [.inl r2]) hc hE hG ⟨rfl, kL_to (u := u2) (v := v2) rfl (by omega), ⟨r2, hr2, sIn_full (sBi_lt r2), rfl⟩, trivial⟩
  rw [List.mem_singleton] at b1
  subst b1 b3
  obtain ⟨u3, v3, e1⟩ := kL_of (δ := 0) (h0 zs) (by omega) b4
  have e2 := nAr_eq (as := []) rfl b5
  subst e1 e2
  exact LW_steps K hsc b2 (kk hp2 u3 v3 hI2)
end LCASE
