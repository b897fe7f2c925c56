/-! ===== one command: the frame of a step ===== -/
section LSTEP
variable {p : Program} {l : Launch} {e : Env} {s : State} {m : MethodId} {below : List Frame} {meth : Method} {c : Code} {b sa sv : Nat} {D : va_G}
/-- the locals of the law, with i -/
def kL (i : Nat) (u v : Option vAV) : vLs := [some (.inr (.inr (.inr (.inr 0)))), some (yV 0), some (yV 220), some (yV 248), some (.inl i), u, v]
theorem kL_of {ρ : List Nat} {i δ : Nat} {kl : vLs} (hE : ρ[0]? = some (sBi i)) (hi : i + δ < 4294967296) (h : nLr ρ [some lS, some (yO 0), some (yO 220), some (yO 248), some (zY δ), none, none] kl) : ∃ u v, kl = kL (i + δ) u v := by
  match kl, h with
  | [], h => exact h.elim
  | [_], h => exact h.2.elim
  | [_, _], h => exact h.2.2.elim
  | [_, _, _], h => exact h.2.2.2.elim
  | [_, _, _, _], h => exact h.2.2.2.2.elim
  | [_, _, _, _, _], h => exact h.2.2.2.2.2.elim
  | [_, _, _, _, _, _], h => exact h.2.2.2.2.2.2.elim
  | _ :: _ :: _ :: _ :: _ :: _ :: _ :: _ :: _, h => exact h.2.2.2.2.2.2.2.elim
  | [k0, k1, k2, k3, k4, k5, k6], h =>
    obtain ⟨h0, h1, h2, h3, h4, -, -, -⟩ := h
    obtain ⟨y0, a0, b0⟩ := h0 _ rfl
    obtain ⟨y1, a1, b1⟩ := h1 _ rfl
    obtain ⟨y2, a2, b2⟩ := h2 _ rfl
    obtain ⟨y3, a3, b3⟩ := h3 _ rfl
    obtain ⟨y4, a4, r, r1, r2⟩ := h4 _ rfl
    have b0 : y0 = .inr (.inr (.inr (.inr 0))) := b0
    have b1 : y1 = yV 0 := b1
    have b2 : y2 = yV 220 := b2
    have b3 : y3 = yV 248 := b3
    have r1 : ρ[0]? = some r := r1
    rw [hE] at r1
    have r1 := Option.some.inj r1
    rw [← r1, sUn_add, sUn_bi (by omega), Nat.mod_eq_of_lt hi] at r2
    subst a0 a1 a2 a3 a4 b0 b1 b2 b3 r2
    exact ⟨k5, k6, rfl⟩
theorem kL_to {ρ : List Nat} {i : Nat} {u v : Option vAV} (hE : ρ[0]? = some (sBi i)) (hi : i < 4294967296) : nLr ρ lL (kL i u v) := by
  refine ⟨fun c hc => ?_, fun c hc => ?_, fun c hc => ?_, fun c hc => ?_, fun c hc => ?_, fun c hc => (by cases hc), fun c hc => (by cases hc), trivial⟩
  · cases hc; exact ⟨_, rfl, rfl⟩
  · cases hc; exact ⟨_, rfl, rfl⟩
  · cases hc; exact ⟨_, rfl, rfl⟩
  · cases hc; exact ⟨_, rfl, rfl⟩
  · cases hc; exact ⟨_, rfl, sV_back hi hE⟩
/-- the numbers of a command -/
def lRho (i : Nat) (w : Nat → Nat) : List Nat := [sBi i, sBi (w 0), sBi (w 1), sBi (w 2), sBi (w 3), sBi (w 4), sBi (w 5)]
theorem lEnv_of {sc : List vAV} {i : Nat} {w : Nat → Nat} (hi : i < 65000) (hw : ∀ c, c < 6 → w c < 4294967296 ∧ sc[i + c]? = some (.inl (w c))) : lEnv sc i (lRho i w) := by
  refine ⟨rfl, hi, fun c hc => ⟨w c, (hw c hc).1, (hw c hc).2, ?_⟩⟩
  have : c = 0 ∨ c = 1 ∨ c = 2 ∨ c = 3 ∨ c = 4 ∨ c = 5 := by omega
  rcases this with rfl | rfl | rfl | rfl | rfl | rfl <;> rfl
theorem lG_of {i : Nat} {w : Nat → Nat} (hi : i ≤ 3066) : sGr (lRho i w) lG := by
  refine ⟨rfl, fun e he => ?_, fun t ht => by cases ht⟩
  unfold lG at he
  simp only [List.mem_cons, List.not_mem_nil, or_false] at he
  rcases he with rfl | rfl | rfl | rfl | rfl | rfl | rfl
  · exact ⟨_, rfl, sBi_lt _, sIn_one (by unfold sBi; omega) (by unfold sBi; omega)⟩
  · exact ⟨_, rfl, sBi_lt _, sIn_full (sBi_lt _)⟩
  · exact ⟨_, rfl, sBi_lt _, sIn_full (sBi_lt _)⟩
  · exact ⟨_, rfl, sBi_lt _, sIn_full (sBi_lt _)⟩
  · exact ⟨_, rfl, sBi_lt _, sIn_full (sBi_lt _)⟩
  · exact ⟨_, rfl, sBi_lt _, sIn_full (sBi_lt _)⟩
  · exact ⟨_, rfl, sBi_lt _, sIn_full (sBi_lt _)⟩
end LSTEP
noncomputable def g1404 : Bool := match vGet vt_law2 1404 with
  | some (.iconst _, 1, 1, _, _) => true
  | _ => false
theorem g1404_k : g1404 = true := by decide +kernel
noncomputable def gHead : Bool := (match vGet vt_law2 26 with
  | some (.arraylength, 1, _, _, _) => true
  | _ => false) && ((match vGet vt_law2 27 with
  | some (.bipush _, 2, 6, _, _) => true
  | _ => false) && ((match vGet vt_law2 29 with
  | some (.isub, 1, _, _, _) => true
  | _ => false) && ((match vGet vt_law2 30 with
  | some (.if_icmp .gt _, 3, 1404, _, _) => true
  | _ => false) && ((match vGet vt_law2 23 with
  | some (.iload _, 2, 4, _, _) => true
  | _ => false) && (match vGet vt_law2 25 with
  | some (.aload_n _, 1, 0, _, _) => true
  | _ => false)))))
theorem gHead_k : gHead = true := by decide +kernel
theorem gHead_ok : (∃ a b t, vGet vt_law2 26 = some (.arraylength, 1, a, b, t)) ∧ (∃ x b t, vGet vt_law2 27 = some (.bipush x, 2, 6, b, t)) ∧ (∃ a b t, vGet vt_law2 29 = some (.isub, 1, a, b, t)) ∧ (∃ x b t, vGet vt_law2 30 = some (.if_icmp .gt x, 3, 1404, b, t)) ∧ (∃ x b t, vGet vt_law2 23 = some (.iload x, 2, 4, b, t)) ∧ (∃ x b t, vGet vt_law2 25 = some (.aload_n x, 1, 0, b, t)) := by
  have h := gHead_k
  unfold gHead at h
  rw [Bool.and_eq_true, Bool.and_eq_true, Bool.and_eq_true, Bool.and_eq_true, Bool.and_eq_true] at h
  obtain ⟨h1, h2, h3, h4, h5, h6⟩ := h
  refine ⟨?_, ?_, ?_, ?_, ?_, ?_⟩
  · split at h1
    · next a b t hg => exact ⟨a, b, t, hg⟩
    · cases h1
  · split at h2
    · next x b t hg => exact ⟨x, b, t, hg⟩
    · cases h2
  · split at h3
    · next a b t hg => exact ⟨a, b, t, hg⟩
    · cases h3
  · split at h4
    · next x b t hg => exact ⟨x, b, t, hg⟩
    · cases h4
  · split at h5
    · next x b t hg => exact ⟨x, b, t, hg⟩
    · cases h5
  · split at h6
    · next x b t hg => exact ⟨x, b, t, hg⟩
    · cases h6
theorem g1404_ok : ∃ x b t, vGet vt_law2 1404 = some (.iconst x, 1, 1, b, t) := by
  have h := g1404_k
  unfold g1404 at h
  split at h
  · next x b t hg => exact ⟨x, b, t, hg⟩
  · cases h
/-- from the loop's head to the test -/
theorem l_head {sc : List vAV} {i : Nat} {u v : Option vAV} {hp : List vOb} : lRe sc (23, kL i u v, [], hp) (26, kL i u v, [.inr (.inr (.inr (.inr 0))), .inl i], hp) := by
  obtain ⟨-, -, -, -, ⟨x, b, t, h5⟩, ⟨x', b', t', h6⟩⟩ := gHead_ok
  exact (lRe_step h5 (show vStep sc vTx (.iload x) 2 4 b t 23 (kL i u v) [] hp = some (25, kL i u v, [.inl i], hp) from rfl)).tr (lRe_step h6 (show vStep sc vTx (.aload_n x') 1 0 b' t' 25 (kL i u v) [.inl i] hp = some (26, kL i u v, [.inr (.inr (.inr (.inr 0))), .inl i], hp) from rfl))
theorem vLt_yes {x y : Nat} (h : x < y) : vLt (x, x) (y, y) = some true := by
  unfold vLt
  dsimp only
  rw [Nat.blt_eq.mpr h]
  rfl
theorem vLt_no {x y : Nat} (h : y ≤ x) : vLt (x, x) (y, y) = some false := by
  unfold vLt
  dsimp only
  have q1 : Nat.blt x y = false := by
    cases hb : Nat.blt x y with
    | false => rfl
    | true => have := Nat.blt_eq.mp hb; omega
  rw [q1, Nat.ble_eq_true_of_le h]
  rfl
theorem hd_yes {L i : Nat} (hL : L ≤ 3072) (hi : i ≤ 3072) (h : i + 6 ≤ L) : sBi i ≤ sBi (vSub L 6) := by
  unfold sBi vSub
  omega
theorem hd_no {L i : Nat} (hL : L ≤ 3072) (hi : i ≤ 3072) (h : ¬ i + 6 ≤ L) : sBi (vSub L 6) < sBi i := by
  unfold sBi vSub
  omega
theorem l_s3 {sc : List vAV} {L a3 b3 t3 y : Nat} {kl : vLs} {ks : List vAV} {hp : List vOb} (hy : vSub L 6 = y) : vStep sc vTx .isub 1 a3 b3 t3 29 kl (.inl 6 :: .inl L :: ks) hp = some (30, kl, .inl y :: ks, hp) := by
  show v2 vSub 30 kl (.inl 6 :: .inl L :: ks) hp = _
  rw [k2_eq, hy]
theorem l_s4 {sc : List vAV} {y i b4 t4 : Nat} {x4 : Int} {kl : vLs} {hp : List vOb} : vStep sc vTx (.if_icmp .gt x4) 3 1404 b4 t4 30 kl [.inl y, .inl i] hp = some ((bif kCmp 4 (sBi i) (sBi y) then 1404 else 33), kl, [], hp) := by
  show vIc (fun x y => vLt y x) 33 1404 kl [.inl y, .inl i] hp = _
  rw [vIc_k kf_gt]
theorem kgt_no {I Y : Nat} (h : I ≤ Y) : kCmp 4 I Y = false := by
  cases hb : kCmp 4 I Y with
  | false => rfl
  | true =>
    have : Nat.blt Y I = true := hb
    have := Nat.blt_eq.mp this
    omega
theorem kgt_yes {I Y : Nat} (h : Y < I) : kCmp 4 I Y = true := (show Nat.blt Y I = true from Nat.blt_eq.mpr h)
theorem l_test {sc : List vAV} {i : Nat} {u v : Option vAV} {hp : List vOb} (h0 : 0 < sc.length) (hL : sc.length ≤ 3072) (hi : i ≤ 3072) : lRe sc (26, kL i u v, [.inr (.inr (.inr (.inr 0))), .inl i], hp) (if i + 6 ≤ sc.length then (33, kL i u v, [], hp) else (1405, kL i u v, [.inl 1], hp)) := by
  obtain ⟨⟨a1, b1, t1, h1⟩, ⟨x2, b2, t2, h2⟩, ⟨a3, b3, t3, h3⟩, ⟨x4, b4, t4, h4⟩, -, -⟩ := gHead_ok
  have s1 : vStep sc vTx .arraylength 1 a1 b1 t1 26 (kL i u v) [.inr (.inr (.inr (.inr 0))), .inl i] hp = some (27, kL i u v, [.inl sc.length, .inl i], hp) := by
    show vAln 27 sc vTx (kL i u v) (.inr (.inr (.inr (.inr 0))) :: [.inl i]) hp = _
    unfold vAln
    have q1 : Nat.blt 0 sc.length = true := Nat.blt_eq.mpr h0
    have q2 : Nat.blt sc.length 65536 = true := Nat.blt_eq.mpr (by omega)
    simp only [q1, q2, Bool.and_self, cond_true]
  have s2 : vStep sc vTx (.bipush x2) 2 6 b2 t2 27 (kL i u v) [.inl sc.length, .inl i] hp = some (29, kL i u v, [.inl 6, .inl sc.length, .inl i], hp) := rfl
  generalize hy : vSub sc.length 6 = y
  have s3 : vStep sc vTx .isub 1 a3 b3 t3 29 (kL i u v) [.inl 6, .inl sc.length, .inl i] hp = some (30, kL i u v, [.inl y, .inl i], hp) := l_s3 hy
  have s4 : vStep sc vTx (.if_icmp .gt x4) 3 1404 b4 t4 30 (kL i u v) [.inl y, .inl i] hp = some ((bif kCmp 4 (sBi i) (sBi y) then 1404 else 33), kL i u v, [], hp) := l_s4
  have hk : kCmp 4 (sBi i) (sBi y) = (if i + 6 ≤ sc.length then false else true) := by
    rw [← hy]
    by_cases hc : i + 6 ≤ sc.length
    · have q := hd_yes hL hi hc
      generalize sBi (vSub sc.length 6) = Y at q ⊢
      generalize sBi i = I at q ⊢
      rw [if_pos hc]
      exact kgt_no q
    · have q := hd_no hL hi hc
      generalize sBi (vSub sc.length 6) = Y at q ⊢
      generalize sBi i = I at q ⊢
      rw [if_neg hc]
      exact kgt_yes q
  rw [hk] at s4
  have k := ((lRe_step h1 s1).tr (lRe_step h2 s2)).tr ((lRe_step h3 s3).tr (lRe_step h4 s4))
  by_cases hc : i + 6 ≤ sc.length
  · rw [if_pos hc, cond_false] at k
    rw [if_pos hc]
    exact k
  · rw [if_neg hc, cond_true] at k
    rw [if_neg hc]
    obtain ⟨x5, b5, t5, h5⟩ := g1404_ok
    exact k.tr (lRe_step h5 (show vStep sc vTx (.iconst x5) 1 1 b5 t5 1404 (kL i u v) [] hp = some (1405, kL i u v, [.inl 1], hp) from rfl))
