/-! ===== next() of the reference: the token ===== -/
theorem xSk_min {τ : Nat → Nat} : ∀ (k1 k2 n : Nat), k1 ≤ k2 → xSk τ k1 n = min (xSk τ k2 n) (n + k1)
  | 0, k2, n, _ => by
    have := (xSk_le (τ := τ) k2 n).1
    show n = _
    omega
  | k1 + 1, 0, n, h => by omega
  | k1 + 1, k2 + 1, n, h => by
    unfold xSk
    cases xBl (τ n) with
    | true =>
      rw [cond_true, cond_true, xSk_min k1 k2 (n + 1) (by omega)]
      have e : n + 1 + k1 = n + (k1 + 1) := by omega
      rw [e]
    | false =>
      rw [cond_false, cond_false]
      omega
theorem xRn_al {τ : Nat → Nat} : ∀ (k n : Nat), (xRn τ k n).all (fun c => xSm c || xDg c) = true
  | 0, _ => rfl
  | k + 1, n => by
    unfold xRn
    cases hc : (xSm (τ n) || xDg (τ n)) with
    | true => rw [cond_true, List.all_cons, hc, xRn_al k (n + 1)]; rfl
    | false => rfl
theorem xRn_len {τ : Nat → Nat} : ∀ (k n : Nat), (xRn τ k n).length ≤ k
  | 0, _ => Nat.le_refl _
  | k + 1, n => by
    unfold xRn
    cases (xSm (τ n) || xDg (τ n)) with
    | true =>
      rw [cond_true, List.length_cons]
      have := xRn_len (τ := τ) k (n + 1)
      omega
    | false => exact Nat.zero_le _
theorem rnA_0 (sm : Nat) : ∀ cs : List Nat, rnA sm 0 cs = 0
  | [] => rfl
  | c :: cs => by
    show rnA sm (nA sm 0 c) cs = 0
    have e : nA sm 0 c = 0 := by
      unfold nA
      rw [if_neg (fun h => by cases h.1)]
    rw [e]
    exact rnA_0 sm cs
theorem rnA_s : ∀ cs : List Nat, rnA 1 1 cs = if cs.all xSm = true then 1 else 0
  | [] => rfl
  | c :: cs => by
    show rnA 1 (nA 1 1 c) cs = _
    rw [List.all_cons]
    cases hx : xSm c with
    | true =>
      have e : nA 1 1 c = 1 := by
        unfold nA
        rw [hx]
        rfl
      rw [e, rnA_s cs, Bool.true_and]
    | false =>
      have e : nA 1 1 c = 0 := by
        unfold nA
        rw [hx]
        rfl
      rw [e, rnA_0, Bool.false_and]
      rfl
theorem rnA_d : ∀ cs : List Nat, rnA 0 1 cs = if cs.all (fun c => !xSm c) = true then 1 else 0
  | [] => rfl
  | c :: cs => by
    show rnA 0 (nA 0 1 c) cs = _
    rw [List.all_cons]
    cases hx : xSm c with
    | false =>
      have e : nA 0 1 c = 1 := by
        unfold nA
        rw [hx]
        rfl
      rw [e, rnA_d cs, Bool.not_false, Bool.true_and]
    | true =>
      have e : nA 0 1 c = 0 := by
        unfold nA
        rw [hx]
        rfl
      rw [e, rnA_0, Bool.not_true, Bool.false_and]
      rfl
theorem eBn_0 (a b : Nat) : eBn 0 a b = vAdd a b := rfl
theorem eBn_1 (a b : Nat) : eBn 1 a b = vSub a b := rfl
theorem eBn_2 (a b : Nat) : eBn 2 a b = vMul a b := rfl
theorem nV_eq {s v c : Nat} (hs : s < 3) (hv : v ≤ 99) (h1 : 48 ≤ c) (h2 : c ≤ 57) : nV s v c = 10 * v + (c - 48) := by
  unfold nV
  rw [if_pos hs, eBn_1, eBn_0, eBn_2]
  unfold vSub vAdd vMul
  omega
theorem rnV_eq : ∀ (cs : List Nat) (s v : Nat), cs.all xDg = true → s + cs.length ≤ 3 → (s = 0 → v = 0) → (s = 1 → v ≤ 9) → (s = 2 → v ≤ 99) → rnV s v cs = cs.foldl (fun a c => 10 * a + (c - 48)) v
  | [], s, v, _, _, _, _, _ => rfl
  | c :: cs, s, v, h, hl, h0, h1, h2 => by
    rw [List.all_cons, Bool.and_eq_true] at h
    rw [List.length_cons] at hl
    have hc := xDg_i h.1
    have e := nV_eq (s := s) (v := v) (c := c) (by omega) (by omega) hc.1 hc.2
    show rnV (s + 1) (nV s v c) cs = List.foldl _ (10 * v + (c - 48)) cs
    rw [e]
    exact rnV_eq cs (s + 1) _ h.2 (by omega) (by omega) (by omega) (by omega)
/-- the reference holds this token, at this place -/
def mTok (hp : List vOb) (t : Nat × List Nat) (a : Nat) : Prop := hC hp 220 12 (.inl a) ∧ ((t.1 = 0 ∧ hC hp 220 11 (.inl 0)) ∨ (t.1 = 1 ∧ hC hp 220 11 (.inl 4)) ∨ (t.1 = 2 ∧ hC hp 220 11 (.inl 1) ∧ hC hp 220 17 (.inr (.inr (.inl (rnW 0 0 t.2))))) ∨ (∃ v, t = (3, [v]) ∧ hC hp 220 11 (.inl 2) ∧ hC hp 220 14 (.inl v)) ∨ (∃ c, t = (4, [c]) ∧ hC hp 220 11 (.inl 3) ∧ hC hp 220 14 (.inl c)))
noncomputable def vRt0 (M : vMt) (pc : Nat) : Bool := match vGet M.2.2.2.2.1 pc with
  | some x => (match x.1 with
    | .return_ => true
    | _ => false)
  | none => false
theorem k_return {d : Nat} {M : vMt} {pc : Nat} {kl : vLs} {hp : List vOb} {P : Option vAV → List vOb → Prop} (hg : vRt0 M pc = true) (hr : M.2.2.2.1 = none) (h : P none hp) : kEnd vms vdf d M (pc, kl, [], hp) P := by
  unfold vRt0 at hg
  split at hg
  · next x hx =>
    obtain ⟨i, len, a, b, t⟩ := x
    dsimp only at hg
    split at hg
    · refine ⟨_, kRe.rf _, .return_, len, a, b, t, none, hx, rfl, ?_, h⟩
      show vRet M.2.2.2.1 .return_ [] = _
      rw [hr]
      rfl
    · cases hg
  · cases hg
set_option maxRecDepth 1000000 in
theorem nx_rt : [79, 94, 163, 336].all (fun p => vRt0 m_X12_next p) = true := by decide +kernel
theorem hM_next : vms[65]? = some m_X12_next := by rw [← vNth_eq]; rfl
/-- what next() leaves at 31 and behind, by the token at q -/
def nxP (hp0 : List vOb) (t : Nat × List Nat) (a p : Nat) (kr : Option vAV) (hp' : List vOb) : Prop := kr = none ∧ sFr nxF hp0 hp' ∧ mTok hp' t a ∧ (t.1 ≠ 1 → hC hp' 220 4 (.inl p))
theorem nx_al {d : Nat} (hd : 8 ≤ d) {τ : Nat → Nat} {z m q sm : Nat} (hsm : sm < 2) {hp0 hp : List vOb} {kl : vLs} (hR : nRdy hp τ z m) (hq : q < z) (hF : sFr nxF hp0 hp) (h4 : hC hp 220 4 (.inl q)) (ha : hC hp 220 12 (.inl q)) (hw : hC hp 220 17 (.inr (.inr (.inl 0)))) (hv : hC hp 220 14 (.inl 0)) (hs : hC hp 220 13 (.inl 0)) (hl : eLm (rL []) (nxR sm 1) kl) (h1 : sm = 1 → xSm (τ q % 256) = true) (h0 : sm = 0 → xDg (τ q % 256) = true) :
    kEnd vms vdf d m_X12_next (181, kl, [], hp) (nxP hp0 (xTk (xRn (fun i => τ i % 256) (z - q) q)) q (q + (xRn (fun i => τ i % 256) (z - q) q).length)) := by
  have hz : z ≤ 940 := hR.2.2.2.2.2.1
  obtain ⟨kl1, hp1, q1, q2, r4, r13, r17, r14, qf⟩ := nx_run hd hsm (z - q) q 0 0 0 1 rfl (by omega) (by omega) (by omega) hR h4 hw hv hs hl
  have hR1 := nRdy_fr qf (by decide) hR
  have hF1 := hF.tr (qf.mono (sMsub_ok (by decide)))
  obtain ⟨cs, hcs⟩ : ∃ cs, xRn (fun i => τ i % 256) (z - q) q = cs := ⟨_, rfl⟩
  have hal := xRn_al (τ := fun i => τ i % 256) (z - q) q
  have hlen := xRn_len (τ := fun i => τ i % 256) (z - q) q
  have hhd : ∃ c cs', cs = c :: cs' ∧ c = τ q % 256 := by
    obtain ⟨k, hk⟩ : ∃ k, z - q = k + 1 := ⟨z - q - 1, by omega⟩
    rw [← hcs, hk]
    unfold xRn
    have hc : (xSm (τ q % 256) || xDg (τ q % 256)) = true := by
      have : sm = 0 ∨ sm = 1 := by omega
      rcases this with e | e
      · rw [h0 e, Bool.or_true]
      · rw [h1 e, Bool.true_or]
    rw [hc, cond_true]
    exact ⟨_, _, rfl, rfl⟩
  rw [hcs] at q2 r4 r13 r17 r14 hal hlen ⊢
  rw [Nat.zero_add] at r13
  have hat : hC hp1 220 12 (.inl q) := hC_fr qf (sMnot_ok rfl) ha
  refine kEnd.of q1 ?_
  obtain ⟨c, cs', ec, ev⟩ := hhd
  have fin : ∀ (tok : Nat) (hp2 : List vOb) (kl2 : vLs), kRe vms vdf d vt_X12_next 0 0 (298, kl1, [], hp1) (336, kl2, [], hp2) → sFr [(220, 11, 11)] hp1 hp2 → (hC hp2 220 12 (.inl q) → mTok hp2 (xTk cs) q) → kEnd vms vdf d m_X12_next (298, kl1, [], hp1) (nxP hp0 (xTk cs) q (q + cs.length)) := fun tok hp2 kl2 g1 g2 g3 => by
    refine kEnd.of g1 (k_return (List.all_eq_true.mp nx_rt 336 (by decide)) rfl ⟨rfl, hF1.tr (g2.mono (sMsub_ok (by decide))), g3 (hC_fr g2 (sMnot_ok rfl) hat), fun _ => hC_fr g2 (sMnot_ok rfl) r4⟩)
  have : sm = 0 ∨ sm = 1 := by omega
  rcases this with rfl | rfl
  · -- digits first
    have hd0 : xSm c = false := by
      have := xDg_i (h0 rfl)
      rw [ev]
      exact xSm_f (by omega)
    have ns : cs.all xSm = false := by
      rw [ec, List.all_cons, hd0]
      rfl
    rw [rnA_d] at q2
    cases hx : cs.all (fun c => !xSm c) with
    | true =>
      rw [hx, if_pos rfl] at q2
      have hdg : cs.all xDg = true := by
        rw [List.all_eq_true]
        intro x hxm
        have g1 := List.all_eq_true.mp hx x hxm
        have g2 := List.all_eq_true.mp hal x hxm
        cases hb : xSm x with
        | true => rw [hb] at g1; cases g1
        | false => rw [hb, Bool.false_or] at g2; exact g2
      by_cases h3 : cs.length ≤ 3
      · obtain ⟨kl2, hp2, g1, g2, g3, g4⟩ := nf_01t hd hR1.1 (eLm_k rfl q2) r13 (by omega) h3
        refine fin 2 hp2 kl2 g1 g4 (fun h12 => ⟨h12, Or.inr (Or.inr (Or.inr (Or.inl ⟨rnV 0 0 cs, ?_, g3, hC_fr g4 (sMnot_ok rfl) r14⟩)))⟩)
        unfold xTk
        rw [ns, Bool.false_and, cond_false, hdg, Nat.ble_eq_true_of_le h3, Bool.and_self, cond_true, rnV_eq cs 0 0 hdg (by omega) (fun _ => rfl) (by omega) (by omega)]
      · obtain ⟨kl2, hp2, g1, g2, g3, g4⟩ := nf_01f hd hR1.1 (eLm_k rfl q2) r13 (by omega) (by omega)
        refine fin 4 hp2 kl2 g1 g4 (fun h12 => ⟨h12, Or.inr (Or.inl ⟨?_, g3⟩)⟩)
        have h3' : Nat.ble cs.length 3 = false := by
          cases hb : Nat.ble cs.length 3 with
          | false => rfl
          | true => exact absurd (Nat.le_of_ble_eq_true hb) h3
        unfold xTk
        rw [ns, Bool.false_and, cond_false, h3', Bool.and_false, cond_false]
    | false =>
      rw [hx, if_neg (by decide)] at q2
      obtain ⟨kl2, hp2, g1, g2, g3, g4⟩ := nf_00 hd hR1.1 (eLm_k rfl q2) r13 (by omega)
      refine fin 4 hp2 kl2 g1 g4 (fun h12 => ⟨h12, Or.inr (Or.inl ⟨?_, g3⟩)⟩)
      have hdg : cs.all xDg = false := by
        cases hb : cs.all xDg with
        | false => rfl
        | true =>
          exfalso
          have : cs.all (fun c => !xSm c) = true := by
            rw [List.all_eq_true]
            intro x hxm
            have g1 := xDg_i (List.all_eq_true.mp hb x hxm)
            rw [xSm_f (by omega)]
            rfl
          rw [hx] at this
          cases this
      unfold xTk
      rw [ns, Bool.false_and, cond_false, hdg, Bool.false_and, cond_false]
  · -- letters first
    have hs1 : xSm c = true := by rw [ev]; exact h1 rfl
    have nd : cs.all xDg = false := by
      have := xSm_i hs1
      rw [ec, List.all_cons, xDg_f (by omega)]
      rfl
    rw [rnA_s] at q2
    cases hx : cs.all xSm with
    | true =>
      rw [hx, if_pos rfl] at q2
      by_cases h7 : cs.length ≤ 7
      · obtain ⟨kl2, hp2, g1, g2, g3, g4⟩ := nf_11t hd hR1.1 (eLm_k rfl q2) r13 (by omega) h7
        refine fin 1 hp2 kl2 g1 g4 (fun h12 => ⟨h12, Or.inr (Or.inr (Or.inl ?_))⟩)
        have e : xTk cs = (2, cs) := by
          unfold xTk
          rw [hx, Nat.ble_eq_true_of_le h7, Bool.and_self, cond_true]
        rw [e]
        exact ⟨rfl, g3, hC_fr g4 (sMnot_ok rfl) r17⟩
      · obtain ⟨kl2, hp2, g1, g2, g3, g4⟩ := nf_11f hd hR1.1 (eLm_k rfl q2) r13 (by omega) (by omega)
        refine fin 4 hp2 kl2 g1 g4 (fun h12 => ⟨h12, Or.inr (Or.inl ⟨?_, g3⟩)⟩)
        have h7' : Nat.ble cs.length 7 = false := by
          cases hb : Nat.ble cs.length 7 with
          | false => rfl
          | true => exact absurd (Nat.le_of_ble_eq_true hb) h7
        unfold xTk
        rw [h7', Bool.and_false, cond_false, nd, Bool.false_and, cond_false]
    | false =>
      rw [hx, if_neg (by decide)] at q2
      obtain ⟨kl2, hp2, g1, g2, g3, g4⟩ := nf_10 hd hR1.1 (eLm_k rfl q2) r13 (by omega)
      refine fin 4 hp2 kl2 g1 g4 (fun h12 => ⟨h12, Or.inr (Or.inl ⟨?_, g3⟩)⟩)
      unfold xTk
      rw [hx, Bool.false_and, cond_false, nd, Bool.false_and, cond_false]
theorem nx_sg {d : Nat} {hp0 hp1 : List vOb} {t : Nat × List Nat} {a p : Nat} {kl kl1 : vLs} {hp : List vOb} {pc : Nat} (hpc : pc ∈ [79, 94, 163]) (hF : sFr nxF hp0 hp) (q1 : kRe vms vdf d vt_X12_next 0 0 (31, kl, [], hp) (pc, kl1, [], hp1)) (qf : sFr nxF hp hp1) (ht : mTok hp1 t a) (hp4 : t.1 ≠ 1 → hC hp1 220 4 (.inl p)) : kEnd vms vdf d m_X12_next (31, kl, [], hp) (nxP hp0 t a p) := by
  refine kEnd.of q1 (k_return ?_ rfl ⟨rfl, hF.tr qf, ht, hp4⟩)
  refine List.all_eq_true.mp nx_rt pc ?_
  simp only [List.mem_cons, List.not_mem_nil, or_false] at hpc ⊢
  omega
theorem xSg_f {c : Nat} (h : c ≠ 59 ∧ c ≠ 40 ∧ c ≠ 41 ∧ (c < 60 ∨ 62 < c)) : xSg c = false := by
  unfold xSg
  rw [beq_f h.1, beq_f h.2.1, beq_f h.2.2.1]
  cases hb : (Nat.ble 60 c && Nat.ble c 62) with
  | false => rfl
  | true =>
    rw [Bool.and_eq_true] at hb
    have := Nat.le_of_ble_eq_true hb.1
    have := Nat.le_of_ble_eq_true hb.2
    omega
theorem xSg_t {c : Nat} (h : c = 59 ∨ c = 40 ∨ c = 41 ∨ (60 ≤ c ∧ c ≤ 62)) : xSg c = true := by
  rcases h with rfl | rfl | rfl | ⟨h1, h2⟩
  · rfl
  · rfl
  · rfl
  · unfold xSg
    rw [Nat.ble_eq_true_of_le h1, Nat.ble_eq_true_of_le h2, Bool.and_self, Bool.or_true, Bool.or_true, Bool.or_true]
/-- the token at a place where none is blank -/
def xAt (τ : Nat → Nat) (z q : Nat) : (Nat × List Nat) × Nat := if (xSm (τ q) || xDg (τ q)) = true then (xTk (xRn τ (z - q) q), q + (xRn τ (z - q) q).length) else ((if xSg (τ q) = true then (4, [τ q]) else (1, [])), q + 1)
/-- from 31 on, the token at q -/
theorem nx_at {d : Nat} (hd : 8 ≤ d) {τ : Nat → Nat} {z m q : Nat} {hp0 hp : List vOb} {kl : vLs} (hR : nRdy hp τ z m) (hq : q < z) (hlim : z ≤ m ∨ (m < z ∧ q < m)) (hF : sFr nxF hp0 hp) (h4 : hC hp 220 4 (.inl q)) (hl : eLm (rL []) nxL kl) :
    kEnd vms vdf d m_X12_next (31, kl, [], hp) (nxP hp0 (xAt (fun i => τ i % 256) z q).1 q (xAt (fun i => τ i % 256) z q).2) := by
  have hR' := hR
  obtain ⟨h1, h2, h3, h5, h6, h7, h8⟩ := hR
  have hu := h6 q hq
  have mk : ∀ (t : Nat × List Nat) (p : Nat), xAt (fun i => τ i % 256) z q = (t, p) → kEnd vms vdf d m_X12_next (31, kl, [], hp) (nxP hp0 t q p) → kEnd vms vdf d m_X12_next (31, kl, [], hp) (nxP hp0 (xAt (fun i => τ i % 256) z q).1 q (xAt (fun i => τ i % 256) z q).2) := fun t p e h => by
    rw [e]
    exact h
  cases hs : xSm (τ q % 256) with
  | true =>
    obtain ⟨c3, c4⟩ := xSm_i hs
    refine mk (xTk (xRn (fun i => τ i % 256) (z - q) q)) _ (by unfold xAt; rw [hs, Bool.true_or, if_pos rfl]) ?_
    rcases hlim with hlim | ⟨hl1, hl2⟩
    · obtain ⟨kl1, hp1, q1, q2, r0, r1, r2, r3, qf⟩ := nx_wa hd h1 (eLm_k rfl hl) h4 h2 h3 h5 hu (by omega) (by omega) (by omega) hlim hq c3 c4
      exact kEnd.of q1 (nx_al (sm := 1) hd (by omega) (nRdy_fr qf (by decide) hR') hq (hF.tr (qf.mono (sMsub_ok (by decide)))) (hC_fr qf (sMnot_ok rfl) h4) r3 r1 r0 r2 (eLm_k rfl (eLm_n1 q2)) (fun _ => hs) (fun e => by omega))
    · obtain ⟨kl1, hp1, q1, q2, r0, r1, r2, r3, qf⟩ := nx_wb hd h1 (eLm_k rfl hl) h4 h2 h3 h5 hu (by omega) (by omega) (by omega) hl1 hl2 c3 c4
      exact kEnd.of q1 (nx_al (sm := 1) hd (by omega) (nRdy_fr qf (by decide) hR') hq (hF.tr (qf.mono (sMsub_ok (by decide)))) (hC_fr qf (sMnot_ok rfl) h4) r3 r1 r0 r2 (eLm_k rfl (eLm_n1 q2)) (fun _ => hs) (fun e => by omega))
  | false =>
    cases hg : xDg (τ q % 256) with
    | true =>
      obtain ⟨c3, c4⟩ := xDg_i hg
      refine mk (xTk (xRn (fun i => τ i % 256) (z - q) q)) _ (by unfold xAt; rw [hs, hg, Bool.or_true, if_pos rfl]) ?_
      rcases hlim with hlim | ⟨hl1, hl2⟩
      · obtain ⟨kl1, hp1, q1, q2, r0, r1, r2, r3, qf⟩ := nx_da hd h1 (eLm_k rfl hl) h4 h2 h3 h5 hu (by omega) (by omega) (by omega) hlim hq c3 c4
        exact kEnd.of q1 (nx_al (sm := 0) hd (by omega) (nRdy_fr qf (by decide) hR') hq (hF.tr (qf.mono (sMsub_ok (by decide)))) (hC_fr qf (sMnot_ok rfl) h4) r3 r1 r0 r2 (eLm_k rfl (eLm_n1 q2)) (fun e => by omega) (fun _ => hg))
      · obtain ⟨kl1, hp1, q1, q2, r0, r1, r2, r3, qf⟩ := nx_db hd h1 (eLm_k rfl hl) h4 h2 h3 h5 hu (by omega) (by omega) (by omega) hl1 hl2 c3 c4
        exact kEnd.of q1 (nx_al (sm := 0) hd (by omega) (nRdy_fr qf (by decide) hR') hq (hF.tr (qf.mono (sMsub_ok (by decide)))) (hC_fr qf (sMnot_ok rfl) h4) r3 r1 r0 r2 (eLm_k rfl (eLm_n1 q2)) (fun e => by omega) (fun _ => hg))
    | false =>
      have n1 : ¬ (97 ≤ τ q % 256 ∧ τ q % 256 ≤ 122) := fun h => by
        rw [xSm_t h.1 h.2] at hs
        cases hs
      have n2 : ¬ (48 ≤ τ q % 256 ∧ τ q % 256 ≤ 57) := fun h => by
        unfold xDg at hg
        rw [Nat.ble_eq_true_of_le h.1, Nat.ble_eq_true_of_le h.2] at hg
        cases hg
      have sgn : ∀ (kl1 : vLs) (hp1 : List vOb), xSg (τ q % 256) = true → kRe vms vdf d vt_X12_next 0 0 (31, kl, [], hp) (163, kl1, [], hp1) → sFr nxF hp hp1 → hC hp1 220 4 (.inl (q + 1)) → hC hp1 220 14 (.inl (τ q % 256)) → hC hp1 220 11 (.inl 3) → hC hp1 220 12 (.inl q) → kEnd vms vdf d m_X12_next (31, kl, [], hp) (nxP hp0 (xAt (fun i => τ i % 256) z q).1 q (xAt (fun i => τ i % 256) z q).2) := fun kl1 hp1 e q1 qf g4 g14 g11 g12 => by
        refine mk (4, [τ q % 256]) (q + 1) (by unfold xAt; rw [hs, hg, Bool.or_self, if_neg (by decide), e, if_pos rfl]) (nx_sg (by decide) hF q1 qf ⟨g12, Or.inr (Or.inr (Or.inr (Or.inr ⟨_, rfl, g11, g14⟩)))⟩ (fun _ => g4))
      have bad : ∀ (kl1 : vLs) (hp1 : List vOb), xSg (τ q % 256) = false → kRe vms vdf d vt_X12_next 0 0 (31, kl, [], hp) (163, kl1, [], hp1) → sFr nxF hp hp1 → hC hp1 220 11 (.inl 4) → hC hp1 220 12 (.inl q) → kEnd vms vdf d m_X12_next (31, kl, [], hp) (nxP hp0 (xAt (fun i => τ i % 256) z q).1 q (xAt (fun i => τ i % 256) z q).2) := fun kl1 hp1 e q1 qf g11 g12 => by
        refine mk (1, []) (q + 1) (by unfold xAt; rw [hs, hg, Bool.or_self, if_neg (by decide), e, if_neg (by decide)]) (nx_sg (by decide) hF q1 qf ⟨g12, Or.inr (Or.inl ⟨rfl, g11⟩)⟩ (fun h => absurd rfl h))
      rcases hlim with hlim | ⟨hl1, hl2⟩
      · by_cases e1 : τ q % 256 = 59
        · obtain ⟨kl1, hp1, q1, q2, r0, r1, r2, r3, r4, qf⟩ := nx_sa_59 hd h1 (eLm_k rfl hl) h4 h2 h3 h5 hu (by omega) (by omega) (by omega) hlim hq e1
          exact sgn kl1 hp1 (xSg_t (by omega)) q1 (qf.mono (sMsub_ok (by decide))) r0 r1 r2 r4
        by_cases e2 : τ q % 256 = 40
        · obtain ⟨kl1, hp1, q1, q2, r0, r1, r2, r3, r4, qf⟩ := nx_sa_40 hd h1 (eLm_k rfl hl) h4 h2 h3 h5 hu (by omega) (by omega) (by omega) hlim hq e2
          exact sgn kl1 hp1 (xSg_t (by omega)) q1 (qf.mono (sMsub_ok (by decide))) r0 r1 r2 r4
        by_cases e3 : τ q % 256 = 41
        · obtain ⟨kl1, hp1, q1, q2, r0, r1, r2, r3, r4, qf⟩ := nx_sa_41 hd h1 (eLm_k rfl hl) h4 h2 h3 h5 hu (by omega) (by omega) (by omega) hlim hq e3
          exact sgn kl1 hp1 (xSg_t (by omega)) q1 (qf.mono (sMsub_ok (by decide))) r0 r1 r2 r4
        by_cases e4 : 60 ≤ τ q % 256 ∧ τ q % 256 ≤ 62
        · obtain ⟨kl1, hp1, q1, q2, r0, r1, r2, r3, r4, qf⟩ := nx_sa_60 hd h1 (eLm_k rfl hl) h4 h2 h3 h5 hu (by omega) (by omega) (by omega) hlim hq e4.1 e4.2
          exact sgn kl1 hp1 (xSg_t (by omega)) q1 (qf.mono (sMsub_ok (by decide))) r0 r1 r2 r4
        by_cases e5 : τ q % 256 < 48
        · obtain ⟨kl1, hp1, q1, q2, r0, r1, r2, r3, r4, qf⟩ := nx_sa_lo hd h1 (eLm_k rfl hl) h4 h2 h3 h5 hu (by omega) (by omega) (by omega) hlim hq e5 e2 e3
          exact bad kl1 hp1 (xSg_f (by omega)) q1 (qf.mono (sMsub_ok (by decide))) r2 r4
        by_cases e6 : τ q % 256 = 58
        · obtain ⟨kl1, hp1, q1, q2, r0, r1, r2, r3, r4, qf⟩ := nx_sa_58 hd h1 (eLm_k rfl hl) h4 h2 h3 h5 hu (by omega) (by omega) (by omega) hlim hq e6
          exact bad kl1 hp1 (xSg_f (by omega)) q1 (qf.mono (sMsub_ok (by decide))) r2 r4
        by_cases e7 : 122 < τ q % 256
        · obtain ⟨kl1, hp1, q1, q2, r0, r1, r2, r3, r4, qf⟩ := nx_sa_hi hd h1 (eLm_k rfl hl) h4 h2 h3 h5 hu (by omega) (by omega) (by omega) hlim hq e7
          exact bad kl1 hp1 (xSg_f (by omega)) q1 (qf.mono (sMsub_ok (by decide))) r2 r4
        obtain ⟨kl1, hp1, q1, q2, r0, r1, r2, r3, r4, qf⟩ := nx_sa_mi hd h1 (eLm_k rfl hl) h4 h2 h3 h5 hu (by omega) (by omega) (by omega) hlim hq (by omega) (by omega)
        exact bad kl1 hp1 (xSg_f (by omega)) q1 (qf.mono (sMsub_ok (by decide))) r2 r4
      · by_cases e1 : τ q % 256 = 59
        · obtain ⟨kl1, hp1, q1, q2, r0, r1, r2, r3, r4, qf⟩ := nx_sb_59 hd h1 (eLm_k rfl hl) h4 h2 h3 h5 hu (by omega) (by omega) (by omega) hl1 hl2 e1
          exact sgn kl1 hp1 (xSg_t (by omega)) q1 (qf.mono (sMsub_ok (by decide))) r0 r1 r2 r4
        by_cases e2 : τ q % 256 = 40
        · obtain ⟨kl1, hp1, q1, q2, r0, r1, r2, r3, r4, qf⟩ := nx_sb_40 hd h1 (eLm_k rfl hl) h4 h2 h3 h5 hu (by omega) (by omega) (by omega) hl1 hl2 e2
          exact sgn kl1 hp1 (xSg_t (by omega)) q1 (qf.mono (sMsub_ok (by decide))) r0 r1 r2 r4
        by_cases e3 : τ q % 256 = 41
        · obtain ⟨kl1, hp1, q1, q2, r0, r1, r2, r3, r4, qf⟩ := nx_sb_41 hd h1 (eLm_k rfl hl) h4 h2 h3 h5 hu (by omega) (by omega) (by omega) hl1 hl2 e3
          exact sgn kl1 hp1 (xSg_t (by omega)) q1 (qf.mono (sMsub_ok (by decide))) r0 r1 r2 r4
        by_cases e4 : 60 ≤ τ q % 256 ∧ τ q % 256 ≤ 62
        · obtain ⟨kl1, hp1, q1, q2, r0, r1, r2, r3, r4, qf⟩ := nx_sb_60 hd h1 (eLm_k rfl hl) h4 h2 h3 h5 hu (by omega) (by omega) (by omega) hl1 hl2 e4.1 e4.2
          exact sgn kl1 hp1 (xSg_t (by omega)) q1 (qf.mono (sMsub_ok (by decide))) r0 r1 r2 r4
        by_cases e5 : τ q % 256 < 48
        · obtain ⟨kl1, hp1, q1, q2, r0, r1, r2, r3, r4, qf⟩ := nx_sb_lo hd h1 (eLm_k rfl hl) h4 h2 h3 h5 hu (by omega) (by omega) (by omega) hl1 hl2 e5 e2 e3
          exact bad kl1 hp1 (xSg_f (by omega)) q1 (qf.mono (sMsub_ok (by decide))) r2 r4
        by_cases e6 : τ q % 256 = 58
        · obtain ⟨kl1, hp1, q1, q2, r0, r1, r2, r3, r4, qf⟩ := nx_sb_58 hd h1 (eLm_k rfl hl) h4 h2 h3 h5 hu (by omega) (by omega) (by omega) hl1 hl2 e6
          exact bad kl1 hp1 (xSg_f (by omega)) q1 (qf.mono (sMsub_ok (by decide))) r2 r4
        by_cases e7 : 122 < τ q % 256
        · obtain ⟨kl1, hp1, q1, q2, r0, r1, r2, r3, r4, qf⟩ := nx_sb_hi hd h1 (eLm_k rfl hl) h4 h2 h3 h5 hu (by omega) (by omega) (by omega) hl1 hl2 e7
          exact bad kl1 hp1 (xSg_f (by omega)) q1 (qf.mono (sMsub_ok (by decide))) r2 r4
        obtain ⟨kl1, hp1, q1, q2, r0, r1, r2, r3, r4, qf⟩ := nx_sb_mi hd h1 (eLm_k rfl hl) h4 h2 h3 h5 hu (by omega) (by omega) (by omega) hl1 hl2 (by omega) (by omega)
        exact bad kl1 hp1 (xSg_f (by omega)) q1 (qf.mono (sMsub_ok (by decide))) r2 r4
