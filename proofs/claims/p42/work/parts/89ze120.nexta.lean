/-! ===== next() of the reference: blanks and runs ===== -/
def nRdy (hp : List vOb) (τ : Nat → Nat) (z m : Nat) : Prop := eSh shM hp ∧ hC hp 220 3 (.inl z) ∧ hC hp 220 5 (.inl m) ∧ hC hp 220 1 (.inr (.inr (.inr (.inl (some 221))))) ∧ (∀ i, i < z → hC hp 221 i (.inl (τ i))) ∧ z ≤ 940 ∧ m ≤ 940
def nxB (md : sMd) : Bool := md.all (fun m => Nat.beq m.1 220 && (Nat.ble 6 m.2.1 || (Nat.beq m.2.1 4 && Nat.beq m.2.2 4)))
theorem nxB_ok {md : sMd} (h : nxB md = true) {k i : Nat} (hm : sMin md k i) : k = 220 ∧ (6 ≤ i ∨ i = 4) := by
  obtain ⟨m, m1, m2, m3, m4⟩ := hm
  have h1 := List.all_eq_true.mp h m m1
  rw [Bool.and_eq_true, Bool.or_eq_true, Bool.and_eq_true] at h1
  refine ⟨m2.symm.trans (Nat.eq_of_beq_eq_true h1.1), ?_⟩
  rcases h1.2 with h2 | ⟨h2, h3⟩
  · have := Nat.le_of_ble_eq_true h2
    omega
  · have := Nat.eq_of_beq_eq_true h2
    have := Nat.eq_of_beq_eq_true h3
    omega
theorem nRdy_fr {md : sMd} {hp hp' : List vOb} {τ : Nat → Nat} {z m : Nat} (hf : sFr md hp hp') (hm : nxB md = true) (h : nRdy hp τ z m) : nRdy hp' τ z m := by
  obtain ⟨h1, h2, h3, h4, h5, h6⟩ := h
  refine ⟨eSh_fr hf h1, hC_fr hf (fun hi => ?_) h2, hC_fr hf (fun hi => ?_) h3, hC_fr hf (fun hi => ?_) h4, fun i hi => hC_fr hf (fun hi2 => ?_) (h5 i hi), h6⟩
  · have := nxB_ok hm hi
    omega
  · have := nxB_ok hm hi
    omega
  · have := nxB_ok hm hi
    omega
  · have := nxB_ok hm hi2
    omega
def nxL : List (Option eV) := [some (.inr (.inr (some 220))), none, none, none]
def nxF : sMd := [(220, 4, 4), (220, 11, 14), (220, 17, 17)]
def nxG : sMd := [(220, 4, 4), (220, 13, 14), (220, 17, 17)]
theorem xBl_t {c : Nat} (h : c = 32 ∨ c = 10) : xBl c = true := by
  rcases h with rfl | rfl <;> rfl
theorem xBl_f {c : Nat} (h1 : c ≠ 32) (h2 : c ≠ 10) : xBl c = false := by
  unfold xBl
  rw [beq_f h1, beq_f h2]
  rfl
theorem nx_skip {d : Nat} (hd : 8 ≤ d) {τ : Nat → Nat} {z m : Nat} : ∀ (k n : Nat) {hp : List vOb} {kl : vLs}, z - n = k → n ≤ 940 → nRdy hp τ z m → hC hp 220 4 (.inl n) → eLm (rL []) nxL kl → ∃ kl' hp', kRe vms vdf d vt_X12_next 0 0 (0, kl, [], hp) (31, kl', [], hp') ∧ eLm (rL []) nxL kl' ∧ hC hp' 220 4 (.inl (xSk (fun i => τ i % 256) k n)) ∧ sFr [(220, 4, 4)] hp hp'
  | 0, n, hp, kl, hk, hn, hR, h4, hl => by
    obtain ⟨h1, h2, h3, h5, h6, h7, h8⟩ := hR
    obtain ⟨kl1, hp1, q1, q2, q3⟩ := nx_x1 hd h1 (eLm_k rfl hl) h4 h2 h3 h5 (by omega) (by omega) (by omega) (by omega)
    exact ⟨kl1, hp1, q1, eLm_k rfl q2, hC_fr q3 (fun ⟨m, m1, _⟩ => by cases m1) h4, eFr_nil q3⟩
  | k + 1, n, hp, kl, hk, hn, hR, h4, hl => by
    have hR' := hR
    obtain ⟨h1, h2, h3, h5, h6, h7, h8⟩ := hR
    have hu := h6 n (by omega)
    by_cases c1 : τ n % 256 = 32
    · obtain ⟨kl1, hp1, q1, q2, q3, q4⟩ := nx_b1 hd h1 (eLm_k rfl hl) h4 h2 h3 h5 hu (by omega) (by omega) (by omega) (by omega) c1
      obtain ⟨kl2, hp2, w1, w2, w3, w4⟩ := nx_skip hd k (n + 1) (by omega) (by omega) (nRdy_fr q4 rfl hR') q3 (eLm_k rfl q2)
      refine ⟨kl2, hp2, q1.tr w1, w2, ?_, q4.tr w4⟩
      unfold xSk
      rw [xBl_t (Or.inl c1), cond_true]
      exact w3
    · by_cases c2 : τ n % 256 = 10
      · obtain ⟨kl1, hp1, q1, q2, q3, q4⟩ := nx_b2 hd h1 (eLm_k rfl hl) h4 h2 h3 h5 hu (by omega) (by omega) (by omega) (by omega) c2
        obtain ⟨kl2, hp2, w1, w2, w3, w4⟩ := nx_skip hd k (n + 1) (by omega) (by omega) (nRdy_fr q4 rfl hR') q3 (eLm_k rfl q2)
        refine ⟨kl2, hp2, q1.tr w1, w2, ?_, q4.tr w4⟩
        unfold xSk
        rw [xBl_t (Or.inr c2), cond_true]
        exact w3
      · obtain ⟨kl1, hp1, q1, q2, q3⟩ := nx_x2 hd h1 (eLm_k rfl hl) h4 h2 h3 h5 hu (by omega) (by omega) (by omega) (by omega) c1 c2
        refine ⟨kl1, hp1, q1, eLm_k rfl q2, ?_, eFr_nil q3⟩
        unfold xSk
        rw [xBl_f c1 c2, cond_false]
        exact hC_fr q3 (fun ⟨m, m1, _⟩ => by cases m1) h4
/-! a run of letters and digits -/
def nxR (sm al : Nat) : List (Option eV) := [some (.inr (.inr (some 220))), none, some (.inl [(0, sm)]), some (.inl [(0, al)])]
def nA (sm al c : Nat) : Nat := if al = 1 ∧ (bif xSm c then 1 else 0) = sm then 1 else 0
noncomputable def nW (s w c : Nat) : Nat := if s < 7 then eBn 13 (eBn 14 w 8) (eUn 0 c) else w
noncomputable def nV (s v c : Nat) : Nat := if s < 3 then eBn 1 (eBn 0 (eBn 2 10 v) c) 48 else v
theorem xSm_t {c : Nat} (h1 : 97 ≤ c) (h2 : c ≤ 122) : xSm c = true := by
  unfold xSm
  rw [Nat.ble_eq_true_of_le h1, Nat.ble_eq_true_of_le h2]
  rfl
theorem xSm_i {c : Nat} (h : xSm c = true) : 97 ≤ c ∧ c ≤ 122 := by
  unfold xSm at h
  rw [Bool.and_eq_true] at h
  exact ⟨Nat.le_of_ble_eq_true h.1, Nat.le_of_ble_eq_true h.2⟩
theorem xDg_i {c : Nat} (h : xDg c = true) : 48 ≤ c ∧ c ≤ 57 := by
  unfold xDg at h
  rw [Bool.and_eq_true] at h
  exact ⟨Nat.le_of_ble_eq_true h.1, Nat.le_of_ble_eq_true h.2⟩
theorem xSm_f {c : Nat} (h : c < 97 ∨ 122 < c) : xSm c = false := by
  cases hb : xSm c with
  | false => rfl
  | true =>
    have := xSm_i hb
    omega
theorem xDg_f {c : Nat} (h : c < 48 ∨ 57 < c) : xDg c = false := by
  cases hb : xDg c with
  | false => rfl
  | true =>
    have := xDg_i hb
    omega
theorem nx_step {d : Nat} (hd : 8 ≤ d) {hp : List vOb} {kl : vLs} {n z u w v s sm al : Nat} (hsm : sm < 2) (hal : al < 2) (hs : eSh shM hp) (hl : eLm (rL []) (nxR sm al) kl) (h0 : hC hp 220 4 (.inl n)) (h1 : hC hp 220 3 (.inl z)) (h2 : hC hp 220 1 (.inr (.inr (.inr (.inl (some 221)))))) (h3 : hC hp 221 n (.inl u)) (h4 : hC hp 220 17 (.inr (.inr (.inl w)))) (h5 : hC hp 220 14 (.inl v)) (h6 : hC hp 220 13 (.inl s)) (hn : n < 2147483648) (hz : z < 2147483648) (hv : s < 2147483648) (c1 : n < z) (hc : (xSm (u % 256) || xDg (u % 256)) = true) :
    ∃ kl' hp', kRe vms vdf d vt_X12_next 0 0 (181, kl, [], hp) (181, kl', [], hp') ∧ eLm (rL []) (nxR sm (nA sm al (u % 256))) kl' ∧ hC hp' 220 4 (.inl (n + 1)) ∧ hC hp' 220 13 (.inl (s + 1)) ∧ hC hp' 220 17 (.inr (.inr (.inl (nW s w (u % 256))))) ∧ hC hp' 220 14 (.inl (nV s v (u % 256))) ∧ sFr nxG hp hp' := by
  have hsm2 : sm = 0 ∨ sm = 1 := by omega
  have hal2 : al = 0 ∨ al = 1 := by omega
  by_cases hx : xSm (u % 256) = true
  · obtain ⟨c3, c4⟩ := xSm_i hx
    rcases hsm2 with rfl | rfl <;> rcases hal2 with rfl | rfl
    · have ea : nA 0 0 (u % 256) = 0 := by
        unfold nA
        rw [hx]
        rfl
      rw [ea]
      by_cases s3 : s < 3
      · obtain ⟨kl1, hp1, q1, q2, r0, r1, r2, r3, qf⟩ := nr_w000 hd hs (eLm_k rfl hl) h0 h1 h2 h3 h4 h5 h6 hn hz hv c1 c3 c4 s3
        exact ⟨kl1, hp1, q1, eLm_k rfl q2, r0, r1, by rw [nW, if_pos (by omega)]; exact r3, by rw [nV, if_pos s3]; exact r2, qf.mono (sMsub_ok (by decide))⟩
      · by_cases s7 : s < 7
        · obtain ⟨kl1, hp1, q1, q2, r0, r1, r2, qf⟩ := nr_w003 hd hs (eLm_k rfl hl) h0 h1 h2 h3 h4 h5 h6 hn hz hv c1 c3 c4 (by omega) s7
          exact ⟨kl1, hp1, q1, eLm_k rfl q2, r0, r1, by rw [nW, if_pos s7]; exact r2, by rw [nV, if_neg s3]; exact hC_fr qf (sMnot_ok rfl) h5, qf.mono (sMsub_ok (by decide))⟩
        · obtain ⟨kl1, hp1, q1, q2, r0, r1, qf⟩ := nr_w007 hd hs (eLm_k rfl hl) h0 h1 h2 h3 h4 h5 h6 hn hz hv c1 c3 c4 (by omega)
          exact ⟨kl1, hp1, q1, eLm_k rfl q2, r0, r1, by rw [nW, if_neg s7]; exact hC_fr qf (sMnot_ok rfl) h4, by rw [nV, if_neg s3]; exact hC_fr qf (sMnot_ok rfl) h5, qf.mono (sMsub_ok (by decide))⟩
    · have ea : nA 0 1 (u % 256) = 0 := by
        unfold nA
        rw [hx]
        rfl
      rw [ea]
      by_cases s3 : s < 3
      · obtain ⟨kl1, hp1, q1, q2, r0, r1, r2, r3, qf⟩ := nr_w010 hd hs (eLm_k rfl hl) h0 h1 h2 h3 h4 h5 h6 hn hz hv c1 c3 c4 s3
        exact ⟨kl1, hp1, q1, eLm_k rfl q2, r0, r1, by rw [nW, if_pos (by omega)]; exact r3, by rw [nV, if_pos s3]; exact r2, qf.mono (sMsub_ok (by decide))⟩
      · by_cases s7 : s < 7
        · obtain ⟨kl1, hp1, q1, q2, r0, r1, r2, qf⟩ := nr_w013 hd hs (eLm_k rfl hl) h0 h1 h2 h3 h4 h5 h6 hn hz hv c1 c3 c4 (by omega) s7
          exact ⟨kl1, hp1, q1, eLm_k rfl q2, r0, r1, by rw [nW, if_pos s7]; exact r2, by rw [nV, if_neg s3]; exact hC_fr qf (sMnot_ok rfl) h5, qf.mono (sMsub_ok (by decide))⟩
        · obtain ⟨kl1, hp1, q1, q2, r0, r1, qf⟩ := nr_w017 hd hs (eLm_k rfl hl) h0 h1 h2 h3 h4 h5 h6 hn hz hv c1 c3 c4 (by omega)
          exact ⟨kl1, hp1, q1, eLm_k rfl q2, r0, r1, by rw [nW, if_neg s7]; exact hC_fr qf (sMnot_ok rfl) h4, by rw [nV, if_neg s3]; exact hC_fr qf (sMnot_ok rfl) h5, qf.mono (sMsub_ok (by decide))⟩
    · have ea : nA 1 0 (u % 256) = 0 := by
        unfold nA
        rw [hx]
        rfl
      rw [ea]
      by_cases s3 : s < 3
      · obtain ⟨kl1, hp1, q1, q2, r0, r1, r2, r3, qf⟩ := nr_w100 hd hs (eLm_k rfl hl) h0 h1 h2 h3 h4 h5 h6 hn hz hv c1 c3 c4 s3
        exact ⟨kl1, hp1, q1, eLm_k rfl q2, r0, r1, by rw [nW, if_pos (by omega)]; exact r3, by rw [nV, if_pos s3]; exact r2, qf.mono (sMsub_ok (by decide))⟩
      · by_cases s7 : s < 7
        · obtain ⟨kl1, hp1, q1, q2, r0, r1, r2, qf⟩ := nr_w103 hd hs (eLm_k rfl hl) h0 h1 h2 h3 h4 h5 h6 hn hz hv c1 c3 c4 (by omega) s7
          exact ⟨kl1, hp1, q1, eLm_k rfl q2, r0, r1, by rw [nW, if_pos s7]; exact r2, by rw [nV, if_neg s3]; exact hC_fr qf (sMnot_ok rfl) h5, qf.mono (sMsub_ok (by decide))⟩
        · obtain ⟨kl1, hp1, q1, q2, r0, r1, qf⟩ := nr_w107 hd hs (eLm_k rfl hl) h0 h1 h2 h3 h4 h5 h6 hn hz hv c1 c3 c4 (by omega)
          exact ⟨kl1, hp1, q1, eLm_k rfl q2, r0, r1, by rw [nW, if_neg s7]; exact hC_fr qf (sMnot_ok rfl) h4, by rw [nV, if_neg s3]; exact hC_fr qf (sMnot_ok rfl) h5, qf.mono (sMsub_ok (by decide))⟩
    · have ea : nA 1 1 (u % 256) = 1 := by
        unfold nA
        rw [hx]
        rfl
      rw [ea]
      by_cases s3 : s < 3
      · obtain ⟨kl1, hp1, q1, q2, r0, r1, r2, r3, qf⟩ := nr_w110 hd hs (eLm_k rfl hl) h0 h1 h2 h3 h4 h5 h6 hn hz hv c1 c3 c4 s3
        exact ⟨kl1, hp1, q1, eLm_k rfl q2, r0, r1, by rw [nW, if_pos (by omega)]; exact r3, by rw [nV, if_pos s3]; exact r2, qf.mono (sMsub_ok (by decide))⟩
      · by_cases s7 : s < 7
        · obtain ⟨kl1, hp1, q1, q2, r0, r1, r2, qf⟩ := nr_w113 hd hs (eLm_k rfl hl) h0 h1 h2 h3 h4 h5 h6 hn hz hv c1 c3 c4 (by omega) s7
          exact ⟨kl1, hp1, q1, eLm_k rfl q2, r0, r1, by rw [nW, if_pos s7]; exact r2, by rw [nV, if_neg s3]; exact hC_fr qf (sMnot_ok rfl) h5, qf.mono (sMsub_ok (by decide))⟩
        · obtain ⟨kl1, hp1, q1, q2, r0, r1, qf⟩ := nr_w117 hd hs (eLm_k rfl hl) h0 h1 h2 h3 h4 h5 h6 hn hz hv c1 c3 c4 (by omega)
          exact ⟨kl1, hp1, q1, eLm_k rfl q2, r0, r1, by rw [nW, if_neg s7]; exact hC_fr qf (sMnot_ok rfl) h4, by rw [nV, if_neg s3]; exact hC_fr qf (sMnot_ok rfl) h5, qf.mono (sMsub_ok (by decide))⟩
  · have hx : xSm (u % 256) = false := by
      cases hb : xSm (u % 256) with
      | false => rfl
      | true => exact absurd hb hx
    rw [hx, Bool.false_or] at hc
    obtain ⟨c3, c4⟩ := xDg_i hc
    rcases hsm2 with rfl | rfl <;> rcases hal2 with rfl | rfl
    · have ea : nA 0 0 (u % 256) = 0 := by
        unfold nA
        rw [hx]
        rfl
      rw [ea]
      by_cases s3 : s < 3
      · obtain ⟨kl1, hp1, q1, q2, r0, r1, r2, r3, qf⟩ := nr_d000 hd hs (eLm_k rfl hl) h0 h1 h2 h3 h4 h5 h6 hn hz hv c1 c3 c4 s3
        exact ⟨kl1, hp1, q1, eLm_k rfl q2, r0, r1, by rw [nW, if_pos (by omega)]; exact r3, by rw [nV, if_pos s3]; exact r2, qf.mono (sMsub_ok (by decide))⟩
      · by_cases s7 : s < 7
        · obtain ⟨kl1, hp1, q1, q2, r0, r1, r2, qf⟩ := nr_d003 hd hs (eLm_k rfl hl) h0 h1 h2 h3 h4 h5 h6 hn hz hv c1 c3 c4 (by omega) s7
          exact ⟨kl1, hp1, q1, eLm_k rfl q2, r0, r1, by rw [nW, if_pos s7]; exact r2, by rw [nV, if_neg s3]; exact hC_fr qf (sMnot_ok rfl) h5, qf.mono (sMsub_ok (by decide))⟩
        · obtain ⟨kl1, hp1, q1, q2, r0, r1, qf⟩ := nr_d007 hd hs (eLm_k rfl hl) h0 h1 h2 h3 h4 h5 h6 hn hz hv c1 c3 c4 (by omega)
          exact ⟨kl1, hp1, q1, eLm_k rfl q2, r0, r1, by rw [nW, if_neg s7]; exact hC_fr qf (sMnot_ok rfl) h4, by rw [nV, if_neg s3]; exact hC_fr qf (sMnot_ok rfl) h5, qf.mono (sMsub_ok (by decide))⟩
    · have ea : nA 0 1 (u % 256) = 1 := by
        unfold nA
        rw [hx]
        rfl
      rw [ea]
      by_cases s3 : s < 3
      · obtain ⟨kl1, hp1, q1, q2, r0, r1, r2, r3, qf⟩ := nr_d010 hd hs (eLm_k rfl hl) h0 h1 h2 h3 h4 h5 h6 hn hz hv c1 c3 c4 s3
        exact ⟨kl1, hp1, q1, eLm_k rfl q2, r0, r1, by rw [nW, if_pos (by omega)]; exact r3, by rw [nV, if_pos s3]; exact r2, qf.mono (sMsub_ok (by decide))⟩
      · by_cases s7 : s < 7
        · obtain ⟨kl1, hp1, q1, q2, r0, r1, r2, qf⟩ := nr_d013 hd hs (eLm_k rfl hl) h0 h1 h2 h3 h4 h5 h6 hn hz hv c1 c3 c4 (by omega) s7
          exact ⟨kl1, hp1, q1, eLm_k rfl q2, r0, r1, by rw [nW, if_pos s7]; exact r2, by rw [nV, if_neg s3]; exact hC_fr qf (sMnot_ok rfl) h5, qf.mono (sMsub_ok (by decide))⟩
        · obtain ⟨kl1, hp1, q1, q2, r0, r1, qf⟩ := nr_d017 hd hs (eLm_k rfl hl) h0 h1 h2 h3 h4 h5 h6 hn hz hv c1 c3 c4 (by omega)
          exact ⟨kl1, hp1, q1, eLm_k rfl q2, r0, r1, by rw [nW, if_neg s7]; exact hC_fr qf (sMnot_ok rfl) h4, by rw [nV, if_neg s3]; exact hC_fr qf (sMnot_ok rfl) h5, qf.mono (sMsub_ok (by decide))⟩
    · have ea : nA 1 0 (u % 256) = 0 := by
        unfold nA
        rw [hx]
        rfl
      rw [ea]
      by_cases s3 : s < 3
      · obtain ⟨kl1, hp1, q1, q2, r0, r1, r2, r3, qf⟩ := nr_d100 hd hs (eLm_k rfl hl) h0 h1 h2 h3 h4 h5 h6 hn hz hv c1 c3 c4 s3
        exact ⟨kl1, hp1, q1, eLm_k rfl q2, r0, r1, by rw [nW, if_pos (by omega)]; exact r3, by rw [nV, if_pos s3]; exact r2, qf.mono (sMsub_ok (by decide))⟩
      · by_cases s7 : s < 7
        · obtain ⟨kl1, hp1, q1, q2, r0, r1, r2, qf⟩ := nr_d103 hd hs (eLm_k rfl hl) h0 h1 h2 h3 h4 h5 h6 hn hz hv c1 c3 c4 (by omega) s7
          exact ⟨kl1, hp1, q1, eLm_k rfl q2, r0, r1, by rw [nW, if_pos s7]; exact r2, by rw [nV, if_neg s3]; exact hC_fr qf (sMnot_ok rfl) h5, qf.mono (sMsub_ok (by decide))⟩
        · obtain ⟨kl1, hp1, q1, q2, r0, r1, qf⟩ := nr_d107 hd hs (eLm_k rfl hl) h0 h1 h2 h3 h4 h5 h6 hn hz hv c1 c3 c4 (by omega)
          exact ⟨kl1, hp1, q1, eLm_k rfl q2, r0, r1, by rw [nW, if_neg s7]; exact hC_fr qf (sMnot_ok rfl) h4, by rw [nV, if_neg s3]; exact hC_fr qf (sMnot_ok rfl) h5, qf.mono (sMsub_ok (by decide))⟩
    · have ea : nA 1 1 (u % 256) = 0 := by
        unfold nA
        rw [hx]
        rfl
      rw [ea]
      by_cases s3 : s < 3
      · obtain ⟨kl1, hp1, q1, q2, r0, r1, r2, r3, qf⟩ := nr_d110 hd hs (eLm_k rfl hl) h0 h1 h2 h3 h4 h5 h6 hn hz hv c1 c3 c4 s3
        exact ⟨kl1, hp1, q1, eLm_k rfl q2, r0, r1, by rw [nW, if_pos (by omega)]; exact r3, by rw [nV, if_pos s3]; exact r2, qf.mono (sMsub_ok (by decide))⟩
      · by_cases s7 : s < 7
        · obtain ⟨kl1, hp1, q1, q2, r0, r1, r2, qf⟩ := nr_d113 hd hs (eLm_k rfl hl) h0 h1 h2 h3 h4 h5 h6 hn hz hv c1 c3 c4 (by omega) s7
          exact ⟨kl1, hp1, q1, eLm_k rfl q2, r0, r1, by rw [nW, if_pos s7]; exact r2, by rw [nV, if_neg s3]; exact hC_fr qf (sMnot_ok rfl) h5, qf.mono (sMsub_ok (by decide))⟩
        · obtain ⟨kl1, hp1, q1, q2, r0, r1, qf⟩ := nr_d117 hd hs (eLm_k rfl hl) h0 h1 h2 h3 h4 h5 h6 hn hz hv c1 c3 c4 (by omega)
          exact ⟨kl1, hp1, q1, eLm_k rfl q2, r0, r1, by rw [nW, if_neg s7]; exact hC_fr qf (sMnot_ok rfl) h4, by rw [nV, if_neg s3]; exact hC_fr qf (sMnot_ok rfl) h5, qf.mono (sMsub_ok (by decide))⟩
/-- what a run leaves: all, word, number -/
def rnA (sm : Nat) : Nat → List Nat → Nat
  | al, [] => al
  | al, c :: cs => rnA sm (nA sm al c) cs
noncomputable def rnW : Nat → Nat → List Nat → Nat
  | _, w, [] => w
  | s, w, c :: cs => rnW (s + 1) (nW s w c) cs
noncomputable def rnV : Nat → Nat → List Nat → Nat
  | _, v, [] => v
  | s, v, c :: cs => rnV (s + 1) (nV s v c) cs
theorem nA_lt (sm al c : Nat) : nA sm al c < 2 := by
  unfold nA
  split <;> omega
theorem nx_exit {d : Nat} (hd : 8 ≤ d) {hp : List vOb} {kl : vLs} {n z u sm al : Nat} (hsm : sm < 2) (hal : al < 2) (hs : eSh shM hp) (hl : eLm (rL []) (nxR sm al) kl) (h0 : hC hp 220 4 (.inl n)) (h1 : hC hp 220 3 (.inl z)) (h2 : hC hp 220 1 (.inr (.inr (.inr (.inl (some 221)))))) (hn : n < 2147483648) (hz : z < 2147483648) (hc : z ≤ n ∨ (n < z ∧ hC hp 221 n (.inl u) ∧ (xSm (u % 256) || xDg (u % 256)) = false)) :
    ∃ kl' hp', kRe vms vdf d vt_X12_next 0 0 (181, kl, [], hp) (298, kl', [], hp') ∧ eLm (rL []) (nxR sm al) kl' ∧ sFr [] hp hp' := by
  have hsm2 : sm = 0 ∨ sm = 1 := by omega
  have hal2 : al = 0 ∨ al = 1 := by omega
  rcases hc with hc | ⟨c1, h3, hc⟩
  · rcases hsm2 with rfl | rfl <;> rcases hal2 with rfl | rfl
    · obtain ⟨kl1, hp1, q1, q2, qf⟩ := ne_e00 hd hs (eLm_k rfl hl) h0 h1 h2 hn hz hc
      exact ⟨kl1, hp1, q1, eLm_k rfl q2, qf⟩
    · obtain ⟨kl1, hp1, q1, q2, qf⟩ := ne_e01 hd hs (eLm_k rfl hl) h0 h1 h2 hn hz hc
      exact ⟨kl1, hp1, q1, eLm_k rfl q2, qf⟩
    · obtain ⟨kl1, hp1, q1, q2, qf⟩ := ne_e10 hd hs (eLm_k rfl hl) h0 h1 h2 hn hz hc
      exact ⟨kl1, hp1, q1, eLm_k rfl q2, qf⟩
    · obtain ⟨kl1, hp1, q1, q2, qf⟩ := ne_e11 hd hs (eLm_k rfl hl) h0 h1 h2 hn hz hc
      exact ⟨kl1, hp1, q1, eLm_k rfl q2, qf⟩
  · rw [Bool.or_eq_false_iff] at hc
    have n1 : ¬ (97 ≤ u % 256 ∧ u % 256 ≤ 122) := fun h => by
      have := xSm_t h.1 h.2
      rw [hc.1] at this
      cases this
    have n2 : ¬ (48 ≤ u % 256 ∧ u % 256 ≤ 57) := fun h => by
      have h2 := hc.2
      unfold xDg at h2
      rw [Nat.ble_eq_true_of_le h.1, Nat.ble_eq_true_of_le h.2] at h2
      cases h2
    by_cases lo : u % 256 < 48
    · rcases hsm2 with rfl | rfl <;> rcases hal2 with rfl | rfl
      · obtain ⟨kl1, hp1, q1, q2, qf⟩ := ne_lo00 hd hs (eLm_k rfl hl) h0 h1 h2 h3 hn hz c1 lo
        exact ⟨kl1, hp1, q1, eLm_k rfl q2, qf⟩
      · obtain ⟨kl1, hp1, q1, q2, qf⟩ := ne_lo01 hd hs (eLm_k rfl hl) h0 h1 h2 h3 hn hz c1 lo
        exact ⟨kl1, hp1, q1, eLm_k rfl q2, qf⟩
      · obtain ⟨kl1, hp1, q1, q2, qf⟩ := ne_lo10 hd hs (eLm_k rfl hl) h0 h1 h2 h3 hn hz c1 lo
        exact ⟨kl1, hp1, q1, eLm_k rfl q2, qf⟩
      · obtain ⟨kl1, hp1, q1, q2, qf⟩ := ne_lo11 hd hs (eLm_k rfl hl) h0 h1 h2 h3 hn hz c1 lo
        exact ⟨kl1, hp1, q1, eLm_k rfl q2, qf⟩
    · by_cases hi : 122 < u % 256
      · rcases hsm2 with rfl | rfl <;> rcases hal2 with rfl | rfl
        · obtain ⟨kl1, hp1, q1, q2, qf⟩ := ne_hi00 hd hs (eLm_k rfl hl) h0 h1 h2 h3 hn hz c1 hi
          exact ⟨kl1, hp1, q1, eLm_k rfl q2, qf⟩
        · obtain ⟨kl1, hp1, q1, q2, qf⟩ := ne_hi01 hd hs (eLm_k rfl hl) h0 h1 h2 h3 hn hz c1 hi
          exact ⟨kl1, hp1, q1, eLm_k rfl q2, qf⟩
        · obtain ⟨kl1, hp1, q1, q2, qf⟩ := ne_hi10 hd hs (eLm_k rfl hl) h0 h1 h2 h3 hn hz c1 hi
          exact ⟨kl1, hp1, q1, eLm_k rfl q2, qf⟩
        · obtain ⟨kl1, hp1, q1, q2, qf⟩ := ne_hi11 hd hs (eLm_k rfl hl) h0 h1 h2 h3 hn hz c1 hi
          exact ⟨kl1, hp1, q1, eLm_k rfl q2, qf⟩
      · rcases hsm2 with rfl | rfl <;> rcases hal2 with rfl | rfl
        · obtain ⟨kl1, hp1, q1, q2, qf⟩ := ne_mi00 hd hs (eLm_k rfl hl) h0 h1 h2 h3 hn hz c1 (by omega) (by omega)
          exact ⟨kl1, hp1, q1, eLm_k rfl q2, qf⟩
        · obtain ⟨kl1, hp1, q1, q2, qf⟩ := ne_mi01 hd hs (eLm_k rfl hl) h0 h1 h2 h3 hn hz c1 (by omega) (by omega)
          exact ⟨kl1, hp1, q1, eLm_k rfl q2, qf⟩
        · obtain ⟨kl1, hp1, q1, q2, qf⟩ := ne_mi10 hd hs (eLm_k rfl hl) h0 h1 h2 h3 hn hz c1 (by omega) (by omega)
          exact ⟨kl1, hp1, q1, eLm_k rfl q2, qf⟩
        · obtain ⟨kl1, hp1, q1, q2, qf⟩ := ne_mi11 hd hs (eLm_k rfl hl) h0 h1 h2 h3 hn hz c1 (by omega) (by omega)
          exact ⟨kl1, hp1, q1, eLm_k rfl q2, qf⟩
theorem nx_run {d : Nat} (hd : 8 ≤ d) {τ : Nat → Nat} {z m sm : Nat} (hsm : sm < 2) : ∀ (k n s w v al : Nat) {hp : List vOb} {kl : vLs}, z - n = k → n ≤ 940 → s ≤ n → al < 2 → nRdy hp τ z m → hC hp 220 4 (.inl n) → hC hp 220 17 (.inr (.inr (.inl w))) → hC hp 220 14 (.inl v) → hC hp 220 13 (.inl s) → eLm (rL []) (nxR sm al) kl → ∃ kl' hp', kRe vms vdf d vt_X12_next 0 0 (181, kl, [], hp) (298, kl', [], hp') ∧ eLm (rL []) (nxR sm (rnA sm al (xRn (fun i => τ i % 256) k n))) kl' ∧ hC hp' 220 4 (.inl (n + (xRn (fun i => τ i % 256) k n).length)) ∧ hC hp' 220 13 (.inl (s + (xRn (fun i => τ i % 256) k n).length)) ∧ hC hp' 220 17 (.inr (.inr (.inl (rnW s w (xRn (fun i => τ i % 256) k n))))) ∧ hC hp' 220 14 (.inl (rnV s v (xRn (fun i => τ i % 256) k n))) ∧ sFr nxG hp hp'
  | 0, n, s, w, v, al, hp, kl, hk, hn, hsn, hal, hR, h4, hw, hv, hs, hl => by
    obtain ⟨h1, h2, h3, h5, h6, h7, h8⟩ := hR
    obtain ⟨kl1, hp1, q1, q2, q3⟩ := nx_exit (u := 0) hd hsm hal h1 hl h4 h2 h5 (by omega) (by omega) (Or.inl (by omega))
    exact ⟨kl1, hp1, q1, q2, eC_fr0 q3 h4, eC_fr0 q3 hs, eC_fr0 q3 hw, eC_fr0 q3 hv, eFr_nil q3⟩
  | k + 1, n, s, w, v, al, hp, kl, hk, hn, hsn, hal, hR, h4, hw, hv, hs, hl => by
    have hR' := hR
    obtain ⟨h1, h2, h3, h5, h6, h7, h8⟩ := hR
    have hu := h6 n (by omega)
    unfold xRn
    cases hc : (xSm (τ n % 256) || xDg (τ n % 256)) with
    | false =>
      rw [cond_false]
      obtain ⟨kl1, hp1, q1, q2, q3⟩ := nx_exit hd hsm hal h1 hl h4 h2 h5 (by omega) (by omega) (Or.inr ⟨by omega, hu, hc⟩)
      exact ⟨kl1, hp1, q1, q2, eC_fr0 q3 h4, eC_fr0 q3 hs, eC_fr0 q3 hw, eC_fr0 q3 hv, eFr_nil q3⟩
    | true =>
      rw [cond_true]
      obtain ⟨kl1, hp1, q1, q2, r0, r1, r2, r3, qf⟩ := nx_step hd hsm hal h1 hl h4 h2 h5 hu hw hv hs (by omega) (by omega) (by omega) (by omega) hc
      obtain ⟨kl2, hp2, w1, w2, w3, w4, w5, w6, w7⟩ := nx_run hd hsm k (n + 1) (s + 1) _ _ _ (by omega) (by omega) (by omega) (nA_lt _ _ _) (nRdy_fr qf (by decide) hR') r0 r2 r3 r1 q2
      refine ⟨kl2, hp2, q1.tr w1, w2, ?_, ?_, w5, w6, qf.tr w7⟩
      · rw [List.length_cons]
        have e : n + ((xRn (fun i => τ i % 256) k (n + 1)).length + 1) = n + 1 + (xRn (fun i => τ i % 256) k (n + 1)).length := by omega
        rw [e]
        exact w3
      · rw [List.length_cons]
        have e : s + ((xRn (fun i => τ i % 256) k (n + 1)).length + 1) = s + 1 + (xRn (fun i => τ i % 256) k (n + 1)).length := by omega
        rw [e]
        exact w4
