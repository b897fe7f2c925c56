/-! ===== the beginning of town() ===== -/
/-- told numbers, by new symbols: no table stands in them -/
theorem eDt_nx0 {ρ ρ' : Nat → Nat → Nat} {ys : List eX} {cd cH : eD} {B : Nat} {hp : List vOb} (hy : ∀ j, j < B → eR ρ (ys.getD j []) (ρ' 0 j)) (h : cH.all (fun e => eNx cd ys [] B e && (e.2.1.all (fun q => !Nat.beq q.1 4) && (e.2.2.2.isEmpty && (match e.2.2.1 with
  | .inl x => x.all (fun q => !Nat.beq q.1 4)
  | .inr (.inl x) => x.all (fun q => !Nat.beq q.1 4)
  | .inr (.inr _) => true)))) = true) (hd : eDt ρ cd hp) : eDt ρ' cH hp := by
  have e0 : ∀ x : eX, x.all (fun q => !Nat.beq q.1 4) = true → eVal ρ' x = eVal (fun k u => if k = 0 then ρ' 0 u else ρ k u) x := fun x hx => by
    have h1 : ∀ (x : eX) (st : List Nat), x.all (fun q => !Nat.beq q.1 4) = true → eEv ρ' x st = eEv (fun k u => if k = 0 then ρ' 0 u else ρ k u) x st := fun x => by
      induction x with
      | nil => intro st _; rfl
      | cons q x ih =>
        intro st hx
        rw [List.all_cons, Bool.and_eq_true] at hx
        show eEv ρ' x (eTok ρ' q st) = eEv _ x (eTok _ q st)
        rw [ih _ hx.2]
        obtain ⟨k, j⟩ := q
        match k with
        | 0 => rfl
        | 1 => rfl
        | 2 =>
          match st with
          | [] => rfl
          | [_] => rfl
          | _ :: _ :: _ => rfl
        | 3 =>
          match st with
          | [] => rfl
          | _ :: _ => rfl
        | 4 => exact absurd (show false = true from hx.1) Bool.false_ne_true
        | k + 5 => rfl
    unfold eVal
    rw [h1 x [] hx]
  intro e he hg
  have h1 := List.all_eq_true.mp h e he
  rw [Bool.and_eq_true, Bool.and_eq_true, Bool.and_eq_true] at h1
  obtain ⟨a1, a2, a3, a4⟩ := h1
  have h2 := eDt_next (ρ := ρ) (ρ' := fun k u => if k = 0 then ρ' 0 u else ρ k u) (ys := ys) (cd := cd) (cH := [e]) (gs := []) (B := B) (hp := hp) (fun j hj => hy j hj) (fun k _ h0 u => if_neg h0) (fun q hq => by cases hq) (by rw [List.all_cons, a1]; rfl) hd e List.mem_cons_self (fun q hq => by
    have : e.2.2.2 = [] := List.isEmpty_iff.mp a3
    rw [this] at hq
    cases hq)
  rw [e0 _ a2]
  obtain ⟨k, x, v, g⟩ := e
  rcases v with v | v | v
  · show hC hp k _ (.inl (eVal ρ' v))
    rw [e0 v a4]
    exact h2
  · show hC hp k _ (.inr (.inr (.inl (eVal ρ' v))))
    rw [e0 v a4]
    exact h2
  · exact h2
set_option maxRecDepth 1000000 in
theorem en4_k : eQ (eRun shc4 (eCalI eNo vms shc4 600 8) vt_X10_read [21] 13 [] (0, [some (.inr (.inr (some 30))), some (.inr (.inr (some 1))), some (.inr (.inr (some 4))), none], [], [(1, [(0, 4)], .inl [(0, 0)], []), (4, [(0, 6)], .inr (.inr (some 5)), []), (4, [(0, 7)], .inr (.inr (some 6)), []), (4, [(0, 8)], .inr (.inr (some 7)), []), (4, [(0, 9)], .inr (.inr (some 8)), []), (4, [(0, 10)], .inr (.inr (some 9)), []), (4, [(0, 11)], .inr (.inr (some 10)), []), (4, [(0, 12)], .inr (.inr (some 11)), []), (4, [(0, 13)], .inr (.inr (some 12)), []), (4, [(0, 14)], .inr (.inr (some 13)), []), (4, [(0, 15)], .inr (.inr (some 14)), []), (4, [(0, 16)], .inr (.inr (some 15)), []), (4, [(0, 17)], .inr (.inr (some 16)), [])], [])) (21, [some (.inr (.inr (some 30))), some (.inr (.inr (some 1))), some (.inr (.inr (some 4))), some (.inl [(0, 0)])], [], [(30, [(0, 2)], .inl [(0, 0)], []), (30, [(0, 1)], .inl [(0, 0)], []), (30, [(0, 0)], .inl [(0, 0)], []), (9, [(0, 4)], .inl [(0, 0)], []), (9, [(0, 3)], .inl [(0, 0)], []), (9, [(0, 2)], .inl [(0, 0)], []), (9, [(0, 1)], .inl [(0, 0)], []), (9, [(0, 0)], .inl [(0, 0)], []), (5, [(0, 5)], .inl [(0, 0)], []), (5, [(0, 4)], .inl [(0, 0)], []), (5, [(0, 3)], .inl [(0, 0)], []), (5, [(0, 2)], .inl [(0, 0)], []), (5, [(0, 1)], .inl [(0, 0)], []), (5, [(0, 0)], .inl [(0, 0)], []), (4, [(0, 18)], .inl [(0, 0)], []), (4, [(0, 5)], .inl [(0, 0)], []), (4, [(0, 4)], .inl [(0, 1)], []), (4, [(0, 3)], .inl [(0, 0)], []), (4, [(0, 2)], .inl [(0, 0)], []), (4, [(0, 1)], .inl [(0, 0)], []), (4, [(0, 0)], .inl [(0, 0)], []), (1, [(0, 4)], .inl [(0, 0)], []), (4, [(0, 6)], .inr (.inr (some 5)), []), (4, [(0, 7)], .inr (.inr (some 6)), []), (4, [(0, 8)], .inr (.inr (some 7)), []), (4, [(0, 9)], .inr (.inr (some 8)), []), (4, [(0, 10)], .inr (.inr (some 9)), []), (4, [(0, 11)], .inr (.inr (some 10)), []), (4, [(0, 12)], .inr (.inr (some 11)), []), (4, [(0, 13)], .inr (.inr (some 12)), []), (4, [(0, 14)], .inr (.inr (some 13)), []), (4, [(0, 15)], .inr (.inr (some 14)), []), (4, [(0, 16)], .inr (.inr (some 15)), []), (4, [(0, 17)], .inr (.inr (some 16)), [])], [(30, [(0, 2)]), (30, [(0, 1)]), (30, [(0, 0)]), (9, [(0, 4)]), (9, [(0, 3)]), (9, [(0, 2)]), (9, [(0, 1)]), (9, [(0, 0)]), (5, [(0, 5)]), (5, [(0, 4)]), (5, [(0, 3)]), (5, [(0, 2)]), (5, [(0, 1)]), (5, [(0, 0)]), (4, [(0, 18)]), (4, [(0, 5)]), (4, [(0, 4)]), (4, [(0, 3)]), (4, [(0, 2)]), (4, [(0, 1)]), (4, [(0, 0)])]) [] [] = true := by decide +kernel
def ed4 : eD := [(30, [(0, 2)], .inl [(0, 0)], []), (30, [(0, 1)], .inl [(0, 0)], []), (30, [(0, 0)], .inl [(0, 0)], []), (9, [(0, 4)], .inl [(0, 0)], []), (9, [(0, 3)], .inl [(0, 0)], []), (9, [(0, 2)], .inl [(0, 0)], []), (9, [(0, 1)], .inl [(0, 0)], []), (9, [(0, 0)], .inl [(0, 0)], []), (5, [(0, 5)], .inl [(0, 0)], []), (5, [(0, 4)], .inl [(0, 0)], []), (5, [(0, 3)], .inl [(0, 0)], []), (5, [(0, 2)], .inl [(0, 0)], []), (5, [(0, 1)], .inl [(0, 0)], []), (5, [(0, 0)], .inl [(0, 0)], []), (4, [(0, 18)], .inl [(0, 0)], []), (4, [(0, 5)], .inl [(0, 0)], []), (4, [(0, 4)], .inl [(0, 1)], []), (4, [(0, 3)], .inl [(0, 0)], []), (4, [(0, 2)], .inl [(0, 0)], []), (4, [(0, 1)], .inl [(0, 0)], []), (4, [(0, 0)], .inl [(0, 0)], []), (1, [(0, 4)], .inl [(0, 0)], []), (4, [(0, 6)], .inr (.inr (some 5)), []), (4, [(0, 7)], .inr (.inr (some 6)), []), (4, [(0, 8)], .inr (.inr (some 7)), []), (4, [(0, 9)], .inr (.inr (some 8)), []), (4, [(0, 10)], .inr (.inr (some 9)), []), (4, [(0, 11)], .inr (.inr (some 10)), []), (4, [(0, 12)], .inr (.inr (some 11)), []), (4, [(0, 13)], .inr (.inr (some 12)), []), (4, [(0, 14)], .inr (.inr (some 13)), []), (4, [(0, 15)], .inr (.inr (some 14)), []), (4, [(0, 16)], .inr (.inr (some 15)), []), (4, [(0, 17)], .inr (.inr (some 16)), [])]
def ei4 : eD := [(1, [(0, 4)], .inl [(0, 0)], []), (4, [(0, 6)], .inr (.inr (some 5)), []), (4, [(0, 7)], .inr (.inr (some 6)), []), (4, [(0, 8)], .inr (.inr (some 7)), []), (4, [(0, 9)], .inr (.inr (some 8)), []), (4, [(0, 10)], .inr (.inr (some 9)), []), (4, [(0, 11)], .inr (.inr (some 10)), []), (4, [(0, 12)], .inr (.inr (some 11)), []), (4, [(0, 13)], .inr (.inr (some 12)), []), (4, [(0, 14)], .inr (.inr (some 13)), []), (4, [(0, 15)], .inr (.inr (some 14)), []), (4, [(0, 16)], .inr (.inr (some 15)), []), (4, [(0, 17)], .inr (.inr (some 16)), [])]
def ew4 : List (Nat × eX) := [(30, [(0, 2)]), (30, [(0, 1)]), (30, [(0, 0)]), (9, [(0, 4)]), (9, [(0, 3)]), (9, [(0, 2)]), (9, [(0, 1)]), (9, [(0, 0)]), (5, [(0, 5)]), (5, [(0, 4)]), (5, [(0, 3)]), (5, [(0, 2)]), (5, [(0, 1)]), (5, [(0, 0)]), (4, [(0, 18)]), (4, [(0, 5)]), (4, [(0, 4)]), (4, [(0, 3)]), (4, [(0, 2)]), (4, [(0, 1)]), (4, [(0, 0)])]
set_option maxRecDepth 100000 in
theorem enw4 : (eWl [some (.inr (.inr (some 30))), some (.inr (.inr (some 1))), some (.inr (.inr (some 4))), none] && (([] : List eV).all eWv && eWd ei4)) = true := by decide +kernel
def ys0 : List eX := [[(0, 0)], [(0, 0)], [(0, 0)], [(0, 0)], [(0, 0)], [(0, 1)], [(0, 0)], [(0, 0)], [(0, 0)], [(0, 0)], [(0, 0)]]
theorem ent4 {d : Nat} (hd : 8 ≤ d) {hp : List vOb} {kl : vLs} {τ K R : Nat → Nat} {z m : Nat} (hk : kwOK K R) (hz : z ≤ 940) (hs : eSh shc4 hp) (hR : cRdy hp τ K z m) (hn : hC hp 1 4 (.inl 0)) (hr : eDt (rL []) (ei4.drop 1) hp) (hc : cRs 4 hp) (hl : eLm (rL []) [some (.inr (.inr (some 30))), some (.inr (.inr (some 1))), some (.inr (.inr (some 4))), none] kl) : ∃ ρ kl' hp', PV ρ τ K R z m (fun _ => 0) (fun _ => 0) (fun _ => 0) (fun _ => 0) (fun _ => 0) (fun _ => 0) ∧ TX ρ τ K R z m ∧ ρ 0 0 = 0 ∧ ρ 0 1 = 0 ∧ ρ 0 2 = 0 ∧ ρ 0 3 = 0 ∧ ρ 0 4 = 0 ∧ ρ 0 5 = 1 ∧ ρ 0 6 = 0 ∧ ρ 0 7 = 0 ∧ ρ 0 8 = 0 ∧ ρ 0 9 = 0 ∧ ρ 0 10 = 0 ∧ kRe vms vdf d vt_X10_read 0 0 (0, kl, [], hp) (21, kl', [], hp') ∧ eLm ρ (LSC 4) kl' ∧ CM 4 cH4 shc4 hp' τ K z m ρ 0 (fun _ => 0) (fun _ => 0) (fun _ => 0) (fun _ => 0) (fun _ => 0) ∧ hC hp' 1 4 (.inl (ρ 0 0)) ∧ CF 4 hp hp' := by
  obtain ⟨ρ, hP, hX, v0, v1, v2, v3, v4, v5, v6, v7, v8, v9, v10⟩ := PV_mk (n := 0) (s := 0) (q := 0) (p := 0) (r := 0) (hm := 1) (fx := 0) (tt := 0) (bt := 0) (ln := 0) (nc := 0) (m := m) (TK := fun _ => 0) (BR := fun _ => 0) (ST := fun _ => 0) (NR_0 (N := fun _ => 0) (DC := fun _ => 0) (NM := fun _ => 0)) hk (Nat.zero_le z) hz (by omega) (by omega) (by omega) (by omega) (by omega) (fun _ => by omega) (fun _ => by omega) SB_0
  have hD : eDt (rL []) ei4 hp := eDt_cons (fun _ => by
    show hC hp 1 (eVal (rL []) [(0, 4)]) (eCv (rL []) (.inl [(0, 0)]))
    rw [eR_val (eR_c _ 4), eCv_i (eR_c _ 0)]
    exact hn) hr
  obtain ⟨kl1, hp1, k1, k2, k3, k4⟩ := e_go (vms := vms) (df := vdf) (d := d) (ρ := rL []) hd en4_k enw4 hs all_nil hl hD
  have hy : ∀ j, j < 11 → eR (rL []) (ys0.getD j []) (ρ 0 j) := hy_11 (eR_to (eR_c _ 0) v0.symm) (eR_to (eR_c _ 0) v1.symm) (eR_to (eR_c _ 0) v2.symm) (eR_to (eR_c _ 0) v3.symm) (eR_to (eR_c _ 0) v4.symm) (eR_to (eR_c _ 1) v5.symm) (eR_to (eR_c _ 0) v6.symm) (eR_to (eR_c _ 0) v7.symm) (eR_to (eR_c _ 0) v8.symm) (eR_to (eR_c _ 0) v9.symm) (eR_to (eR_c _ 0) v10.symm)
  refine ⟨ρ, kl1, hp1, hP, hX, v0, v1, v2, v3, v4, v5, v6, v7, v8, v9, v10, k1, ?_, ⟨eSh_fr k4 hs, cRdy_g k4 (oWc_ok (by decide)) hR, eDt_nx0 hy (by decide) k3, ⟨eDt_at (x := [(0, 2)]) (y := .inl [(0, 0)]) (g := []) k3 (by decide) (fun q hq => by cases hq) (eR_val (eR_c _ 2)) (eCv_i (eR_c _ 0)), by decide⟩, (fun i hi => by
    match i with
    | 0 => exact eDt_at (x := [(0, 0)]) (y := .inl [(0, 0)]) (g := []) k3 (by decide) (fun q hq => by cases hq) (eR_val (eR_c _ 0)) (eCv_i (eR_c _ 0))
    | 1 => exact eDt_at (x := [(0, 1)]) (y := .inl [(0, 0)]) (g := []) k3 (by decide) (fun q hq => by cases hq) (eR_val (eR_c _ 1)) (eCv_i (eR_c _ 0))
    | 2 => exact eDt_at (x := [(0, 2)]) (y := .inl [(0, 0)]) (g := []) k3 (by decide) (fun q hq => by cases hq) (eR_val (eR_c _ 2)) (eCv_i (eR_c _ 0))
    | 3 => exact eDt_at (x := [(0, 3)]) (y := .inl [(0, 0)]) (g := []) k3 (by decide) (fun q hq => by cases hq) (eR_val (eR_c _ 3)) (eCv_i (eR_c _ 0))
    | 4 => exact eDt_at (x := [(0, 4)]) (y := .inl [(0, 0)]) (g := []) k3 (by decide) (fun q hq => by cases hq) (eR_val (eR_c _ 4)) (eCv_i (eR_c _ 0))
    | 5 => exact eDt_at (x := [(0, 5)]) (y := .inl [(0, 0)]) (g := []) k3 (by decide) (fun q hq => by cases hq) (eR_val (eR_c _ 5)) (eCv_i (eR_c _ 0))
    | i + 6 => omega), (fun i hi => by
    match i with
    | 0 => exact eDt_at (x := [(0, 0)]) (y := .inl [(0, 0)]) (g := []) k3 (by decide) (fun q hq => by cases hq) (eR_val (eR_c _ 0)) (eCv_i (eR_c _ 0))
    | 1 => exact eDt_at (x := [(0, 1)]) (y := .inl [(0, 0)]) (g := []) k3 (by decide) (fun q hq => by cases hq) (eR_val (eR_c _ 1)) (eCv_i (eR_c _ 0))
    | 2 => exact eDt_at (x := [(0, 2)]) (y := .inl [(0, 0)]) (g := []) k3 (by decide) (fun q hq => by cases hq) (eR_val (eR_c _ 2)) (eCv_i (eR_c _ 0))
    | 3 => exact eDt_at (x := [(0, 3)]) (y := .inl [(0, 0)]) (g := []) k3 (by decide) (fun q hq => by cases hq) (eR_val (eR_c _ 3)) (eCv_i (eR_c _ 0))
    | 4 => exact eDt_at (x := [(0, 4)]) (y := .inl [(0, 0)]) (g := []) k3 (by decide) (fun q hq => by cases hq) (eR_val (eR_c _ 4)) (eCv_i (eR_c _ 0))
    | i + 5 => omega), fun i hi => by rw [v4] at hi; omega, ⟨fun i hi => by rw [v10] at hi; omega, cR_w k4 (by decide) hc.1, cR_w k4 (by decide) hc.2.1, cR_w k4 (by decide) hc.2.2.1, cR_w k4 (by decide) hc.2.2.2.1, cR_w k4 (by decide) hc.2.2.2.2⟩⟩, by rw [v0]; exact eW_c k4 (by decide) hn, CF_w k4 (by decide)⟩
  refine eLm_in (vs := [some (.inr (.inr (.inr (.inl (some 30))))), some (.inr (.inr (.inr (.inl (some 1))))), some (.inr (.inr (.inr (.inl (some 4))))), some (.inl 0)]) ⟨rfl, rfl, rfl, eCv_i (eR_s v9), trivial⟩ (eLm_out (ρ := rL []) (ls := [some (.inr (.inr (some 30))), some (.inr (.inr (some 1))), some (.inr (.inr (some 4))), some (.inl [(0, 0)])]) ⟨rfl, rfl, rfl, eCv_i (eR_c _ 0), trivial⟩ k2)
set_option maxRecDepth 1000000 in
theorem en17_k : eQ (eRun shc17 (eCalI eNo vms shc17 600 8) vt_X10_read [21] 13 [] (0, [some (.inr (.inr (some 30))), some (.inr (.inr (some 1))), some (.inr (.inr (some 17))), none], [], [(1, [(0, 4)], .inl [(0, 0)], []), (17, [(0, 6)], .inr (.inr (some 18)), []), (17, [(0, 7)], .inr (.inr (some 19)), []), (17, [(0, 8)], .inr (.inr (some 20)), []), (17, [(0, 9)], .inr (.inr (some 21)), []), (17, [(0, 10)], .inr (.inr (some 22)), []), (17, [(0, 11)], .inr (.inr (some 23)), []), (17, [(0, 12)], .inr (.inr (some 24)), []), (17, [(0, 13)], .inr (.inr (some 25)), []), (17, [(0, 14)], .inr (.inr (some 26)), []), (17, [(0, 15)], .inr (.inr (some 27)), []), (17, [(0, 16)], .inr (.inr (some 28)), []), (17, [(0, 17)], .inr (.inr (some 29)), [])], [])) (21, [some (.inr (.inr (some 30))), some (.inr (.inr (some 1))), some (.inr (.inr (some 17))), some (.inl [(0, 0)])], [], [(30, [(0, 2)], .inl [(0, 0)], []), (30, [(0, 1)], .inl [(0, 0)], []), (30, [(0, 0)], .inl [(0, 0)], []), (22, [(0, 4)], .inl [(0, 0)], []), (22, [(0, 3)], .inl [(0, 0)], []), (22, [(0, 2)], .inl [(0, 0)], []), (22, [(0, 1)], .inl [(0, 0)], []), (22, [(0, 0)], .inl [(0, 0)], []), (18, [(0, 5)], .inl [(0, 0)], []), (18, [(0, 4)], .inl [(0, 0)], []), (18, [(0, 3)], .inl [(0, 0)], []), (18, [(0, 2)], .inl [(0, 0)], []), (18, [(0, 1)], .inl [(0, 0)], []), (18, [(0, 0)], .inl [(0, 0)], []), (17, [(0, 18)], .inl [(0, 0)], []), (17, [(0, 5)], .inl [(0, 0)], []), (17, [(0, 4)], .inl [(0, 1)], []), (17, [(0, 3)], .inl [(0, 0)], []), (17, [(0, 2)], .inl [(0, 0)], []), (17, [(0, 1)], .inl [(0, 0)], []), (17, [(0, 0)], .inl [(0, 0)], []), (1, [(0, 4)], .inl [(0, 0)], []), (17, [(0, 6)], .inr (.inr (some 18)), []), (17, [(0, 7)], .inr (.inr (some 19)), []), (17, [(0, 8)], .inr (.inr (some 20)), []), (17, [(0, 9)], .inr (.inr (some 21)), []), (17, [(0, 10)], .inr (.inr (some 22)), []), (17, [(0, 11)], .inr (.inr (some 23)), []), (17, [(0, 12)], .inr (.inr (some 24)), []), (17, [(0, 13)], .inr (.inr (some 25)), []), (17, [(0, 14)], .inr (.inr (some 26)), []), (17, [(0, 15)], .inr (.inr (some 27)), []), (17, [(0, 16)], .inr (.inr (some 28)), []), (17, [(0, 17)], .inr (.inr (some 29)), [])], [(30, [(0, 2)]), (30, [(0, 1)]), (30, [(0, 0)]), (22, [(0, 4)]), (22, [(0, 3)]), (22, [(0, 2)]), (22, [(0, 1)]), (22, [(0, 0)]), (18, [(0, 5)]), (18, [(0, 4)]), (18, [(0, 3)]), (18, [(0, 2)]), (18, [(0, 1)]), (18, [(0, 0)]), (17, [(0, 18)]), (17, [(0, 5)]), (17, [(0, 4)]), (17, [(0, 3)]), (17, [(0, 2)]), (17, [(0, 1)]), (17, [(0, 0)])]) [] [] = true := by decide +kernel
def ed17 : eD := [(30, [(0, 2)], .inl [(0, 0)], []), (30, [(0, 1)], .inl [(0, 0)], []), (30, [(0, 0)], .inl [(0, 0)], []), (22, [(0, 4)], .inl [(0, 0)], []), (22, [(0, 3)], .inl [(0, 0)], []), (22, [(0, 2)], .inl [(0, 0)], []), (22, [(0, 1)], .inl [(0, 0)], []), (22, [(0, 0)], .inl [(0, 0)], []), (18, [(0, 5)], .inl [(0, 0)], []), (18, [(0, 4)], .inl [(0, 0)], []), (18, [(0, 3)], .inl [(0, 0)], []), (18, [(0, 2)], .inl [(0, 0)], []), (18, [(0, 1)], .inl [(0, 0)], []), (18, [(0, 0)], .inl [(0, 0)], []), (17, [(0, 18)], .inl [(0, 0)], []), (17, [(0, 5)], .inl [(0, 0)], []), (17, [(0, 4)], .inl [(0, 1)], []), (17, [(0, 3)], .inl [(0, 0)], []), (17, [(0, 2)], .inl [(0, 0)], []), (17, [(0, 1)], .inl [(0, 0)], []), (17, [(0, 0)], .inl [(0, 0)], []), (1, [(0, 4)], .inl [(0, 0)], []), (17, [(0, 6)], .inr (.inr (some 18)), []), (17, [(0, 7)], .inr (.inr (some 19)), []), (17, [(0, 8)], .inr (.inr (some 20)), []), (17, [(0, 9)], .inr (.inr (some 21)), []), (17, [(0, 10)], .inr (.inr (some 22)), []), (17, [(0, 11)], .inr (.inr (some 23)), []), (17, [(0, 12)], .inr (.inr (some 24)), []), (17, [(0, 13)], .inr (.inr (some 25)), []), (17, [(0, 14)], .inr (.inr (some 26)), []), (17, [(0, 15)], .inr (.inr (some 27)), []), (17, [(0, 16)], .inr (.inr (some 28)), []), (17, [(0, 17)], .inr (.inr (some 29)), [])]
def ei17 : eD := [(1, [(0, 4)], .inl [(0, 0)], []), (17, [(0, 6)], .inr (.inr (some 18)), []), (17, [(0, 7)], .inr (.inr (some 19)), []), (17, [(0, 8)], .inr (.inr (some 20)), []), (17, [(0, 9)], .inr (.inr (some 21)), []), (17, [(0, 10)], .inr (.inr (some 22)), []), (17, [(0, 11)], .inr (.inr (some 23)), []), (17, [(0, 12)], .inr (.inr (some 24)), []), (17, [(0, 13)], .inr (.inr (some 25)), []), (17, [(0, 14)], .inr (.inr (some 26)), []), (17, [(0, 15)], .inr (.inr (some 27)), []), (17, [(0, 16)], .inr (.inr (some 28)), []), (17, [(0, 17)], .inr (.inr (some 29)), [])]
def ew17 : List (Nat × eX) := [(30, [(0, 2)]), (30, [(0, 1)]), (30, [(0, 0)]), (22, [(0, 4)]), (22, [(0, 3)]), (22, [(0, 2)]), (22, [(0, 1)]), (22, [(0, 0)]), (18, [(0, 5)]), (18, [(0, 4)]), (18, [(0, 3)]), (18, [(0, 2)]), (18, [(0, 1)]), (18, [(0, 0)]), (17, [(0, 18)]), (17, [(0, 5)]), (17, [(0, 4)]), (17, [(0, 3)]), (17, [(0, 2)]), (17, [(0, 1)]), (17, [(0, 0)])]
set_option maxRecDepth 100000 in
theorem enw17 : (eWl [some (.inr (.inr (some 30))), some (.inr (.inr (some 1))), some (.inr (.inr (some 17))), none] && (([] : List eV).all eWv && eWd ei17)) = true := by decide +kernel
theorem ent17 {d : Nat} (hd : 8 ≤ d) {hp : List vOb} {kl : vLs} {τ K R : Nat → Nat} {z m : Nat} (hk : kwOK K R) (hz : z ≤ 940) (hs : eSh shc17 hp) (hR : cRdy hp τ K z m) (hn : hC hp 1 4 (.inl 0)) (hr : eDt (rL []) (ei17.drop 1) hp) (hc : cRs 17 hp) (hl : eLm (rL []) [some (.inr (.inr (some 30))), some (.inr (.inr (some 1))), some (.inr (.inr (some 17))), none] kl) : ∃ ρ kl' hp', PV ρ τ K R z m (fun _ => 0) (fun _ => 0) (fun _ => 0) (fun _ => 0) (fun _ => 0) (fun _ => 0) ∧ TX ρ τ K R z m ∧ ρ 0 0 = 0 ∧ ρ 0 1 = 0 ∧ ρ 0 2 = 0 ∧ ρ 0 3 = 0 ∧ ρ 0 4 = 0 ∧ ρ 0 5 = 1 ∧ ρ 0 6 = 0 ∧ ρ 0 7 = 0 ∧ ρ 0 8 = 0 ∧ ρ 0 9 = 0 ∧ ρ 0 10 = 0 ∧ kRe vms vdf d vt_X10_read 0 0 (0, kl, [], hp) (21, kl', [], hp') ∧ eLm ρ (LSC 17) kl' ∧ CM 17 cH17 shc17 hp' τ K z m ρ 0 (fun _ => 0) (fun _ => 0) (fun _ => 0) (fun _ => 0) (fun _ => 0) ∧ hC hp' 1 4 (.inl (ρ 0 0)) ∧ CF 17 hp hp' := by
  obtain ⟨ρ, hP, hX, v0, v1, v2, v3, v4, v5, v6, v7, v8, v9, v10⟩ := PV_mk (n := 0) (s := 0) (q := 0) (p := 0) (r := 0) (hm := 1) (fx := 0) (tt := 0) (bt := 0) (ln := 0) (nc := 0) (m := m) (TK := fun _ => 0) (BR := fun _ => 0) (ST := fun _ => 0) (NR_0 (N := fun _ => 0) (DC := fun _ => 0) (NM := fun _ => 0)) hk (Nat.zero_le z) hz (by omega) (by omega) (by omega) (by omega) (by omega) (fun _ => by omega) (fun _ => by omega) SB_0
  have hD : eDt (rL []) ei17 hp := eDt_cons (fun _ => by
    show hC hp 1 (eVal (rL []) [(0, 4)]) (eCv (rL []) (.inl [(0, 0)]))
    rw [eR_val (eR_c _ 4), eCv_i (eR_c _ 0)]
    exact hn) hr
  obtain ⟨kl1, hp1, k1, k2, k3, k4⟩ := e_go (vms := vms) (df := vdf) (d := d) (ρ := rL []) hd en17_k enw17 hs all_nil hl hD
  have hy : ∀ j, j < 11 → eR (rL []) (ys0.getD j []) (ρ 0 j) := hy_11 (eR_to (eR_c _ 0) v0.symm) (eR_to (eR_c _ 0) v1.symm) (eR_to (eR_c _ 0) v2.symm) (eR_to (eR_c _ 0) v3.symm) (eR_to (eR_c _ 0) v4.symm) (eR_to (eR_c _ 1) v5.symm) (eR_to (eR_c _ 0) v6.symm) (eR_to (eR_c _ 0) v7.symm) (eR_to (eR_c _ 0) v8.symm) (eR_to (eR_c _ 0) v9.symm) (eR_to (eR_c _ 0) v10.symm)
  refine ⟨ρ, kl1, hp1, hP, hX, v0, v1, v2, v3, v4, v5, v6, v7, v8, v9, v10, k1, ?_, ⟨eSh_fr k4 hs, cRdy_g k4 (oWc_ok (by decide)) hR, eDt_nx0 hy (by decide) k3, ⟨eDt_at (x := [(0, 2)]) (y := .inl [(0, 0)]) (g := []) k3 (by decide) (fun q hq => by cases hq) (eR_val (eR_c _ 2)) (eCv_i (eR_c _ 0)), by decide⟩, (fun i hi => by
    match i with
    | 0 => exact eDt_at (x := [(0, 0)]) (y := .inl [(0, 0)]) (g := []) k3 (by decide) (fun q hq => by cases hq) (eR_val (eR_c _ 0)) (eCv_i (eR_c _ 0))
    | 1 => exact eDt_at (x := [(0, 1)]) (y := .inl [(0, 0)]) (g := []) k3 (by decide) (fun q hq => by cases hq) (eR_val (eR_c _ 1)) (eCv_i (eR_c _ 0))
    | 2 => exact eDt_at (x := [(0, 2)]) (y := .inl [(0, 0)]) (g := []) k3 (by decide) (fun q hq => by cases hq) (eR_val (eR_c _ 2)) (eCv_i (eR_c _ 0))
    | 3 => exact eDt_at (x := [(0, 3)]) (y := .inl [(0, 0)]) (g := []) k3 (by decide) (fun q hq => by cases hq) (eR_val (eR_c _ 3)) (eCv_i (eR_c _ 0))
    | 4 => exact eDt_at (x := [(0, 4)]) (y := .inl [(0, 0)]) (g := []) k3 (by decide) (fun q hq => by cases hq) (eR_val (eR_c _ 4)) (eCv_i (eR_c _ 0))
    | 5 => exact eDt_at (x := [(0, 5)]) (y := .inl [(0, 0)]) (g := []) k3 (by decide) (fun q hq => by cases hq) (eR_val (eR_c _ 5)) (eCv_i (eR_c _ 0))
    | i + 6 => omega), (fun i hi => by
    match i with
    | 0 => exact eDt_at (x := [(0, 0)]) (y := .inl [(0, 0)]) (g := []) k3 (by decide) (fun q hq => by cases hq) (eR_val (eR_c _ 0)) (eCv_i (eR_c _ 0))
    | 1 => exact eDt_at (x := [(0, 1)]) (y := .inl [(0, 0)]) (g := []) k3 (by decide) (fun q hq => by cases hq) (eR_val (eR_c _ 1)) (eCv_i (eR_c _ 0))
    | 2 => exact eDt_at (x := [(0, 2)]) (y := .inl [(0, 0)]) (g := []) k3 (by decide) (fun q hq => by cases hq) (eR_val (eR_c _ 2)) (eCv_i (eR_c _ 0))
    | 3 => exact eDt_at (x := [(0, 3)]) (y := .inl [(0, 0)]) (g := []) k3 (by decide) (fun q hq => by cases hq) (eR_val (eR_c _ 3)) (eCv_i (eR_c _ 0))
    | 4 => exact eDt_at (x := [(0, 4)]) (y := .inl [(0, 0)]) (g := []) k3 (by decide) (fun q hq => by cases hq) (eR_val (eR_c _ 4)) (eCv_i (eR_c _ 0))
    | i + 5 => omega), fun i hi => by rw [v4] at hi; omega, ⟨fun i hi => by rw [v10] at hi; omega, cR_w k4 (by decide) hc.1, cR_w k4 (by decide) hc.2.1, cR_w k4 (by decide) hc.2.2.1, cR_w k4 (by decide) hc.2.2.2.1, cR_w k4 (by decide) hc.2.2.2.2⟩⟩, by rw [v0]; exact eW_c k4 (by decide) hn, CF_w k4 (by decide)⟩
  refine eLm_in (vs := [some (.inr (.inr (.inr (.inl (some 30))))), some (.inr (.inr (.inr (.inl (some 1))))), some (.inr (.inr (.inr (.inl (some 17))))), some (.inl 0)]) ⟨rfl, rfl, rfl, eCv_i (eR_s v9), trivial⟩ (eLm_out (ρ := rL []) (ls := [some (.inr (.inr (some 30))), some (.inr (.inr (some 1))), some (.inr (.inr (some 17))), some (.inl [(0, 0)])]) ⟨rfl, rfl, rfl, eCv_i (eR_c _ 0), trivial⟩ k2)
