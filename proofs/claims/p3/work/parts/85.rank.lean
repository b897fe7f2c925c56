/-! ===== where a template's symbols come from ===== -/
noncomputable def sTh (ls : vLs) : List (Nat × Nat × Nat) → sHp → sG → Option (List vAV × sHp × sG)
  | [], h, G => some ([], h, G)
  | s :: src, h, G => bif Nat.beq s.1 0 then (match vNth ls s.2.1 with
    | some (some a) => (match sTh ls src h G with
      | some (θ, h', G') => some (a :: θ, h', G')
      | none => none)
    | _ => none) else (match sGo h s.2.1 with
    | some o => (match sReadK h G s.2.1 s.2.2 o with
      | some (h1, G1, v) => (match sTh ls src h1 G1 with
        | some (θ, h', G') => some (v :: θ, h', G')
        | none => none)
      | none => none)
    | none => none)
theorem sTh_ok {md : sMd} {hp0 : List vOb} {ls : vLs} {st : List vAV} {kl : vLs} {ks : List vAV} {hp : List vOb} : ∀ {src : List (Nat × Nat × Nat)} {h h' : sHp} {G G' : sG} {θ : List vAV} {ρ : List Nat}, sR md hp0 ρ ls st h G kl ks hp → sTh ls src h G = some (θ, h', G') → ∃ xs, sR md hp0 (ρ ++ xs) ls st h' G' kl ks hp ∧ ∀ b ∈ θ, ∃ v, sV (ρ ++ xs) b v
  | [], h, h', G, G', θ, ρ, hR, he => by
    cases he
    exact ⟨[], by rw [List.append_nil]; exact hR, fun b hb => by cases hb⟩
  | s :: src, h, h', G, G', θ, ρ, hR, he => by
    unfold sTh at he
    cases hb : Nat.beq s.1 0 with
    | true =>
      rw [hb, cond_true, vNth_eq] at he
      split at he
      · next a ha =>
        obtain ⟨y, -, y2⟩ := sLr_get hR.1 _ a ha
        split at he
        · next θ1 h1 G1 h1e =>
          cases he
          obtain ⟨xs, r1, r2⟩ := sTh_ok hR h1e
          refine ⟨xs, r1, fun b hb => ?_⟩
          rcases List.mem_cons.mp hb with e | e
          · rw [e]; exact ⟨y, sV_app xs y2⟩
          · exact r2 b e
        · cases he
      · cases he
    | false =>
      rw [hb, cond_false] at he
      split at he
      · next o ho =>
        split at he
        · next h1 G1 v hrd =>
          obtain ⟨hl, ht, hh, hG, hf⟩ := hR
          obtain ⟨ob, o1, o2⟩ := sHr_get hh ho
          obtain ⟨xs, w, -, w2, w3, w4⟩ := sReadK_ok hh hG o1 o2 hrd
          split at he
          · next θ1 h2 G2 h2e =>
            cases he
            obtain ⟨ys, r1, r2⟩ := sTh_ok (md := md) (hp0 := hp0) (st := st) (ks := ks) ⟨sLr_app xs hl, sTr_app xs ht, w2, w3, hf⟩ h2e
            refine ⟨xs ++ ys, by rw [← List.append_assoc]; exact r1, fun b hb => ?_⟩
            rw [← List.append_assoc]
            rcases List.mem_cons.mp hb with e | e
            · rw [e]; exact ⟨w, sV_app ys w4⟩
            · exact r2 b e
          · cases he
        · cases he
      · cases he
/-! ===== ranks ===== -/
noncomputable def sFctB (f j : Nat) : List (Nat × Nat × Nat) → Bool
  | [] => false
  | t :: ts => (Nat.beq t.1 f && (Nat.ble 1 t.2.1 && Nat.beq t.2.2 j)) || sFctB f j ts
theorem sFctB_ok {f j : Nat} : ∀ {ts : List (Nat × Nat × Nat)}, sFctB f j ts = true → ∃ t ∈ ts, t.1 = f ∧ 1 ≤ t.2.1 ∧ t.2.2 = j
  | [], h => by cases h
  | t :: ts, h => by
    unfold sFctB at h
    rw [Bool.or_eq_true] at h
    rcases h with h | h
    · rw [Bool.and_eq_true, Bool.and_eq_true] at h
      exact ⟨t, List.mem_cons_self, Nat.eq_of_beq_eq_true h.1, Nat.le_of_ble_eq_true h.2.1, Nat.eq_of_beq_eq_true h.2.2⟩
    · obtain ⟨t', h1, h2⟩ := sFctB_ok h
      exact ⟨t', List.mem_cons_of_mem _ h1, h2⟩
/-- is one value less than another, of the same symbol or by their sets or by a fact -/
noncomputable def sLess (G : sG) (x y : vAV) : Bool := (match sSetOf G x, sSetOf G y with
  | some X, some Y => Nat.blt (sHi X) (sLo Y)
  | _, _ => false) || (match x, y with
  | .inr (.inl p), .inr (.inl q) => (bif Nat.beq p.1 q.1 then (match sFind p.1 G.2.1 with
      | some S => (Nat.blt p.2 q.2 && Nat.blt (sHi S + q.2) 4294967296) || (Nat.ble q.2 p.2 && (Nat.blt p.2 4294967296 && (Nat.ble 4294967296 (sLo S + p.2) && Nat.blt (sHi S + q.2) 4294967296)))
      | none => false) else false) || (Nat.beq p.2 0 && (Nat.beq q.2 0 && (sFctB p.1 q.1 G.2.2 && (match sFind q.1 G.2.1 with
      | some _ => true
      | none => false))))
  | _, _ => false)
theorem sLess_ok {ρ : List Nat} {G : sG} {x y : vAV} {u w : Nat} (hG : sGr ρ G) (hx : sV ρ x (.inl u)) (hy : sV ρ y (.inl w)) (hu : u < 4294967296) (hw : w < 4294967296) (h : sLess G x y = true) : sBi u < sBi w := by
  unfold sLess at h
  rw [Bool.or_eq_true] at h
  rcases h with h | h
  · split at h
    · next X Y hX hY =>
      obtain ⟨u', -, e1, i1⟩ := sSetOf_ok hG hx hX
      obtain ⟨w', -, e2, i2⟩ := sSetOf_ok hG hy hY
      cases e1
      cases e2
      have h1 := Nat.blt_eq.mp h
      have b1 := (sIn_lohi i1).2
      have b2 := (sIn_lohi i2).1
      omega
    · cases h
  · split at h
    · next p q =>
      obtain ⟨rp, p1, p2⟩ := sV_num (j := p.1) (c := p.2) hx
      obtain ⟨rq, q1, q2⟩ := sV_num (j := q.1) (c := q.2) hy
      rw [Bool.or_eq_true] at h
      rcases h with h | h
      · cases hb : Nat.beq p.1 q.1 with
        | false => rw [hb] at h; cases h
        | true =>
          rw [hb, cond_true] at h
          have e := Nat.eq_of_beq_eq_true hb
          rw [← e, p1] at q1
          cases q1
          split at h
          · next S hS =>
            obtain ⟨r', s1, s2, s3⟩ := hG.2.1 _ (sFind_mem hS)
            have s1 : ρ[p.1]? = some r' := s1
            rw [p1] at s1
            cases s1
            have b := sIn_lohi s3
            have bl : sLo S ≤ rp := b.1
            have bh : rp ≤ sHi S := b.2
            rw [Bool.or_eq_true] at h
            rcases h with h | h
            · rw [Bool.and_eq_true] at h
              have c1 := Nat.blt_eq.mp h.1
              have c2 := Nat.blt_eq.mp h.2
              rw [p2, q2]
              omega
            · rw [Bool.and_eq_true, Bool.and_eq_true, Bool.and_eq_true] at h
              have c1 := Nat.le_of_ble_eq_true h.1
              have c2 := Nat.blt_eq.mp h.2.1
              have c3 := Nat.le_of_ble_eq_true h.2.2.1
              have c4 := Nat.blt_eq.mp h.2.2.2
              rw [p2, q2]
              omega
          · cases h
      · rw [Bool.and_eq_true, Bool.and_eq_true, Bool.and_eq_true] at h
        have c1 := Nat.eq_of_beq_eq_true h.1
        have c2 := Nat.eq_of_beq_eq_true h.2.1
        obtain ⟨t, t1, t2, t3, t4⟩ := sFctB_ok h.2.2.1
        obtain ⟨a, b, f1, f2, f3⟩ := hG.2.2 t t1
        rw [t2, p1] at f1
        cases f1
        rw [t4, q1] at f2
        cases f2
        have h9 := h.2.2.2
        split at h9
        · next S hS =>
          obtain ⟨r', s1, s2, s3⟩ := hG.2.1 _ (sFind_mem hS)
          have s1 : ρ[q.1]? = some r' := s1
          rw [q1] at s1
          cases s1
          rw [p2, q2, c1, c2]
          omega
        · cases h9
    · cases h
