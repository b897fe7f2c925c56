/-! ===== a state that a template covers ===== -/
noncomputable def sShV (b : vAV) (c : Nat) : vAV := match b with
  | .inl u => vF ((u + c) % 4294967296) (fun r => .inl r)
  | .inr (.inl q) => vF ((q.2 + c) % 4294967296) (fun r => .inr (.inl (q.1, r)))
  | b => b
def sVeq (x y : vAV) : Bool := match x, y with
  | .inl u, .inl w => Nat.beq u w
  | .inr (.inl p), .inr (.inl q) => Nat.beq p.1 q.1 && Nat.beq p.2 q.2
  | _, _ => false
theorem sVeq_ok {x y : vAV} (h : sVeq x y = true) : x = y := by
  unfold sVeq at h
  split at h
  · rw [Nat.eq_of_beq_eq_true h]
  · rw [Bool.and_eq_true] at h
    rw [Prod.ext (Nat.eq_of_beq_eq_true h.1) (Nat.eq_of_beq_eq_true h.2)]
  · cases h
theorem sShV_ok {ρ : List Nat} {b v : vAV} {c u : Nat} (hu : u < 4294967296) (hb : sV ρ b (.inl u)) (hv : sV ρ (sShV b c) v) : v = .inl (sUn (sBi u) c) := by
  rcases b with w | q | w | o | z
  · obtain ⟨h1, h2⟩ := hb
    have e := Sum.inl.inj h2
    subst e
    have hv : sV ρ (vF ((u + c) % 4294967296) (fun r => .inl r)) v := hv
    rw [vF_eq] at hv
    rw [hv.2]
    have e2 : (u + c) % 4294967296 = sUn (sBi u) c := by unfold sUn sBi; omega
    rw [e2]
  · obtain ⟨r, h1, h2⟩ := hb
    have e := Sum.inl.inj h2
    have hv : sV ρ (vF ((q.2 + c) % 4294967296) (fun r => .inr (.inl (q.1, r)))) v := hv
    rw [vF_eq] at hv
    obtain ⟨r', h3, h4⟩ := hv
    have h3 : ρ[q.1]? = some r' := h3
    rw [h1] at h3
    cases h3
    rw [h4]
    have e2 : sUn r ((q.2 + c) % 4294967296) = sUn (sBi u) c := by
      rw [e]
      unfold sUn sBi
      omega
    exact congrArg Sum.inl e2
  · cases hb.2
  · cases hb
  · exfalso
    have h9 := sKd_ok hb
    have h0 : vKd (.inl u) = 0 := rfl
    rw [h0] at h9
    have h8 : Nat.beq (sKd (.inr (.inr (.inr (.inr z))))) 0 = true := by rw [← h9]; rfl
    obtain ⟨u', -, hz⟩ := sInt hb h8
    unfold sKd at h8
    split at h8
    · cases h8
    · unfold vKd at h8
      split at h8
      · next h1 => cases h1
      · next h1 => cases h1
      · cases h8
      · cases h8
      · cases h8
      · cases h8
      · cases h8
/-- the numbers that a template's symbols stand for -/
def sThR (ρ : List Nat) (θ : List vAV) (ρ' : List Nat) : Prop := ρ'.length = θ.length ∧ ∀ (j : Nat) (b : vAV), θ[j]? = some b → ∃ u, u < 4294967296 ∧ sV ρ b (.inl u) ∧ ρ'[j]? = some (sBi u)
def sThI : List vAV → Bool
  | [] => true
  | b :: bs => Nat.beq (sKd b) 0 && sThI bs
theorem sThR_ex {ρ : List Nat} : ∀ {θ : List vAV}, sThI θ = true → (∀ b ∈ θ, ∃ v, sV ρ b v) → ∃ ρ', sThR ρ θ ρ'
  | [], _, _ => ⟨[], rfl, fun j b h => by simp at h⟩
  | b :: bs, h, hv => by
    unfold sThI at h
    rw [Bool.and_eq_true] at h
    obtain ⟨v, hb⟩ := hv b List.mem_cons_self
    obtain ⟨u, hu, rfl⟩ := sInt hb h.1
    obtain ⟨ρ', h1, h2⟩ := sThR_ex h.2 (fun b' hb' => hv b' (List.mem_cons_of_mem _ hb'))
    refine ⟨sBi u :: ρ', by simp [h1], fun j c hj => ?_⟩
    match j, hj with
    | 0, hj =>
      have e : b = c := by simpa using hj
      subst e
      exact ⟨u, hu, hb, rfl⟩
    | j + 1, hj =>
      obtain ⟨u', q1, q2, q3⟩ := h2 j c (by simpa using hj)
      exact ⟨u', q1, q2, by simpa using q3⟩
/-- a value of the state is the template's -/
noncomputable def sVle (G : sG) (θ : List vAV) (a' a : vAV) : Bool := match a' with
  | .inl _ => sVeq a' (sSimp G a)
  | .inr (.inl q) => (match vNth θ q.1 with
    | some b => sVeq (sSimp G (sShV b q.2)) (sSimp G a)
    | none => false)
  | .inr (.inr (.inr (.inr 4))) => sLng (.inl a)
  | .inr (.inr (.inr (.inl (some k)))) => (match a with
    | .inr (.inr (.inr (.inl (some k')))) => Nat.beq k k'
    | _ => false)
  | _ => false
theorem sSimp_back {ρ : List Nat} {G : sG} {a v : vAV} (hG : sGr ρ G) (hi : Nat.beq (sKd a) 0 = true) (hex : ∃ w, sV ρ a w) (h : sV ρ (sSimp G a) v) : sV ρ a v := by
  obtain ⟨w, hw⟩ := hex
  obtain ⟨u, hu, rfl⟩ := sInt hw hi
  have h1 := sSimp_ok hG hw
  -- both stand for one number
  have huniq : ∀ {x : vAV} {p q : vAV}, Nat.beq (sKd x) 0 = true → sV ρ x p → sV ρ x q → p = q := by
    intro x p q hx hp hq
    rcases x with c | s | c | o | z
    · rw [hp.2, hq.2]
    · obtain ⟨r1, a1, b1⟩ := hp
      obtain ⟨r2, a2, b2⟩ := hq
      rw [a1] at a2
      cases a2
      rw [b1, b2]
    · cases hx
    · cases o <;> cases hx
    · obtain ⟨u1, -, e1⟩ := sInt hp hx
      obtain ⟨u2, -, e2⟩ := sInt hq hx
      have k1 := sKd_ok hp
      exfalso
      unfold sKd at hx
      split at hx
      · cases hx
      · unfold vKd at hx
        split at hx
        · next h1 => cases h1
        · next h1 => cases h1
        · cases hx
        · cases hx
        · cases hx
        · cases hx
        · cases hx
  have hk : Nat.beq (sKd (sSimp G a)) 0 = true := by rw [← sKd_ok h1]; rfl
  rw [huniq hk h h1]
  exact hw
theorem sVle_ok {ρ ρ' : List Nat} {G : sG} {θ : List vAV} {a' a v : vAV} (hG : sGr ρ G) (hth : sThR ρ θ ρ') (hv : sV ρ a v) (h : sVle G θ a' a = true) : sV ρ' a' v := by
  unfold sVle at h
  split at h
  · next u =>
    have e := sVeq_ok h
    have h1 := sSimp_ok hG hv
    rw [← e] at h1
    exact h1
  · next q =>
    split at h
    · next b hb =>
      rw [vNth_eq] at hb
      obtain ⟨u, hu, hbv, hr⟩ := hth.2 q.1 b hb
      have e := sVeq_ok h
      have h1 := sSimp_ok hG hv
      rw [← e] at h1
      have hshk : Nat.beq (sKd (sShV b q.2)) 0 = true ∧ ∃ w, sV ρ (sShV b q.2) w := by
        rcases b with w | p | w | o | z
        · have e2 : sShV (.inl w) q.2 = .inl ((w + q.2) % 4294967296) := by unfold sShV; simp only [vF_eq]
          rw [e2]
          exact ⟨rfl, _, Nat.mod_lt _ (by decide), rfl⟩
        · have e2 : sShV (.inr (.inl p)) q.2 = .inr (.inl (p.1, (p.2 + q.2) % 4294967296)) := by unfold sShV; simp only [vF_eq]
          rw [e2]
          obtain ⟨r, r1, -⟩ := hbv
          exact ⟨rfl, _, r, r1, rfl⟩
        · cases hbv.2
        · cases hbv
        · have e2 : sShV (.inr (.inr (.inr (.inr z)))) q.2 = .inr (.inr (.inr (.inr z))) := rfl
          rw [e2]
          have h9 := sKd_ok hbv
          exact ⟨by rw [← h9]; rfl, _, hbv⟩
      have h2 := sSimp_back hG hshk.1 hshk.2 h1
      have h3 := sShV_ok hu hbv h2
      exact ⟨sBi u, hr, h3⟩
    · cases h
  · exact sLng_ok (c := .inl a) h hv
  · next k =>
    split at h
    · next k' =>
      have e := Nat.eq_of_beq_eq_true h
      subst e
      exact hv
    · cases h
  · cases h
noncomputable def sLle (G : sG) (θ : List vAV) : vLs → vLs → Bool
  | [], [] => true
  | none :: as', _ :: as => sLle G θ as' as
  | some a' :: as', some a :: as => sVle G θ a' a && sLle G θ as' as
  | _, _ => false
theorem sLle_ok {ρ ρ' : List Nat} {G : sG} {θ : List vAV} (hG : sGr ρ G) (hth : sThR ρ θ ρ') : ∀ {as' as vs : vLs}, sLle G θ as' as = true → sLr ρ as vs → sLr ρ' as' vs
  | [], [], [], _, _ => trivial
  | [], [], _ :: _, _, h => h.elim
  | none :: as', a :: as, [], _, h => h.elim
  | none :: as', a :: as, v :: vs, hb, h => ⟨fun x hx => (by cases hx), sLle_ok hG hth hb h.2⟩
  | some a' :: as', some a :: as, [], _, h => h.elim
  | some a' :: as', some a :: as, v :: vs, hb, h => by
    unfold sLle at hb
    rw [Bool.and_eq_true] at hb
    refine ⟨fun x hx => ?_, sLle_ok hG hth hb.2 h.2⟩
    cases hx
    obtain ⟨y, h1, h2⟩ := h.1 a rfl
    exact ⟨y, h1, sVle_ok hG hth h2 hb.1⟩
  | some _ :: _, none :: _, _, hb, _ => by cases hb
  | some _ :: _, [], _, hb, _ => by cases hb
  | none :: _, [], _, hb, _ => by cases hb
  | [], _ :: _, _, hb, _ => by cases hb
noncomputable def sSle (G : sG) (θ : List vAV) : List vAV → List vAV → Bool
  | [], [] => true
  | a' :: as', a :: as => sVle G θ a' a && sSle G θ as' as
  | _, _ => false
theorem sSle_ok {ρ ρ' : List Nat} {G : sG} {θ : List vAV} (hG : sGr ρ G) (hth : sThR ρ θ ρ') : ∀ {as' as vs : List vAV}, sSle G θ as' as = true → sTr ρ as vs → sTr ρ' as' vs
  | [], [], [], _, _ => trivial
  | [], [], _ :: _, _, h => h.elim
  | a' :: as', a :: as, [], _, h => h.elim
  | a' :: as', a :: as, v :: vs, hb, h => by
    unfold sSle at hb
    rw [Bool.and_eq_true] at hb
    exact ⟨sVle_ok hG hth h.1 hb.1, sSle_ok hG hth hb.2 h.2⟩
  | _ :: _, [], _, hb, _ => by cases hb
  | [], _ :: _, _, hb, _ => by cases hb
/-- cells, runs, objects, heaps -/
noncomputable def sCleJ (G : sG) (θ : List vAV) (c cJ : sC) : Bool := match cJ with
  | .inr _ => sCle G c cJ
  | .inl a' => (match c with
    | .inl a => sVle G θ a' a
    | .inr _ => false)
theorem sCleJ_ok {ρ ρ' : List Nat} {G : sG} {θ : List vAV} {c cJ : sC} {v : vAV} (hG : sGr ρ G) (hth : sThR ρ θ ρ') (hc : sCr ρ c v) (h : sCleJ G θ c cJ = true) : sCr ρ' cJ v := by
  unfold sCleJ at h
  split at h
  · exact sCle_ok hG hc h
  · split at h
    · exact sVle_ok hG hth hc h
    · cases h
noncomputable def sRleJ (G : sG) (θ : List vAV) (rs : List (Nat × sC)) : List (Nat × sC) → Nat → Bool
  | [], _ => true
  | q :: ts, p => (bif Nat.beq q.1 0 then true else (sRg rs p (p + q.1 - 1)).all (fun c => sCleJ G θ c q.2)) && sRleJ G θ rs ts (p + q.1)
theorem sRleJ_ok {ρ ρ' : List Nat} {G : sG} {θ : List vAV} {rs : List (Nat × sC)} (hG : sGr ρ G) (hth : sThR ρ θ ρ') : ∀ {ts : List (Nat × sC)} {p : Nat}, sRleJ G θ rs ts p = true → ∀ (i : Nat) (c cT : sC) (v : vAV), sRd ts i = some cT → sRd rs (p + i) = some c → sCr ρ c v → sCr ρ' cT v
  | [], p, _, i, c, cT, v, h1, _, _ => by cases h1
  | q :: ts, p, h, i, c, cT, v, h1, h2, h3 => by
    unfold sRleJ at h
    rw [Bool.and_eq_true] at h
    rw [sRd_cons] at h1
    by_cases hi : i < q.1
    · rw [if_pos hi] at h1
      cases h1
      have h4 := h.1
      have e : Nat.beq q.1 0 = false := by
        cases hb : Nat.beq q.1 0 with
        | false => rfl
        | true => have := Nat.eq_of_beq_eq_true hb; omega
      rw [e, cond_false] at h4
      exact sCleJ_ok hG hth h3 (List.all_eq_true.mp h4 c (sRg_mem (by omega) (by omega) h2))
    · rw [if_neg hi] at h1
      have e : p + i = p + q.1 + (i - q.1) := by omega
      rw [e] at h2
      exact sRleJ_ok hG hth h.2 (i - q.1) c cT v h1 h2 h3
noncomputable def sHle (G : sG) (θ : List vAV) (h : sHp) : sHp → Bool
  | [] => true
  | e :: hJ => (match sGo h e.1, e.2.2.2 with
    | some o, [] => (Nat.beq o.1 e.2.1 && Nat.beq (sLen o.2.1) (sLen e.2.2.1)) && sRleJ G θ o.2.1 e.2.2.1 0
    | _, _ => false) && sHle G θ h hJ
theorem sHle_ok {ρ ρ' : List Nat} {G : sG} {θ : List vAV} {h : sHp} {hp : List vOb} (hG : sGr ρ G) (hth : sThR ρ θ ρ') (hh : sHr ρ h hp) : ∀ {hJ : sHp}, sHle G θ h hJ = true → sHr ρ' hJ hp
  | [], _, e, he => by cases he
  | e0 :: hJ, hb, e, he => by
    unfold sHle at hb
    rw [Bool.and_eq_true] at hb
    rcases List.mem_cons.mp he with e1 | e1
    · subst e1
      have h1 := hb.1
      split at h1
      · next o ho hca =>
        obtain ⟨ob, q1, q2⟩ := sHr_get hh ho
        rw [Bool.and_eq_true, Bool.and_eq_true] at h1
        have e2 := Nat.eq_of_beq_eq_true h1.1.1
        have e3 := Nat.eq_of_beq_eq_true h1.1.2
        refine ⟨ob, q1, q2.1.trans e2, ⟨q2.2.1.1.trans e3, fun i cT v hc hv => ?_⟩, fun e' he' => ?_⟩
        · have hi : i < sLen o.2.1 := by rw [e3]; exact sRd_lt hc
          obtain ⟨c, hc2⟩ := sRd_ex hi
          exact sRleJ_ok hG hth h1.2 i c cT v hc (by rw [Nat.zero_add]; exact hc2) (q2.2.1.2 i c v hc2 hv)
        · rw [hca] at he'; cases he'
      · cases h1
    · exact sHle_ok hG hth hh hb.2 e e1
noncomputable def sGle (G : sG) (θ : List vAV) : List (Nat × sSet) → Bool
  | [] => true
  | e :: es => (match vNth θ e.1 with
    | some b => (match sSetOf G b with
      | some S => sSub S e.2
      | none => false)
    | none => false) && sGle G θ es
theorem sGle_ok {ρ ρ' : List Nat} {G : sG} {θ : List vAV} (hG : sGr ρ G) (hth : sThR ρ θ ρ') : ∀ {es : List (Nat × sSet)}, sGle G θ es = true → ∀ e ∈ es, ∃ r, ρ'[e.1]? = some r ∧ r < 4294967296 ∧ sIn e.2 r
  | [], _, e, he => by cases he
  | e0 :: es, hb, e, he => by
    unfold sGle at hb
    rw [Bool.and_eq_true] at hb
    rcases List.mem_cons.mp he with e1 | e1
    · subst e1
      have h1 := hb.1
      split at h1
      · next b hbn =>
        rw [vNth_eq] at hbn
        obtain ⟨u, hu, hbv, hr⟩ := hth.2 e.1 b hbn
        split at h1
        · next S hS =>
          obtain ⟨u', -, e2, i⟩ := sSetOf_ok hG hbv hS
          cases e2
          exact ⟨sBi u, hr, sBi_lt u, sSub_ok _ _ _ h1 i⟩
        · cases h1
      · cases h1
    · exact sGle_ok hG hth hb.2 e e1
/-- the template covers the state -/
noncomputable def sLeq (θ : List vAV) (ls : vLs) (st : List vAV) (h : sHp) (G : sG) (J : sSt) : Bool := ((sThI θ && Nat.beq θ.length J.2.2.2.2.1) && (sGle G θ J.2.2.2.2.2.1 && (match J.2.2.2.2.2.2 with
  | [] => true
  | _ => false))) && (sLle G θ J.2.1 ls && (sSle G θ J.2.2.1 st && sHle G θ h J.2.2.2.1))
theorem sLeq_ok {md : sMd} {hp0 : List vOb} {ρ : List Nat} {θ : List vAV} {ls : vLs} {st : List vAV} {h : sHp} {G : sG} {J : sSt} {kl : vLs} {ks : List vAV} {hp : List vOb} (hR : sR md hp0 ρ ls st h G kl ks hp) (hθ : ∀ b ∈ θ, ∃ v, sV ρ b v) (hb : sLeq θ ls st h G J = true) : ∃ ρ', sThR ρ θ ρ' ∧ sR md hp0 ρ' J.2.1 J.2.2.1 J.2.2.2.1 J.2.2.2.2 kl ks hp := by
  obtain ⟨hl, ht, hh, hG, hf⟩ := hR
  unfold sLeq at hb
  rw [Bool.and_eq_true, Bool.and_eq_true, Bool.and_eq_true, Bool.and_eq_true, Bool.and_eq_true, Bool.and_eq_true] at hb
  obtain ⟨⟨⟨b1, b2⟩, b3, b4⟩, b5, b6, b7⟩ := hb
  obtain ⟨ρ', hth⟩ := sThR_ex b1 hθ
  refine ⟨ρ', hth, sLle_ok hG hth b5 hl, sSle_ok hG hth b6 ht, sHle_ok hG hth hh b7, ⟨?_, sGle_ok hG hth b3, fun t ht' => ?_⟩, hf⟩
  · rw [hth.1]; exact Nat.eq_of_beq_eq_true b2
  · split at b4
    · next h0 => rw [h0] at ht'; cases ht'
    · cases b4
