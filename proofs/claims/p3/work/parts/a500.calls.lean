/-! ===== the calls of the class, by their contracts ===== -/
def hTcN (c : Nat) : sHp := match c with
  | 0 => hTc0
  | 1 => hTc1
  | 2 => hTc2
  | _ => hTc3
theorem hTcN_is (c : Nat) : ∃ o, hTcN c = (0, o) :: hT := by
  unfold hTcN
  split
  · exact ⟨_, rfl⟩
  · exact ⟨_, rfl⟩
  · exact ⟨_, rfl⟩
  · exact ⟨_, rfl⟩
def mdX (md : sMd) : Bool := md.all (fun m => Nat.blt m.1 220)
theorem mdX_ok {md : sMd} (h : mdX md = true) {k i : Nat} (hm : sMin md k i) : k < 220 := by
  obtain ⟨m, m1, m2, -⟩ := hm
  have := Nat.blt_eq.mp (List.all_eq_true.mp h m m1)
  omega
def ints (args : List vAV) : Prop := ∀ a ∈ args, ∃ u, u < 4294967296 ∧ a = .inl u
theorem sAr_full : ∀ (k : Nat) {args : List vAV}, args.length = k → ints args → sAr (List.replicate k zF) args
  | 0, [], _, _ => trivial
  | 0, _ :: _, h, _ => by simp at h
  | k + 1, [], h, _ => by simp at h
  | k + 1, a :: as, h, hi => by
    obtain ⟨u, u1, u2⟩ := hi a List.mem_cons_self
    exact ⟨⟨u, u1, sIn_full (sBi_lt u), u2⟩, sAr_full k (by simpa using h) (fun x hx => hi x (List.mem_cons_of_mem _ hx))⟩
/-- a call of the class in one of its four shapes -/
def xOK (j k c : Nat) : Prop := ∀ (hp : List vOb) (args : List vAV), kTy (hTcN c) plC hp → args.length = k → ints args → ∃ u hp' md, (∃ N, ∀ fuel, N ≤ fuel → vCalD vms vdf fuel 60 j (yV 0 :: args) hp = some (some (.inl u), hp', 0, 0)) ∧ u < 4294967296 ∧ (∃ c', c' < 4 ∧ kTy (hTcN c') plC hp') ∧ sFr md hp hp' ∧ mdX md = true
def xB (e : sCtE) : Bool := e.2.2.1.all (fun k => Nat.blt k 220) && (mdX e.2.2.2.2 && plC.all (fun k => sStop k e.2.2.1 || !sHas k e.2.2.2.2))
theorem sRt_int {S : sSet} {r : Option vAV} (h : sRtC (some (.inr S)) r) : ∃ u, u < 4294967296 ∧ r = some (.inl u) := by
  cases r with
  | none => exact h.elim
  | some v =>
    obtain ⟨u, u1, -, u3⟩ := h
    exact ⟨u, u1, by rw [u3]⟩
theorem xOK_of {e : sCtE} {k c : Nat} {S : sSet} (hc4 : c < 4) (hc : cOK vms vdf 60 (hTcN c) e) (ha : e.2.1 = yO 0 :: List.replicate k zF) (hr : e.2.2.2.1 = some (.inr S)) (hB : xB e = true) : xOK e.1 k c := by
  intro hp args hty hl hi
  unfold xB at hB
  rw [Bool.and_eq_true, Bool.and_eq_true] at hB
  obtain ⟨b1, b2, b3⟩ := hB
  obtain ⟨r, hp', h1, h2, h3, h4⟩ := hc (yV 0 :: args) hp (by rw [ha]; exact ⟨rfl, sAr_full k hl hi⟩) (kTy_sub (plC_mem b1) hty)
  rw [hr] at h2
  obtain ⟨u, u1, u2⟩ := sRt_int h2
  subst u2
  exact ⟨u, hp', _, h1, u1, ⟨c, hc4, kTy_upd b3 h3 hty h4⟩, h3, b2⟩
theorem xOK_of0 {e : sCtE} {k c : Nat} {S : sSet} (hc4 : c < 4) (hc : cOK vms vdf 60 hT e) (ha : e.2.1 = yO 0 :: List.replicate k zF) (hr : e.2.2.2.1 = some (.inr S)) (hB : xB e = true) (hs : tSame 0 e.2.2.1 = true) : xOK e.1 k c := by
  intro hp args hty hl hi
  unfold xB at hB
  rw [Bool.and_eq_true, Bool.and_eq_true] at hB
  obtain ⟨b1, b2, b3⟩ := hB
  obtain ⟨o, ho⟩ := hTcN_is c
  have hty0 : kTy hT e.2.2.1 hp := by
    have h := kTy_sub (plC_mem b1) hty
    rw [ho] at h
    exact (kTy_cons hs).mp h
  obtain ⟨r, hp', h1, h2, h3, h4⟩ := hc (yV 0 :: args) hp (by rw [ha]; exact ⟨rfl, sAr_full k hl hi⟩) hty0
  rw [hr] at h2
  obtain ⟨u, u1, u2⟩ := sRt_int h2
  subst u2
  refine ⟨u, hp', _, h1, u1, ⟨c, hc4, kTy_upd b3 h3 hty ?_⟩, h3, b2⟩
  rw [ho]
  exact (kTy_cons hs).mpr h4
theorem xOK_ofS {e : sCtE} {k c c1 c2 : Nat} {S : sSet} (h1c : c1 < 4) (h2c : c2 < 4) (hc : pOK vms vdf 60 (hTcN c) [hTcN c1, hTcN c2] e) (ha : e.2.1 = yO 0 :: List.replicate k zF) (hr : e.2.2.2.1 = some (.inr S)) (hB : xB e = true) (h0 : sStop 0 e.2.2.1 = true) : xOK e.1 k c := by
  intro hp args hty hl hi
  unfold xB at hB
  rw [Bool.and_eq_true, Bool.and_eq_true] at hB
  obtain ⟨b1, b2, b3⟩ := hB
  obtain ⟨r, hp', h1, h2, h3, T', h4, h5⟩ := hc (yV 0 :: args) hp (by rw [ha]; exact ⟨rfl, sAr_full k hl hi⟩) (kTy_sub (plC_mem b1) hty)
  rw [hr] at h2
  obtain ⟨u, u1, u2⟩ := sRt_int h2
  subst u2
  have move : ∀ c', kTy (hTcN c') e.2.2.1 hp' → kTy (hTcN c') plC hp' := fun c' h => fun k hk => by
    by_cases hk0 : k = 0
    · subst hk0
      exact h 0 (sStop_mem h0)
    · rcases Bool.or_eq_true_iff.mp (List.all_eq_true.mp b3 k hk) with e1 | e1
      · exact h k (sStop_mem e1)
      · obtain ⟨o, ho⟩ := hTcN_is c
        obtain ⟨o', ho'⟩ := hTcN_is c'
        have hsame : tSame 0 [k] = true := by
          unfold tSame
          cases hb : sStop 0 [k] with
          | false => rfl
          | true =>
            have := sStop_mem hb
            rw [List.mem_singleton] at this
            exact absurd this.symm hk0
        have q1 : kTy (hTcN c) [k] hp := kTy_sub (fun k' hk' => by
          rw [List.mem_singleton] at hk'
          rw [hk']
          exact hk) hty
        rw [ho] at q1
        have q2 : kTy (hTcN c') [k] hp := by
          rw [ho']
          exact (kTy_cons hsame).mpr ((kTy_cons hsame).mp q1)
        obtain ⟨oT, ob, r1, r2, r3⟩ := q2 k (List.mem_singleton.mpr rfl)
        exact ⟨oT, ob, r1, row_same h3 (by cases hb : sHas k e.2.2.2.2 with
          | false => rfl
          | true => rw [hb] at e1; cases e1) r2, r3⟩
  simp only [List.mem_cons, List.not_mem_nil, or_false] at h4
  rcases h4 with rfl | rfl
  · exact ⟨u, hp', _, h1, u1, ⟨c1, h1c, move c1 h5⟩, h3, b2⟩
  · exact ⟨u, hp', _, h1, u1, ⟨c2, h2c, move c2 h5⟩, h3, b2⟩
