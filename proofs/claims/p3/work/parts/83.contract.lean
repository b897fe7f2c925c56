/-! ===== contracts: method, arguments, places, answer, cells that may change ===== -/
abbrev sCtE : Type := Nat × List sC × List Nat × Option sC × sMd
def sAr : List sC → List vAV → Prop
  | [], [] => True
  | c :: cs, v :: vs => sCr [] c v ∧ sAr cs vs
  | [], _ :: _ => False
  | _ :: _, [] => False
def sRtC : Option sC → Option vAV → Prop
  | none, none => True
  | some c, some v => sCr [] c v
  | _, _ => False
def cOK (vms : List vMt) (df : List (List vAV)) (d : Nat) (T : sHp) (e : sCtE) : Prop := ∀ (kav : List vAV) (hp : List vOb), sAr e.2.1 kav → kTy T e.2.2.1 hp → ∃ r hp', (∃ N, ∀ fuel, N ≤ fuel → vCalD vms df fuel d e.1 kav hp = some (r, hp', 0, 0)) ∧ sRtC e.2.2.2.1 r ∧ sFr e.2.2.2.2 hp hp' ∧ kTy T e.2.2.1 hp'
noncomputable def sAle (G : sG) : List sC → List vAV → Bool
  | [], [] => true
  | c :: cs, a :: as => sCle G (.inl a) c && sAle G cs as
  | _, _ => false
theorem sAle_ok {ρ : List Nat} {G : sG} (hG : sGr ρ G) : ∀ {cs : List sC} {as vs : List vAV}, sAle G cs as = true → sTr ρ as vs → sAr cs vs
  | [], [], [], _, _ => trivial
  | [], [], _ :: _, _, h => h.elim
  | [], _ :: _, _, h, _ => by cases h
  | _ :: _, [], _, h, _ => by cases h
  | c :: cs, a :: as, [], _, h => h.elim
  | c :: cs, a :: as, v :: vs, h, ht => by
    unfold sAle at h
    rw [Bool.and_eq_true] at h
    exact ⟨sCle_ok (c := .inl a) hG ht.1 h.1, sAle_ok hG h.2 ht.2⟩
def sHvO (k : Nat) (oT : sOb) : sMd → sOb → sOb
  | [], o => o
  | m :: ms, o => bif Nat.beq m.1 k then (bif Nat.beq m.2.1 0 && Nat.beq (m.2.2 + 1) (sLen oT.2.1) then sHvO k oT ms (o.1, oT.2.1, []) else sHvO k oT ms (o.1, sTk o.2.1 m.2.1 ++ (sTk (sDp oT.2.1 m.2.1) (m.2.2 + 1 - m.2.1) ++ sDp o.2.1 (m.2.2 + 1)), [])) else sHvO k oT ms o
theorem sCr_nil {ρ : List Nat} {c : sC} {v : vAV} (h : sCr [] c v) : sCr ρ c v := by
  have := sCr_app ρ h
  rw [List.nil_append] at this
  exact this
theorem sMin_cons {m : Nat × Nat × Nat} {ms : sMd} {k i : Nat} : sMin (m :: ms) k i ↔ (m.1 = k ∧ m.2.1 ≤ i ∧ i ≤ m.2.2) ∨ sMin ms k i := by
  constructor
  · rintro ⟨e, he, h⟩
    rcases List.mem_cons.mp he with e1 | e1
    · rw [e1] at h; exact Or.inl h
    · exact Or.inr ⟨e, e1, h⟩
  · rintro (h | ⟨e, he, h⟩)
    · exact ⟨m, List.mem_cons_self, h⟩
    · exact ⟨e, List.mem_cons_of_mem _ he, h⟩
theorem sHvO_ok {ρ : List Nat} {k : Nat} {oT : sOb} {ob : vOb} (hT : sOr [] oT ob) : ∀ (ms : sMd) (o : sOb), (∀ m ∈ ms, m.1 = k → m.2.1 ≤ m.2.2 ∧ m.2.2 < sLen oT.2.1) → ob.1 = o.1 → ob.2.length = sLen o.2.1 → (∀ (i : Nat) (c : sC) (v : vAV), sRd o.2.1 i = some c → ob.2[i]? = some v → ¬ sMin ms k i → sCr ρ c v) → ((∀ m ∈ ms, m.1 ≠ k) → ∀ e ∈ o.2.2, ∃ i v, sIx ρ e.1 i ∧ ob.2[i]? = some v ∧ sV ρ e.2 v) → sOr ρ (sHvO k oT ms o) ob
  | [], o, _, h1, h2, h3, h4 => ⟨h1, ⟨h2, fun i c v a b => h3 i c v a b (fun ⟨_, he, _⟩ => by cases he)⟩, h4 (fun m hm => by cases hm)⟩
  | m :: ms, o, hm, h1, h2, h3, h4 => by
    unfold sHvO
    have hms : ∀ m' ∈ ms, m'.1 = k → m'.2.1 ≤ m'.2.2 ∧ m'.2.2 < sLen oT.2.1 := fun m' h => hm m' (List.mem_cons_of_mem _ h)
    cases hb : Nat.beq m.1 k with
    | false =>
      have hk := kbeq hb
      rw [cond_false]
      refine sHvO_ok hT ms o hms h1 h2 (fun i c v a b hn => h3 i c v a b (fun q => ?_)) (fun hne => h4 (fun m' hm' => ?_))
      · rcases sMin_cons.mp q with q | q
        · exact hk q.1
        · exact hn q
      · rcases List.mem_cons.mp hm' with e | e
        · rw [e]; exact hk
        · exact hne m' e
    | true =>
      have hk := Nat.eq_of_beq_eq_true hb
      obtain ⟨b1, b2⟩ := hm m List.mem_cons_self hk
      have lT := hT.2.1.1
      have l1 : sLen oT.2.1 = sLen o.2.1 := by rw [← lT, h2]
      have t1 : sLen (sTk o.2.1 m.2.1) = m.2.1 := sLen_tk _ _ (by omega)
      have t2 : sLen (sDp oT.2.1 m.2.1) = sLen oT.2.1 - m.2.1 := sLen_dp _ _ (by omega)
      have t3 : sLen (sTk (sDp oT.2.1 m.2.1) (m.2.2 + 1 - m.2.1)) = m.2.2 + 1 - m.2.1 := sLen_tk _ _ (by rw [t2]; omega)
      have t4 : sLen (sDp o.2.1 (m.2.2 + 1)) = sLen o.2.1 - (m.2.2 + 1) := sLen_dp _ _ (by omega)
      rw [cond_true]
      cases hw : (Nat.beq m.2.1 0 && Nat.beq (m.2.2 + 1) (sLen oT.2.1)) with
      | true =>
        rw [cond_true]
        exact sHvO_ok hT ms _ hms h1 lT (fun i c v a b hn => sCr_nil (hT.2.1.2 i c v a b)) (fun _ e he => by cases he)
      | false =>
      rw [cond_false]
      refine sHvO_ok hT ms _ hms h1 ?_ (fun i c v a b hn => ?_) (fun _ e he => by cases he)
      · show ob.2.length = sLen (sTk o.2.1 m.2.1 ++ (sTk (sDp oT.2.1 m.2.1) (m.2.2 + 1 - m.2.1) ++ sDp o.2.1 (m.2.2 + 1)))
        rw [sLen_app, sLen_app, t1, t3, t4]
        omega
      · have a : sRd (sTk o.2.1 m.2.1 ++ (sTk (sDp oT.2.1 m.2.1) (m.2.2 + 1 - m.2.1) ++ sDp o.2.1 (m.2.2 + 1))) i = some c := a
        rw [sRd_app, t1] at a
        by_cases c1 : i < m.2.1
        · rw [if_pos c1, sRd_tk _ _ _ (by omega) c1] at a
          refine h3 i c v a b (fun q => ?_)
          rcases sMin_cons.mp q with q | q
          · omega
          · exact hn q
        · rw [if_neg c1, sRd_app, t3] at a
          by_cases c2 : i - m.2.1 < m.2.2 + 1 - m.2.1
          · rw [if_pos c2, sRd_tk _ _ _ (by rw [t2]; omega) c2, sRd_dp] at a
            have e : m.2.1 + (i - m.2.1) = i := by omega
            rw [e] at a
            exact sCr_nil (hT.2.1.2 i c v a b)
          · rw [if_neg c2, sRd_dp] at a
            have e : m.2.2 + 1 + (i - m.2.1 - (m.2.2 + 1 - m.2.1)) = i := by omega
            rw [e] at a
            refine h3 i c v a b (fun q => ?_)
            rcases sMin_cons.mp q with q | q
            · omega
            · exact hn q
def sHv (T : sHp) (ms : sMd) : sHp → sHp
  | [] => []
  | e :: h => (match sGo T e.1 with
    | some oT => (e.1, sHvO e.1 oT ms e.2)
    | none => e) :: sHv T ms h
theorem sHv_mem {T : sHp} {ms : sMd} : ∀ {h : sHp} {e : Nat × sOb}, e ∈ sHv T ms h → ∃ o, (e.1, o) ∈ h ∧ ((∃ oT, sGo T e.1 = some oT ∧ e.2 = sHvO e.1 oT ms o) ∨ (sGo T e.1 = none ∧ e.2 = o))
  | [], _, h => by cases h
  | e0 :: h, e, he => by
    unfold sHv at he
    rcases List.mem_cons.mp he with e1 | e1
    · cases hT : sGo T e0.1 with
      | some oT =>
        rw [hT] at e1
        subst e1
        exact ⟨e0.2, List.mem_cons_self, Or.inl ⟨oT, hT, rfl⟩⟩
      | none =>
        rw [hT] at e1
        subst e1
        exact ⟨e.2, List.mem_cons_self, Or.inr ⟨hT, rfl⟩⟩
    · obtain ⟨o, h1, h2⟩ := sHv_mem e1
      exact ⟨o, List.mem_cons_of_mem _ h1, h2⟩
noncomputable def sMok (T : sHp) (md : sMd) (pl : List Nat) : sMd → Bool
  | [] => true
  | m :: ms => ((sStop m.1 pl && (match sGo T m.1 with
    | some oT => Nat.ble m.2.1 m.2.2 && Nat.blt m.2.2 (sLen oT.2.1)
    | none => false)) && sMc md m.1 m.2.1 m.2.2) && sMok T md pl ms
theorem sMok_ok {T : sHp} {md : sMd} {pl : List Nat} : ∀ {ms : sMd}, sMok T md pl ms = true → ∀ m ∈ ms, m.1 ∈ pl ∧ (∃ oT, sGo T m.1 = some oT ∧ m.2.1 ≤ m.2.2 ∧ m.2.2 < sLen oT.2.1) ∧ sMc md m.1 m.2.1 m.2.2 = true
  | [], _, m, hm => by cases hm
  | m0 :: ms, h, m, hm => by
    unfold sMok at h
    rw [Bool.and_eq_true, Bool.and_eq_true, Bool.and_eq_true] at h
    rcases List.mem_cons.mp hm with e | e
    · subst e
      obtain ⟨⟨⟨h1, h2⟩, h3⟩, -⟩ := h
      refine ⟨sStop_mem h1, ?_, h3⟩
      split at h2
      · next oT hT =>
        rw [Bool.and_eq_true] at h2
        exact ⟨oT, hT, Nat.le_of_ble_eq_true h2.1, Nat.blt_eq.mp h2.2⟩
      · cases h2
    · exact sMok_ok h.2 m e
theorem sHv_ok {ρ : List Nat} {T h : sHp} {hp hp' : List vOb} {md ms : sMd} {pl : List Nat} (hh : sHr ρ h hp) (hf : sFr ms hp hp') (hty : kTy T pl hp') (hm : sMok T md pl ms = true) : sHr ρ (sHv T ms h) hp' := by
  intro e he
  obtain ⟨o, h1, h2⟩ := sHv_mem he
  obtain ⟨ob, q1, q2⟩ := hh _ h1
  obtain ⟨ob', r1, r2, r3, r4⟩ := hf.2 e.1 ob q1
  refine ⟨ob', r1, ?_⟩
  have hno : (∀ m ∈ ms, m.1 ≠ e.1) → ob' = ob := fun hne => by
    refine Prod.ext r2 (List.ext_getElem? (fun i => r4 i (fun ⟨m, hm1, hm2, _⟩ => hne m hm1 hm2)))
  rcases h2 with ⟨oT, hT, he2⟩ | ⟨hT, he2⟩
  · rw [he2]
    by_cases hex : ∃ m ∈ ms, m.1 = e.1
    · obtain ⟨m, m1, m2⟩ := hex
      have hpl := (sMok_ok hm m m1).1
      rw [m2] at hpl
      obtain ⟨oT', ob2, t1, t2, t3⟩ := hty _ hpl
      rw [hT] at t1
      cases t1
      rw [r1] at t2
      cases t2
      refine sHvO_ok t3 ms o (fun m' hm' hk => ?_) (r2.trans q2.1) (r3.trans q2.2.1.1) (fun i c v a b hn => ?_) (fun hne => absurd m2 (hne m m1))
      · obtain ⟨-, ⟨oT2, u1, u2, u3⟩, -⟩ := sMok_ok hm m' hm'
        rw [hk, hT] at u1
        cases u1
        exact ⟨u2, u3⟩
      · rw [r4 i hn] at b
        exact q2.2.1.2 i c v a b
    · have hne : ∀ m ∈ ms, m.1 ≠ e.1 := fun m hm1 hm2 => hex ⟨m, hm1, hm2⟩
      have hsame : ∀ (ms' : sMd) (o' : sOb), (∀ m ∈ ms', m.1 ≠ e.1) → sHvO e.1 oT ms' o' = o' := by
        intro ms'
        induction ms' with
        | nil => intro o' _; rfl
        | cons m ms' ih =>
          intro o' hn
          unfold sHvO
          have hb : Nat.beq m.1 e.1 = false := by
            cases hb : Nat.beq m.1 e.1 with
            | false => rfl
            | true => exact absurd (Nat.eq_of_beq_eq_true hb) (hn m List.mem_cons_self)
          rw [hb, cond_false]
          exact ih o' (fun m' h => hn m' (List.mem_cons_of_mem _ h))
      rw [hsame ms o hne, hno hne]
      exact q2
  · rw [he2]
    have hne : ∀ m ∈ ms, m.1 ≠ e.1 := fun m hm1 hm2 => by
      obtain ⟨-, ⟨oT2, u1, -, -⟩, -⟩ := sMok_ok hm m hm1
      rw [hm2, hT] at u1
      cases u1
    rw [hno hne]
    exact q2
def sHas (k : Nat) : sMd → Bool
  | [] => false
  | m :: ms => bif Nat.beq m.1 k then true else sHas k ms
theorem sHvO_not {k : Nat} {oT : sOb} : ∀ {ms : sMd} {o : sOb}, sHas k ms = false → sHvO k oT ms o = o
  | [], o, _ => rfl
  | m :: ms, o, h => by
    unfold sHas at h
    unfold sHvO
    cases hb : Nat.beq m.1 k with
    | true => rw [hb] at h; cases h
    | false =>
      rw [hb, cond_false] at h
      rw [cond_false]
      exact sHvO_not h
def sHx (T : sHp) (ms : sMd) : sHp → sHp
  | [] => []
  | e :: h => bif sHas e.1 ms then (match sGo T e.1 with
    | some oT => (e.1, sHvO e.1 oT ms e.2)
    | none => e) :: sHx T ms h else e :: sHx T ms h
theorem sHx_eq {T : sHp} {ms : sMd} : ∀ {h : sHp}, sHx T ms h = sHv T ms h
  | [] => rfl
  | e :: h => by
    unfold sHx sHv
    rw [sHx_eq (h := h)]
    cases hb : sHas e.1 ms with
    | true => rfl
    | false =>
      rw [cond_false]
      cases hT : sGo T e.1 with
      | none => rfl
      | some oT =>
        show e :: sHv T ms h = (e.1, sHvO e.1 oT ms e.2) :: sHv T ms h
        rw [sHvO_not hb]
theorem sHv_nil {T : sHp} : ∀ {h : sHp}, sHv T [] h = h
  | [] => rfl
  | e :: h => by
    unfold sHv
    rw [sHv_nil (h := h)]
    cases hT : sGo T e.1 with
    | none => rfl
    | some oT => rfl
/-- what has changed by a call -/
def sHw (T : sHp) (ms : sMd) (h : sHp) : sHp := match ms with
  | [] => h
  | m :: ms => sHx T (m :: ms) h
theorem sHw_eq {T : sHp} {ms : sMd} {h : sHp} : sHw T ms h = sHv T ms h := by
  unfold sHw
  split
  · exact sHv_nil.symm
  · exact sHx_eq
noncomputable def sApp (T : sHp) (md : sMd) (e : sCtE) (av : List vAV) (h : sHp) (G : sG) : Option (List (Option vAV × sHp × sG)) := bif sAle G e.2.1 av && (sTlc G T h e.2.2.1 && sMok T md e.2.2.1 e.2.2.2.2) then (match e.2.2.2.1 with
    | none => some [(none, sHw T e.2.2.2.2 h, G)]
    | some (.inr S) => (match sMk G S with
      | (G', v) => some [(some v, sHw T e.2.2.2.2 h, G')])
    | some (.inl a) => bif sLng (.inl a) then some [(some sUnk, sHw T e.2.2.2.2 h, G)] else none) else none
theorem sApp_ok {vms : List vMt} {df : List (List vAV)} {d : Nat} {T : sHp} {md : sMd} {hp0 : List vOb} {e : sCtE} (hc : cOK vms df d T e) {av : List vAV} {h : sHp} {G : sG} {L : List (Option vAV × sHp × sG)} (he : sApp T md e av h G = some L) {ρ : List Nat} {kav : List vAV} {hp : List vOb} (ht : sTr ρ av kav) (hh : sHr ρ h hp) (hG : sGr ρ G) (hf : sFr md hp0 hp) :
    ∃ e' ∈ L, ∃ xs r hp', (∃ N, ∀ fuel, N ≤ fuel → vCalD vms df fuel d e.1 kav hp = some (r, hp', 0, 0)) ∧ sRt (ρ ++ xs) e'.1 r ∧ sHr (ρ ++ xs) e'.2.1 hp' ∧ sGr (ρ ++ xs) e'.2.2 ∧ sFr md hp0 hp' := by
  unfold sApp at he
  cases hb : (sAle G e.2.1 av && (sTlc G T h e.2.2.1 && sMok T md e.2.2.1 e.2.2.2.2)) with
  | false => rw [hb] at he; cases he
  | true =>
    rw [hb, cond_true] at he
    rw [Bool.and_eq_true, Bool.and_eq_true] at hb
    obtain ⟨r, hp', q1, q2, q3, q4⟩ := hc kav hp (sAle_ok hG hb.1 ht) (sTlc_ok hG hh hb.2.1)
    have hh' := sHv_ok hh q3 q4 hb.2.2
    rw [← sHw_eq] at hh'
    have hf' : sFr md hp0 hp' := hf.tr (q3.mono (fun k i ⟨m, m1, m2, m3, m4⟩ => by
      have := (sMok_ok hb.2.2 m m1).2.2
      rw [m2] at this
      exact sMc_ok this m3 m4))
    split at he
    · next hr =>
      cases he
      rw [hr] at q2
      refine ⟨_, List.mem_cons_self, [], r, hp', q1, ?_⟩
      rw [List.append_nil]
      refine ⟨?_, hh', hG, hf'⟩
      match r, q2 with
      | none, _ => trivial
    · next S hr =>
      have he := Option.some.inj he
      rw [hr] at q2
      match r, q2 with
      | some v, q2 =>
        obtain ⟨u, u1, u2, rfl⟩ := q2
        obtain ⟨xs, m1, m2⟩ := sMk_ok hG u1 u2
        subst he
        exact ⟨_, List.mem_cons_self, xs, _, hp', q1, m2, sHr_app xs hh', m1, hf'⟩
    · next a hr =>
      cases hl : sLng (.inl a) with
      | false => rw [hl] at he; cases he
      | true =>
        rw [hl, cond_true] at he
        cases he
        rw [hr] at q2
        match r, q2 with
        | some v, q2 =>
          obtain ⟨u, u1, rfl⟩ := sLng_ok hl q2
          refine ⟨_, List.mem_cons_self, [], _, hp', q1, ?_⟩
          rw [List.append_nil]
          exact ⟨(sUnk_ok (ρ := ρ) u1 : sV ρ sUnk _), hh', hG, hf'⟩
/-- a table of contracts as a table of callees -/
noncomputable def sCt (T : sHp) (md : sMd) : List sCtE → sCal
  | [] => fun _ _ _ _ => none
  | e :: es => fun j av h G => bif Nat.beq e.1 j then (match sApp T md e av h G with
    | some L => some L
    | none => sCt T md es j av h G) else sCt T md es j av h G
theorem sCt_ok {vms : List vMt} {df : List (List vAV)} {d : Nat} {T : sHp} {md : sMd} {hp0 : List vOb} : ∀ {es : List sCtE}, (∀ e ∈ es, cOK vms df d T e) → sCalOK vms df d md hp0 (sCt T md es)
  | [], _, j, av, h, G, L, he, _, _, _, _, _, _, _ => by cases he
  | e :: es, hes, j, av, h, G, L, he, ρ, kav, hp, ht, hh, hG, hf => by
    have ih := sCt_ok (md := md) (hp0 := hp0) (fun e' h' => hes e' (List.mem_cons_of_mem _ h'))
    unfold sCt at he
    cases hb : Nat.beq e.1 j with
    | false => rw [hb, cond_false] at he; exact ih j av h G L he ρ kav hp ht hh hG hf
    | true =>
      rw [hb, cond_true] at he
      have ej := Nat.eq_of_beq_eq_true hb
      split at he
      · next L1 hL1 =>
        cases he
        subst ej
        exact sApp_ok (hes e List.mem_cons_self) hL1 ht hh hG hf
      · exact ih j av h G L he ρ kav hp ht hh hG hf
