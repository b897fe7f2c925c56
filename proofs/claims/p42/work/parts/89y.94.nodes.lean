/-! ===== pieces of a method by hand: from node to node ===== -/
/-- a cell of the heap has this value -/
def hC (hp : List vOb) (k i : Nat) (v : vAV) : Prop := ∃ ob, hp[k]? = some ob ∧ ob.2[i]? = some v
theorem hC_fr {md : sMd} {hp hp' : List vOb} {k i : Nat} {v : vAV} (hf : sFr md hp hp') (hm : ¬ sMin md k i) (h : hC hp k i v) : hC hp' k i v := by
  obtain ⟨ob, h1, h2⟩ := h
  obtain ⟨o, q1, -, -, q4⟩ := hf.2 _ _ h1
  exact ⟨o, q1, (q4 i hm).trans h2⟩
theorem hC_fun {hp : List vOb} {k i : Nat} {v w : vAV} (h : hC hp k i v) (h' : hC hp k i w) : v = w := by
  obtain ⟨ob, h1, h2⟩ := h
  obtain ⟨ob', h3, h4⟩ := h'
  rw [h1] at h3
  cases h3
  rw [h2] at h4
  exact Option.some.inj h4
def nLr (ρ : List Nat) : List (Option sC) → vLs → Prop
  | [], [] => True
  | a :: as, v :: vs => (∀ c, a = some c → ∃ y, v = some y ∧ sCr ρ c y) ∧ nLr ρ as vs
  | [], _ :: _ => False
  | _ :: _, [] => False
theorem nLr_app {ρ : List Nat} (xs : List Nat) : ∀ {as : List (Option sC)} {vs : vLs}, nLr ρ as vs → nLr (ρ ++ xs) as vs
  | [], [], _ => trivial
  | _ :: _, _ :: _, h => ⟨fun c hc => by obtain ⟨y, h1, h2⟩ := h.1 c hc; exact ⟨y, h1, sCr_app xs h2⟩, nLr_app xs h.2⟩
  | [], _ :: _, h => h.elim
  | _ :: _, [], h => h.elim
def nAr (ρ : List Nat) : List sC → List vAV → Prop
  | [], [] => True
  | c :: cs, v :: vs => sCr ρ c v ∧ nAr ρ cs vs
  | [], _ :: _ => False
  | _ :: _, [] => False
theorem nAr_app {ρ : List Nat} (xs : List Nat) : ∀ {cs : List sC} {vs : List vAV}, nAr ρ cs vs → nAr (ρ ++ xs) cs vs
  | [], [], _ => trivial
  | _ :: _, _ :: _, h => ⟨sCr_app xs h.1, nAr_app xs h.2⟩
  | [], _ :: _, h => h.elim
  | _ :: _, [], h => h.elim
def nIl : List (Option sC) → sG → vLs × sG
  | [], G => ([], G)
  | none :: cs, G => (none :: (nIl cs G).1, (nIl cs G).2)
  | some (.inl a) :: cs, G => (some a :: (nIl cs G).1, (nIl cs G).2)
  | some (.inr S) :: cs, G => (some (.inr (.inl (G.1, 0))) :: (nIl cs (sNew G S)).1, (nIl cs (sNew G S)).2)
theorem sV_back {u : Nat} (hu : u < 4294967296) {ρ : List Nat} {j : Nat} (hj : ρ[j]? = some (sBi u)) : sV ρ (.inr (.inl (j, 0))) (.inl u) := ⟨_, hj, by rw [sUn_bi hu]⟩
theorem nIl_ok : ∀ {cs : List (Option sC)} {vs : vLs} {G : sG} {ρ : List Nat}, nLr ρ cs vs → sGr ρ G → ∃ xs, sGr (ρ ++ xs) (nIl cs G).2 ∧ sLr (ρ ++ xs) (nIl cs G).1 vs
  | [], [], G, ρ, _, hG => ⟨[], by rw [List.append_nil]; exact ⟨hG, trivial⟩⟩
  | [], _ :: _, _, _, h, _ => h.elim
  | _ :: _, [], _, _, h, _ => h.elim
  | none :: cs, v :: vs, G, ρ, h, hG => by
    obtain ⟨xs, h1, h2⟩ := nIl_ok h.2 hG
    exact ⟨xs, h1, fun x hx => (by cases hx), h2⟩
  | some (.inl a) :: cs, v :: vs, G, ρ, h, hG => by
    obtain ⟨xs, h1, h2⟩ := nIl_ok h.2 hG
    obtain ⟨y, y1, y2⟩ := h.1 _ rfl
    exact ⟨xs, h1, fun x hx => (by cases hx; exact ⟨y, y1, sV_app xs y2⟩), h2⟩
  | some (.inr S) :: cs, v :: vs, G, ρ, h, hG => by
    obtain ⟨y, y1, u, u1, u2, u3⟩ := h.1 _ rfl
    have hG' := sGr_new hG (sBi_lt u) u2
    obtain ⟨xs, h1, h2⟩ := nIl_ok (nLr_app [sBi u] h.2) hG'
    rw [List.append_assoc] at h1 h2
    refine ⟨sBi u :: xs, h1, fun x hx => ?_, h2⟩
    have hx := Option.some.inj hx
    subst hx
    refine ⟨y, y1, ?_⟩
    rw [u3]
    refine sV_back u1 ?_
    rw [← hG.1, List.getElem?_append_right (Nat.le_refl _), Nat.sub_self]
    rfl
def nIs : List sC → sG → List vAV × sG
  | [], G => ([], G)
  | .inl a :: cs, G => (a :: (nIs cs G).1, (nIs cs G).2)
  | .inr S :: cs, G => (.inr (.inl (G.1, 0)) :: (nIs cs (sNew G S)).1, (nIs cs (sNew G S)).2)
theorem nIs_ok : ∀ {cs : List sC} {vs : List vAV} {G : sG} {ρ : List Nat}, nAr ρ cs vs → sGr ρ G → ∃ xs, sGr (ρ ++ xs) (nIs cs G).2 ∧ sTr (ρ ++ xs) (nIs cs G).1 vs
  | [], [], G, ρ, _, hG => ⟨[], by rw [List.append_nil]; exact ⟨hG, trivial⟩⟩
  | [], _ :: _, _, _, h, _ => h.elim
  | _ :: _, [], _, _, h, _ => h.elim
  | .inl a :: cs, v :: vs, G, ρ, h, hG => by
    obtain ⟨xs, h1, h2⟩ := nIs_ok h.2 hG
    exact ⟨xs, h1, sV_app xs h.1, h2⟩
  | .inr S :: cs, v :: vs, G, ρ, h, hG => by
    obtain ⟨u, u1, u2, u3⟩ := h.1
    have hG' := sGr_new hG (sBi_lt u) u2
    obtain ⟨xs, h1, h2⟩ := nIs_ok (nAr_app [sBi u] h.2) hG'
    rw [List.append_assoc] at h1 h2
    refine ⟨sBi u :: xs, h1, ?_, h2⟩
    rw [u3]
    refine sV_back u1 ?_
    rw [← hG.1, List.getElem?_append_right (Nat.le_refl _), Nat.sub_self]
    rfl
/-- cells that are told -/
def tOv : sHp → List (Nat × Nat × sC) → sHp
  | h, [] => h
  | h, c :: cs => tOv (match sGo h c.1 with
    | some o => sPo h c.1 (o.1, sWr o.2.1 c.2.1 c.2.2, o.2.2)
    | none => h) cs
def nCs (ρ : List Nat) (hp : List vOb) (cs : List (Nat × Nat × sC)) : Prop := ∀ c ∈ cs, ∃ v, hC hp c.1 c.2.1 v ∧ sCr ρ c.2.2 v
theorem tOv_ok {ρ : List Nat} {hp : List vOb} : ∀ {cs : List (Nat × Nat × sC)} {h : sHp}, sHr ρ h hp → nCs ρ hp cs → sHr ρ (tOv h cs) hp
  | [], h, hh, _ => hh
  | c :: cs, h, hh, hc => by
    unfold tOv
    refine tOv_ok ?_ (fun c' hc' => hc c' (List.mem_cons_of_mem _ hc'))
    split
    · next o ho =>
      obtain ⟨ob, o1, o2⟩ := sHr_get hh ho
      obtain ⟨v, ⟨ob', v1, v2⟩, v3⟩ := hc c List.mem_cons_self
      rw [o1] at v1
      cases v1
      refine sHr_tell hh o1 ⟨o2.1, sRr_tell o2.2.1 ?_ v2 v3, o2.2.2⟩
      rw [← o2.2.1.1]
      exact (List.getElem?_eq_some_iff.mp v2).1
    · exact hh
/-- a node: place, locals, stack, cells that are told -/
abbrev nN : Type := Nat × List (Option sC) × List sC × List (Nat × Nat × sC)
def nSat (T : sHp) (pl : List Nat) (ρ : List Nat) (A : nN) (κ : kSt) : Prop := κ.1 = A.1 ∧ nLr ρ A.2.1 κ.2.1 ∧ nAr ρ A.2.2.1 κ.2.2.1 ∧ kTy T pl κ.2.2.2 ∧ nCs ρ κ.2.2.2 A.2.2.2
noncomputable def nCe (G : sG) (a : vAV) (c : sC) : Bool := match c with
  | .inl b => sVeq (sSimp G a) b || sCle G (.inl a) (.inl b)
  | .inr S => sCle G (.inl a) (.inr S)
theorem nCe_ok {ρ : List Nat} {G : sG} {a v : vAV} {c : sC} (hG : sGr ρ G) (ha : sV ρ a v) (h : nCe G a c = true) : sCr ρ c v := by
  rcases c with b | S
  · have h : (sVeq (sSimp G a) b || sCle G (.inl a) (.inl b)) = true := h
    rcases Bool.or_eq_true_iff.mp h with h | h
    · have e := sVeq_ok h
      have h1 := sSimp_ok hG ha
      rw [e] at h1
      exact h1
    · exact sCle_ok (c := .inl a) hG ha h
  · exact sCle_ok (c := .inl a) hG ha h
noncomputable def nLe (G : sG) : List (Option sC) → vLs → Bool
  | [], [] => true
  | none :: cs, _ :: as => nLe G cs as
  | some c :: cs, some a :: as => nCe G a c && nLe G cs as
  | _, _ => false
theorem nLe_ok {ρ : List Nat} {G : sG} (hG : sGr ρ G) : ∀ {cs : List (Option sC)} {as vs : vLs}, nLe G cs as = true → sLr ρ as vs → nLr ρ cs vs
  | [], [], [], _, _ => trivial
  | [], [], _ :: _, _, h => h.elim
  | [], _ :: _, _, h, _ => by cases h
  | none :: _, [], _, h, _ => by cases h
  | some _ :: _, [], _, h, _ => by cases h
  | some _ :: _, none :: _, _, h, _ => by cases h
  | none :: cs, a :: as, [], _, h => h.elim
  | none :: cs, a :: as, v :: vs, h, ht => ⟨fun c hc => (by cases hc), nLe_ok hG h ht.2⟩
  | some c :: cs, some a :: as, [], _, h => h.elim
  | some c :: cs, some a :: as, v :: vs, h, ht => by
    unfold nLe at h
    rw [Bool.and_eq_true] at h
    refine ⟨fun c' hc => ?_, nLe_ok hG h.2 ht.2⟩
    cases hc
    obtain ⟨y, y1, y2⟩ := ht.1 _ rfl
    exact ⟨y, y1, nCe_ok hG y2 h.1⟩
noncomputable def nAe (G : sG) : List sC → List vAV → Bool
  | [], [] => true
  | c :: cs, a :: as => nCe G a c && nAe G cs as
  | _, _ => false
theorem nAe_ok {ρ : List Nat} {G : sG} (hG : sGr ρ G) : ∀ {cs : List sC} {as vs : List vAV}, nAe G cs as = true → sTr ρ as vs → nAr ρ cs vs
  | [], [], [], _, _ => trivial
  | [], [], _ :: _, _, h => h.elim
  | [], _ :: _, _, h, _ => by cases h
  | _ :: _, [], _, h, _ => by cases h
  | c :: cs, a :: as, [], _, h => h.elim
  | c :: cs, a :: as, v :: vs, h, ht => by
    unfold nAe at h
    rw [Bool.and_eq_true] at h
    exact ⟨nCe_ok hG ht.1 h.1, nAe_ok hG h.2 ht.2⟩
noncomputable def nCd (G : sG) (c cB : sC) : Bool := match cB with
  | .inr S => sCle G c (.inr S)
  | .inl b => (match c with
    | .inl a => sVeq (sSimp G a) b
    | .inr S => (match b with
      | .inl u => Nat.blt u 4294967296 && sSub S [(sBi u, sBi u)]
      | _ => false))
theorem nCd_ok {ρ : List Nat} {G : sG} {c cB : sC} {v : vAV} (hG : sGr ρ G) (hc : sCr ρ c v) (h : nCd G c cB = true) : sCr ρ cB v := by
  rcases cB with b | S
  · rcases c with a | S
    · have h1 := sSimp_ok hG hc
      have e := sVeq_ok h
      rw [e] at h1
      exact h1
    · obtain ⟨w, w1, w2, w3⟩ := hc
      rcases b with u | b
      · have h : (Nat.blt u 4294967296 && sSub S [(sBi u, sBi u)]) = true := h
        rw [Bool.and_eq_true] at h
        obtain ⟨p, p1, p2, p3⟩ := sSub_ok _ _ _ h.2 w2
        rw [List.mem_singleton] at p1
        rw [p1] at p2 p3
        have e : sBi w = sBi u := Nat.le_antisymm p3 p2
        rw [w3]
        exact ⟨Nat.blt_eq.mp h.1, congrArg Sum.inl (sBi_inj w1 (Nat.blt_eq.mp h.1) e)⟩
      · cases (show false = true from h)
  · exact sCle_ok hG hc h
noncomputable def nCc (G : sG) (h : sHp) (c : Nat × Nat × sC) : Bool := match sGo h c.1 with
  | some o => (match sRd o.2.1 c.2.1 with
    | some a => nCd G a c.2.2
    | none => false)
  | none => false
theorem nCc_ok {ρ : List Nat} {G : sG} {h : sHp} {hp : List vOb} {c : Nat × Nat × sC} (hG : sGr ρ G) (hh : sHr ρ h hp) (hc : nCc G h c = true) : ∃ v, hC hp c.1 c.2.1 v ∧ sCr ρ c.2.2 v := by
  unfold nCc at hc
  split at hc
  · next o ho =>
    obtain ⟨ob, o1, o2⟩ := sHr_get hh ho
    split at hc
    · next a ha =>
      have hl : c.2.1 < ob.2.length := by rw [o2.2.1.1]; exact sRd_lt ha
      exact ⟨_, ⟨ob, o1, List.getElem?_eq_getElem hl⟩, nCd_ok hG (o2.2.1.2 _ _ _ ha (List.getElem?_eq_getElem hl)) hc⟩
    · cases hc
  · cases hc
noncomputable def nEnd (T : sHp) (pl : List Nat) (σ : sSt) (B : nN) : Bool := Nat.beq σ.1 B.1 && (nLe σ.2.2.2.2 B.2.1 σ.2.1 && (nAe σ.2.2.2.2 B.2.2.1 σ.2.2.1 && (B.2.2.2.all (nCc σ.2.2.2.2 σ.2.2.2.1) && sTlc σ.2.2.2.2 T σ.2.2.2.1 pl)))
noncomputable def nChk (M : vMt) (T : sHp) (pl : List Nat) (G0 : sG) (scal : sCal) (md : sMd) (stops : List Nat) (fuel : Nat) (A : nN) (Bs : List nN) : Bool := match sTp T pl with
  | some h0 => (match sRunL scal md M.2.2.2.2.1 (fun σ => sStop σ.1 stops) fuel (A.1, (nIl A.2.1 G0).1, (nIs A.2.2.1 (nIl A.2.1 G0).2).1, tOv h0 A.2.2.2, (nIs A.2.2.1 (nIl A.2.1 G0).2).2) with
    | some L => L.all (fun σ => Bs.any (nEnd T pl σ))
    | none => false)
  | none => false
theorem n_ok {vms : List vMt} {df : List (List vAV)} {d : Nat} {M : vMt} {T : sHp} {pl : List Nat} {G0 : sG} {scal : sCal} {md : sMd} {stops : List Nat} {fuel : Nat} {A : nN} {Bs : List nN} (hs : ∀ hp0, sCalOK vms df d md hp0 scal) (h : nChk M T pl G0 scal md stops fuel A Bs = true) {ρ : List Nat} (hG : sGr ρ G0) {κ : kSt} (hA : nSat T pl ρ A κ) :
    ∃ κ' B xs, B ∈ Bs ∧ kRe vms df d M.2.2.2.2.1 0 0 κ κ' ∧ sFr md κ.2.2.2 κ'.2.2.2 ∧ nSat T pl (ρ ++ xs) B κ' := by
  obtain ⟨pc, kl, ks, hp⟩ := κ
  obtain ⟨a1, a2, a3, a4, a5⟩ := hA
  dsimp only at a1 a2 a3 a4 a5
  subst a1
  unfold nChk at h
  split at h
  · next h0 hh0 =>
    split at h
    · next L hL =>
      obtain ⟨xs, g1, g2⟩ := nIl_ok a2 hG
      obtain ⟨ys, g3, g4⟩ := nIs_ok (nAr_app xs a3) g1
      have hh : sHr (ρ ++ xs ++ ys) (tOv h0 A.2.2.2) hp := tOv_ok (sHr_nil (sTp_ok hh0 a4)) (fun c hc => by
        obtain ⟨v, v1, v2⟩ := a5 c hc
        exact ⟨v, v1, sCr_app ys (sCr_app xs v2)⟩)
      obtain ⟨σ', s1, zs, kl', ks', hp', s2, s3, -⟩ := sRunL_ok (mc := 0) (ms := 0) (hs hp) fuel _ L hL (ρ ++ xs ++ ys) kl ks hp ⟨sLr_app ys g2, g4, hh, g3, sFr.rf _ _⟩
      have hall := List.all_eq_true.mp h σ' s1
      obtain ⟨B, b1, b2⟩ := List.any_eq_true.mp hall
      unfold nEnd at b2
      rw [Bool.and_eq_true, Bool.and_eq_true, Bool.and_eq_true, Bool.and_eq_true] at b2
      obtain ⟨c1, c2, c3, c4, c5⟩ := b2
      refine ⟨(σ'.1, kl', ks', hp'), B, xs ++ ys ++ zs, b1, s2, s3.2.2.2.2, ?_⟩
      have e : ρ ++ (xs ++ ys ++ zs) = ρ ++ xs ++ ys ++ zs := by rw [List.append_assoc, List.append_assoc, List.append_assoc]
      rw [e]
      exact ⟨Nat.eq_of_beq_eq_true c1, nLe_ok s3.2.2.2.1 c2 s3.1, nAe_ok s3.2.2.2.1 c3 s3.2.1, sTlc_ok s3.2.2.2.1 s3.2.2.1 c5, fun c hc => nCc_ok s3.2.2.2.1 s3.2.2.1 (List.all_eq_true.mp c4 c hc)⟩
    · cases h
  · cases h
/-- a call by hand: the receiver last, nothing below it -/
theorem n_call {vms : List vMt} {df : List (List vAV)} {d : Nat} {tbl : vTbl} {pc len a b t : Nat} {i : Instr} {kl : vLs} {ks kas : List vAV} {rv : vAV} {hp hp' : List vOb} {r : Option vAV} (hg : vGet tbl pc = some (i, len, a, b, t)) (hi : ∃ x, i = .invokevirtual x) (htk : vTk b [] ks = some (kas, [rv])) (hrc : vRc t rv hp = true) (hc : ∃ N, ∀ fuel, N ≤ fuel → vCalD vms df fuel d a (rv :: kas) hp = some (r, hp', 0, 0)) : kRe vms df d tbl 0 0 (pc, kl, ks, hp) (pc + 3, kl, r.toList, hp') := by
  obtain ⟨N, hc⟩ := hc
  obtain ⟨x, rfl⟩ := hi
  refine kRe_call hg rfl rfl ⟨N, fun fuel hfu => ?_⟩
  unfold vInv
  simp only [htk, hrc, hc fuel hfu, vCs, Bool.true_and, List.append_nil]
  rfl
/-- the method ends -/
def kEnd (vms : List vMt) (df : List (List vAV)) (d : Nat) (M : vMt) (κ : kSt) (P : Option vAV → List vOb → Prop) : Prop := ∃ κ', kRe vms df d M.2.2.2.2.1 0 0 κ κ' ∧ ∃ i len a b t kr, vGet M.2.2.2.2.1 κ'.1 = some (i, len, a, b, t) ∧ sFin i = true ∧ vRet M.2.2.2.1 i κ'.2.2.1 = some kr ∧ P kr κ'.2.2.2
theorem kEnd.of {vms : List vMt} {df : List (List vAV)} {d : Nat} {M : vMt} {κ κ1 : kSt} {P : Option vAV → List vOb → Prop} (h1 : kRe vms df d M.2.2.2.2.1 0 0 κ κ1) (h2 : kEnd vms df d M κ1 P) : kEnd vms df d M κ P := by
  obtain ⟨κ', h3, h4⟩ := h2
  exact ⟨κ', h1.tr h3, h4⟩
theorem kEnd_cal {vms : List vMt} {df : List (List vAV)} {d j : Nat} {M : vMt} {kav : List vAV} {hp : List vOb} {P : Option vAV → List vOb → Prop} (hM : vms[j]? = some M) (hl : (vArgs kav).length ≤ M.2.2.1) (hc : (mRm M).cells = 0) (hs : (mRm M).slots = 0) (h : kEnd vms df d M (0, vEnt kav M.2.2.1, [], hp) P) : ∃ r hp', (∃ N, ∀ fuel, N ≤ fuel → vCalD vms df fuel (d + 1) j kav hp = some (r, hp', 0, 0)) ∧ P r hp' := by
  obtain ⟨κ', h1, i, len, a, b, t, kr, h2, h3, h4, h5⟩ := h
  exact ⟨kr, _, kCal_of hM hl hc hs h1 h2 h3 h4, h5⟩
/-! ===== nodes without symbols; the end of a method ===== -/
def nVc (a : vAV) : Bool := match a with
  | .inr (.inl _) => false
  | _ => true
theorem nVc_ok {a v : vAV} {ρ ρ' : List Nat} (h : nVc a = true) (hv : sV ρ a v) : sV ρ' a v := by
  rcases a with u | q | w | o | z
  · exact hv
  · cases h
  · exact hv
  · exact hv
  · unfold sV at hv ⊢
    split
    · next heq => cases heq
    · next heq => cases heq
    · next heq => cases heq
    · next heq => cases heq
    · next heq =>
      cases heq
      exact hv
    · next z' hz heq =>
      cases heq
      split at hv
      · next heq => cases heq
      · next heq => cases heq
      · next heq => cases heq
      · next heq => cases heq
      · next heq =>
        cases heq
        exact absurd rfl hz
      · next heq =>
        cases heq
        exact hv
def sCl (c : sC) : Bool := match c with
  | .inl a => nVc a
  | .inr _ => true
theorem sCl_ok {c : sC} {v : vAV} {ρ ρ' : List Nat} (h : sCl c = true) (hv : sCr ρ c v) : sCr ρ' c v := by
  rcases c with a | S
  · exact nVc_ok h hv
  · exact hv
def lCl : List (Option sC) → Bool
  | [] => true
  | none :: cs => lCl cs
  | some c :: cs => sCl c && lCl cs
theorem lCl_ok {ρ ρ' : List Nat} : ∀ {cs : List (Option sC)} {vs : vLs}, lCl cs = true → nLr ρ cs vs → nLr ρ' cs vs
  | [], [], _, _ => trivial
  | [], _ :: _, _, h => h.elim
  | _ :: _, [], _, h => h.elim
  | none :: cs, v :: vs, hc, h => ⟨fun c hc => (by cases hc), lCl_ok (cs := cs) hc h.2⟩
  | some c :: cs, v :: vs, hc, h => by
    unfold lCl at hc
    rw [Bool.and_eq_true] at hc
    refine ⟨fun c' hc' => ?_, lCl_ok hc.2 h.2⟩
    cases hc'
    obtain ⟨y, y1, y2⟩ := h.1 _ rfl
    exact ⟨y, y1, sCl_ok hc.1 y2⟩
theorem aCl_ok {ρ ρ' : List Nat} : ∀ {cs : List sC} {vs : List vAV}, cs.all sCl = true → nAr ρ cs vs → nAr ρ' cs vs
  | [], [], _, _ => trivial
  | [], _ :: _, _, h => h.elim
  | _ :: _, [], _, h => h.elim
  | c :: cs, v :: vs, hc, h => by
    rw [List.all_cons, Bool.and_eq_true] at hc
    exact ⟨sCl_ok hc.1 h.1, aCl_ok hc.2 h.2⟩
def nCl (B : nN) : Bool := lCl B.2.1 && (B.2.2.1.all sCl && B.2.2.2.all (fun c => sCl c.2.2))
theorem nCl_ok {T : sHp} {pl ρ ρ' : List Nat} {B : nN} {κ : kSt} (h : nCl B = true) (hB : nSat T pl ρ B κ) : nSat T pl ρ' B κ := by
  unfold nCl at h
  rw [Bool.and_eq_true, Bool.and_eq_true] at h
  obtain ⟨b1, b2, b3, b4, b5⟩ := hB
  refine ⟨b1, lCl_ok h.1 b2, aCl_ok h.2.1 b3, b4, fun c hc => ?_⟩
  obtain ⟨v, v1, v2⟩ := b5 c hc
  exact ⟨v, v1, sCl_ok (List.all_eq_true.mp h.2.2 c hc) v2⟩
theorem sG0 : sGr [] (0, [], []) := ⟨rfl, fun e he => (by cases he), fun t ht => (by cases ht)⟩
noncomputable def nChk0 (M : vMt) (T : sHp) (pl : List Nat) (scal : sCal) (md : sMd) (stops : List Nat) (fuel : Nat) (A : nN) (Bs : List nN) : Bool := nChk M T pl (0, [], []) scal md stops fuel A Bs && Bs.all nCl
theorem n_ok0 {vms : List vMt} {df : List (List vAV)} {d : Nat} {M : vMt} {T : sHp} {pl : List Nat} {scal : sCal} {md : sMd} {stops : List Nat} {fuel : Nat} {A : nN} {Bs : List nN} (hs : ∀ hp0, sCalOK vms df d md hp0 scal) (h : nChk0 M T pl scal md stops fuel A Bs = true) {κ : kSt} (hA : nSat T pl [] A κ) :
    ∃ κ' B, B ∈ Bs ∧ kRe vms df d M.2.2.2.2.1 0 0 κ κ' ∧ sFr md κ.2.2.2 κ'.2.2.2 ∧ nSat T pl [] B κ' := by
  unfold nChk0 at h
  rw [Bool.and_eq_true] at h
  obtain ⟨κ', B, xs, b1, b2, b3, b4⟩ := n_ok hs h.1 sG0 hA
  exact ⟨κ', B, b1, b2, b3, nCl_ok (List.all_eq_true.mp h.2 B b1) b4⟩
/-- one end alone -/
theorem n_one {vms : List vMt} {df : List (List vAV)} {d : Nat} {M : vMt} {T : sHp} {pl : List Nat} {scal : sCal} {md : sMd} {stops : List Nat} {fuel : Nat} {A B : nN} (hs : ∀ hp0, sCalOK vms df d md hp0 scal) (h : nChk0 M T pl scal md stops fuel A [B] = true) {κ : kSt} (hA : nSat T pl [] A κ) :
    ∃ κ', kRe vms df d M.2.2.2.2.1 0 0 κ κ' ∧ sFr md κ.2.2.2 κ'.2.2.2 ∧ nSat T pl [] B κ' := by
  obtain ⟨κ', B', b1, b2, b3, b4⟩ := n_ok0 hs h hA
  rw [List.mem_singleton] at b1
  subst b1
  exact ⟨κ', b2, b3, b4⟩
noncomputable def nRet (M : vMt) (B : nN) (rt : Option sC) : Bool := match vGet M.2.2.2.2.1 B.1 with
  | some x => sFin x.1 && (match sRetV M.2.2.2.1 x.1 (nIs B.2.2.1 (0, [], [])).1 (nIs B.2.2.1 (0, [], [])).2 with
    | some r => sRtB (nIs B.2.2.1 (0, [], [])).2 r rt
    | none => false)
  | none => false
theorem n_ret {vms : List vMt} {df : List (List vAV)} {d : Nat} {M : vMt} {T : sHp} {pl : List Nat} {B : nN} {rt : Option sC} {κ : kSt} {P : Option vAV → List vOb → Prop} (h : nRet M B rt = true) (hB : nSat T pl [] B κ) (hP : ∀ kr, sRtC rt kr → P kr κ.2.2.2) : kEnd vms df d M κ P := by
  obtain ⟨b1, b2, b3, b4, b5⟩ := hB
  unfold nRet at h
  split at h
  · next x hx =>
    obtain ⟨i, len, a, b, t⟩ := x
    rw [Bool.and_eq_true] at h
    have h2 := h.2
    obtain ⟨xs, g1, g2⟩ := nIs_ok b3 sG0
    split at h2
    · next r hr =>
      obtain ⟨kr, r1, r2⟩ := sRetV_ok g1 g2 hr
      rw [← b1] at hx
      exact ⟨κ, kRe.rf _, i, len, a, b, t, kr, hx, h.1, r1, hP kr (sRtB_ok g1 h2 r2)⟩
    · cases h2
  · cases h
theorem nSat_cell {T : sHp} {pl ρ : List Nat} {B : nN} {κ : kSt} (hB : nSat T pl ρ B κ) {k i n : Nat} (hm : (k, i, (.inl (.inl n) : sC)) ∈ B.2.2.2) : hC κ.2.2.2 k i (.inl n) := by
  obtain ⟨v, v1, v2⟩ := hB.2.2.2.2 _ hm
  rw [v2.2] at v1
  exact v1
theorem kTy_sub {T : sHp} {pl pl' : List Nat} {hp : List vOb} (h : ∀ k ∈ pl', k ∈ pl) (ht : kTy T pl hp) : kTy T pl' hp := fun k hk => ht k (h k hk)
