/-! ===== the end of read() of the class; town() of the class ===== -/
theorem hM_rd : vms[56]? = some m_X10_read := by rw [← vNth_eq]; rfl
theorem hM_xt : vms[60]? = some m_X11_town := by rw [← vNth_eq]; rfl
set_option maxRecDepth 1000000 in
theorem iv_fc : eIsV vt_X10_read 40 38 0 9 = true := by decide +kernel
set_option maxRecDepth 1000000 in
theorem iv_rd : eIsV vt_X11_town 19 56 2 10 = true := by decide +kernel
set_option maxRecDepth 1000000 in
theorem iv_bg : eIsV vt_X11_town 63 57 1 8 = true := by decide +kernel
/-- the TOWN that a text told, in the class -/
def CT (t : Nat) (hp : List vOb) (s q p r hm fx : Nat) (TK BR ST : Nat → Nat) : Prop := hC hp t 0 (.inl s) ∧ hC hp t 1 (.inl q) ∧ hC hp t 2 (.inl r) ∧ hC hp t 3 (.inl p) ∧ hC hp t 4 (.inl hm) ∧ hC hp t 5 (.inl fx) ∧ (∀ i, i < 6 → hC hp (t + 1) i (.inl (TK i))) ∧ (∀ i, i < 5 → hC hp (t + 5) i (.inl (BR i))) ∧ (∀ i, i < r → hC hp (t + 3) i (.inl (ST i)))
/-- in the reference -/
def MT (b : Nat) (k : Nat) (hp : List vOb) (s q p r hm fx : Nat) (TK BR ST : Nat → Nat) : Prop := hC hp k b (.inl s) ∧ hC hp k (b + 1) (.inl q) ∧ hC hp k (b + 2) (.inl r) ∧ hC hp k (b + 3) (.inl p) ∧ hC hp k (b + 4) (.inl hm) ∧ hC hp k (b + 5) (.inl fx) ∧ (∀ i, i < 6 → hC hp k (b + 6 + i) (.inl (TK i))) ∧ (∀ i, i < 5 → hC hp k (b + 27 + i) (.inl (BR i))) ∧ (∀ i, i < 5 → hC hp k (b + 17 + i) (.inl (ST i)))
def TB (s q p r hm fx : Nat) (TK BR ST : Nat → Nat) : Prop := s ≤ 6 ∧ q ≤ 5 ∧ p ≤ 8 ∧ r ≤ 5 ∧ hm ≤ 12 ∧ fx < 64 ∧ (∀ i, TK i < 64) ∧ (∀ i, BR i < 64) ∧ SB r ST
theorem CT_fr {t : Nat} {md : sMd} {hp hp' : List vOb} {s q p r hm fx : Nat} {TK BR ST : Nat → Nat} (hf : sFr md hp hp') (hm' : ∀ k i, (k = t ∧ i ≤ 5) ∨ k = t + 1 ∨ k = t + 3 ∨ k = t + 5 → ¬ sMin md k i) (h : CT t hp s q p r hm fx TK BR ST) : CT t hp' s q p r hm fx TK BR ST := by
  obtain ⟨h0, h1, h2, h3, h4, h5, h6, h7, h8⟩ := h
  exact ⟨hC_fr hf (hm' _ _ (Or.inl ⟨rfl, by omega⟩)) h0, hC_fr hf (hm' _ _ (Or.inl ⟨rfl, by omega⟩)) h1, hC_fr hf (hm' _ _ (Or.inl ⟨rfl, by omega⟩)) h2, hC_fr hf (hm' _ _ (Or.inl ⟨rfl, by omega⟩)) h3, hC_fr hf (hm' _ _ (Or.inl ⟨rfl, by omega⟩)) h4, hC_fr hf (hm' _ _ (Or.inl ⟨rfl, by omega⟩)) h5, fun i hi => hC_fr hf (hm' _ _ (Or.inr (Or.inl rfl))) (h6 i hi), fun i hi => hC_fr hf (hm' _ _ (Or.inr (Or.inr (Or.inr rfl)))) (h7 i hi), fun i hi => hC_fr hf (hm' _ _ (Or.inr (Or.inr (Or.inl rfl)))) (h8 i hi)⟩
set_option maxRecDepth 1000000 in
theorem rdA4_k : eQ (eRun shc4 (eCalI eNo vms shc4 300 8) vt_X10_read [40] 1 [] (39, [some (.inr (.inr (some 30))), some (.inr (.inr (some 1))), some (.inr (.inr (some 4))), some (.inl [(1, 9)])], [], [], [])) (40, [some (.inr (.inr (some 30))), some (.inr (.inr (some 1))), some (.inr (.inr (some 4))), some (.inl [(1, 9)])], [.inr (.inr (some 4))], [], []) [] [] = true := by decide +kernel
set_option maxRecDepth 1000000 in
theorem rdB4_k : eQ (eRun shc4 (eCalI eNo vms shc4 300 8) vt_X10_read [44] 1 [] (43, [some (.inr (.inr (some 30))), some (.inr (.inr (some 1))), some (.inr (.inr (some 4))), some (.inl [(1, 9)])], [], [], [])) (44, [some (.inr (.inr (some 30))), some (.inr (.inr (some 1))), some (.inr (.inr (some 4))), some (.inl [(1, 9)])], [.inl [(1, 9)]], [], []) [] [] = true := by decide +kernel
set_option maxRecDepth 100000 in
theorem rdW4 : (eWl [some (.inr (.inr (some 30))), some (.inr (.inr (some 1))), some (.inr (.inr (some 4))), some (.inl [(1, 9)])] && (([] : List eV).all eWv && eWd [])) = true := by decide +kernel
theorem fcT4 {hp : List vOb} {τ K R : Nat → Nat} {z m : Nat} {ρ : Nat → Nat → Nat} {ht : Nat} {N DC NM TK BR ST : Nat → Nat} (hP : PV ρ τ K R z m N DC NM TK BR ST) (hM : CM 4 cH4 shc4 hp τ K z m ρ ht N DC TK BR ST) : kTy hT [4, 5, 11, 14] hp := by
  obtain ⟨b1, b2, b3, b4, b10, b9, b11, b12, b13⟩ := PV_b hP
  obtain ⟨-, -, -, ⟨b5, b6, -, -, -⟩, hTK, -⟩ := hP
  have hsh : ∀ e, e ∈ shc4 → ∃ ob, hp[e.1]? = some ob ∧ ob.1 = e.2.1 ∧ ob.2.length = e.2.2 := hM.1
  have k0 : kTy hT [4] hp := kTy_row1 (n := 19) (oT := (72, [(1, .inr [(2147483648, 2147483654)]), (2, .inr [(2147483648, 2147483653)]), (1, .inr [(2147483648, 2147483656)]), (1, .inr [(2147483648, 2147483660)]), (1, .inr [(2147483648, 2147483711)]), (1, .inl (.inr (.inr (.inr (.inl (some 5)))))), (1, .inl (.inr (.inr (.inr (.inl (some 6)))))), (1, .inl (.inr (.inr (.inr (.inl (some 7)))))), (1, .inl (.inr (.inr (.inr (.inl (some 8)))))), (1, .inl (.inr (.inr (.inr (.inl (some 9)))))), (1, .inl (.inr (.inr (.inr (.inl (some 10)))))), (1, .inl (.inr (.inr (.inr (.inl (some 11)))))), (1, .inl (.inr (.inr (.inr (.inl (some 12)))))), (1, .inl (.inr (.inr (.inr (.inl (some 13)))))), (1, .inl (.inr (.inr (.inr (.inl (some 14)))))), (1, .inl (.inr (.inr (.inr (.inl (some 15)))))), (1, .inl (.inr (.inr (.inr (.inl (some 16)))))), (1, .inr [(2147483648, 2147483672)])], [])) rfl rfl (hsh (4, 72, 19) (by decide)) rfl (fun i hi => by
    match i, hi with
    | 0, _ => exact ⟨_, _, rfl, eDt_at (x := [(0, 0)]) (y := .inl [(1, 1)]) (g := []) hM.2.2.1 (by decide) (fun q hq => by cases hq) (eR_val (eR_c ρ 0)) (eCv_i (eR_s rfl)), sCr_n (by omega) (by omega)⟩
    | 1, _ => exact ⟨_, _, rfl, eDt_at (x := [(0, 1)]) (y := .inl [(1, 2)]) (g := []) hM.2.2.1 (by decide) (fun q hq => by cases hq) (eR_val (eR_c ρ 1)) (eCv_i (eR_s rfl)), sCr_n (by omega) (by omega)⟩
    | 2, _ => exact ⟨_, _, rfl, eDt_at (x := [(0, 2)]) (y := .inl [(1, 4)]) (g := []) hM.2.2.1 (by decide) (fun q hq => by cases hq) (eR_val (eR_c ρ 2)) (eCv_i (eR_s rfl)), sCr_n (by omega) (by omega)⟩
    | 3, _ => exact ⟨_, _, rfl, eDt_at (x := [(0, 3)]) (y := .inl [(1, 3)]) (g := []) hM.2.2.1 (by decide) (fun q hq => by cases hq) (eR_val (eR_c ρ 3)) (eCv_i (eR_s rfl)), sCr_n (by omega) (by omega)⟩
    | 4, _ => exact ⟨_, _, rfl, eDt_at (x := [(0, 4)]) (y := .inl [(1, 5)]) (g := []) hM.2.2.1 (by decide) (fun q hq => by cases hq) (eR_val (eR_c ρ 4)) (eCv_i (eR_s rfl)), sCr_n (by omega) (by omega)⟩
    | 5, _ => exact ⟨_, _, rfl, eDt_at (x := [(0, 5)]) (y := .inl [(1, 6)]) (g := []) hM.2.2.1 (by decide) (fun q hq => by cases hq) (eR_val (eR_c ρ 5)) (eCv_i (eR_s rfl)), sCr_n (by omega) (by omega)⟩
    | 6, _ => exact ⟨_, _, rfl, eDt_at (x := [(0, 6)]) (y := .inr (.inr (some 5))) (g := []) hM.2.2.1 (by decide) (fun q hq => by cases hq) (eR_val (eR_c ρ 6)) rfl, rfl⟩
    | 7, _ => exact ⟨_, _, rfl, eDt_at (x := [(0, 7)]) (y := .inr (.inr (some 6))) (g := []) hM.2.2.1 (by decide) (fun q hq => by cases hq) (eR_val (eR_c ρ 7)) rfl, rfl⟩
    | 8, _ => exact ⟨_, _, rfl, eDt_at (x := [(0, 8)]) (y := .inr (.inr (some 7))) (g := []) hM.2.2.1 (by decide) (fun q hq => by cases hq) (eR_val (eR_c ρ 8)) rfl, rfl⟩
    | 9, _ => exact ⟨_, _, rfl, eDt_at (x := [(0, 9)]) (y := .inr (.inr (some 8))) (g := []) hM.2.2.1 (by decide) (fun q hq => by cases hq) (eR_val (eR_c ρ 9)) rfl, rfl⟩
    | 10, _ => exact ⟨_, _, rfl, eDt_at (x := [(0, 10)]) (y := .inr (.inr (some 9))) (g := []) hM.2.2.1 (by decide) (fun q hq => by cases hq) (eR_val (eR_c ρ 10)) rfl, rfl⟩
    | 11, _ => exact ⟨_, _, rfl, eDt_at (x := [(0, 11)]) (y := .inr (.inr (some 10))) (g := []) hM.2.2.1 (by decide) (fun q hq => by cases hq) (eR_val (eR_c ρ 11)) rfl, rfl⟩
    | 12, _ => exact ⟨_, _, rfl, eDt_at (x := [(0, 12)]) (y := .inr (.inr (some 11))) (g := []) hM.2.2.1 (by decide) (fun q hq => by cases hq) (eR_val (eR_c ρ 12)) rfl, rfl⟩
    | 13, _ => exact ⟨_, _, rfl, eDt_at (x := [(0, 13)]) (y := .inr (.inr (some 12))) (g := []) hM.2.2.1 (by decide) (fun q hq => by cases hq) (eR_val (eR_c ρ 13)) rfl, rfl⟩
    | 14, _ => exact ⟨_, _, rfl, eDt_at (x := [(0, 14)]) (y := .inr (.inr (some 13))) (g := []) hM.2.2.1 (by decide) (fun q hq => by cases hq) (eR_val (eR_c ρ 14)) rfl, rfl⟩
    | 15, _ => exact ⟨_, _, rfl, eDt_at (x := [(0, 15)]) (y := .inr (.inr (some 14))) (g := []) hM.2.2.1 (by decide) (fun q hq => by cases hq) (eR_val (eR_c ρ 15)) rfl, rfl⟩
    | 16, _ => exact ⟨_, _, rfl, eDt_at (x := [(0, 16)]) (y := .inr (.inr (some 15))) (g := []) hM.2.2.1 (by decide) (fun q hq => by cases hq) (eR_val (eR_c ρ 16)) rfl, rfl⟩
    | 17, _ => exact ⟨_, _, rfl, eDt_at (x := [(0, 17)]) (y := .inr (.inr (some 16))) (g := []) hM.2.2.1 (by decide) (fun q hq => by cases hq) (eR_val (eR_c ρ 17)) rfl, rfl⟩
    | 18, _ => exact ⟨_, _, rfl, eDt_at (x := [(0, 18)]) (y := .inl [(1, 10)]) (g := []) hM.2.2.1 (by decide) (fun q hq => by cases hq) (eR_val (eR_c ρ 18)) (eCv_i (eR_s rfl)), sCr_n (by omega) (by omega)⟩
    | i + 19, hi => omega)
  have k1 : kTy hT [5] hp := kTy_ints (b := 63) (n := 6) (hi := 2147483711) rfl (hsh (5, 1, 6) (by decide)) (by omega) (by omega) (fun i hi => ⟨_, by have := hTK i; omega, hM.2.2.2.2.1 i hi⟩)
  have k7 : kTy hT [11] hp := kTy_ints (b := 5) (n := 8) (hi := 2147483653) rfl (hsh (11, 1, 8) (by decide)) (by omega) (by omega) hM.2.2.2.2.2.2.2.2.2.2.1
  have k10 : kTy hT [14] hp := kTy_ints (b := 255) (n := 8) (hi := 2147483903) rfl (hsh (14, 1, 8) (by decide)) (by omega) (by omega) hM.2.2.2.2.2.2.2.2.2.2.2.2
  exact kTy_app (pl1 := [4]) k0 (kTy_app (pl1 := [5]) k1 (kTy_app (pl1 := [11]) k7 k10))
theorem rdE4 {d : Nat} (hd : 20 ≤ d) {hp : List vOb} {kl : vLs} {τ K R : Nat → Nat} {z m : Nat} {ρ : Nat → Nat → Nat} {ht : Nat} {N DC NM TK BR ST : Nat → Nat} (hP : PV ρ τ K R z m N DC NM TK BR ST) (hM : CM 4 cH4 shc4 hp τ K z m ρ ht N DC TK BR ST) (hl : eLm ρ (LSC 4) kl) : ∃ kl' hp', kRe vms vdf d vt_X10_read 0 0 (39, kl, [], hp) (44, kl', [.inl (ρ 0 9)], hp') ∧ sFr [(14, 0, 7)] hp hp' := by
  obtain ⟨kl1, hp1, k1, k2, k3, k4⟩ := e_go (vms := vms) (df := vdf) (d := d) (ρ := ρ) (by omega) rdA4_k rdW4 hM.1 all_nil hl eDt_nil
  have k4 : sFr [] hp hp1 := k4
  have hty : kTy hT [4, 5, 11, 14] hp1 := fun k hk => by
    obtain ⟨oT, ob, q1, q2, q3⟩ := fcT4 hP hM k hk
    obtain ⟨o', w1, w2, w3, w4⟩ := k4.2 _ _ q2
    have e : o' = ob := Prod.ext w2 (List.ext_getElem? (fun i => w4 i (fun ⟨m, m1, _⟩ => by cases m1)))
    exact ⟨oT, ob, q1, by rw [w1, e], q3⟩
  obtain ⟨r, hp2, c1, c2, c3, c4⟩ := cc_Town_findClashes_243_ok d (by omega) [.inr (.inr (.inr (.inl (some 4))))] hp1 ⟨rfl, trivial⟩ hty
  have hr : r = none := by
    match r, c2 with
    | none, _ => rfl
    | some _, c2 => exact c2.elim
  subst hr
  have hcall : kRe vms vdf d vt_X10_read 0 0 (40, kl1, [.inr (.inr (.inr (.inl (some 4))))], hp1) (43, kl1, [], hp2) := e_callv (kas := []) (rest := []) (r := none) iv_fc rfl rfl (vRc_sh (n := 19) (t := 9) (eSh_fr k4 hM.1) (by decide) rfl) c1
  obtain ⟨kl3, hp3, g1, g2, g3, g4⟩ := e_go (vms := vms) (df := vdf) (d := d) (ρ := ρ) (by omega) rdB4_k rdW4 (eSh_fr c3 (eSh_fr k4 hM.1)) all_nil k2 eDt_nil
  have g4 : sFr [] hp2 hp3 := g4
  have e3 : List.map (eCv ρ) [.inl [(1, 9)]] = [.inl (ρ 0 9)] := by
    rw [List.map_cons, eCv_i (eR_s (ρ := ρ) (j := 9) rfl)]
    rfl
  rw [e3] at g1
  exact ⟨kl3, hp3, (k1.tr hcall).tr g1, ((k4.mono (fun k i ⟨m, m1, _⟩ => by cases m1)).tr c3).tr (g4.mono (fun k i ⟨m, m1, _⟩ => by cases m1))⟩
theorem CM_CT4 {hp : List vOb} {τ K : Nat → Nat} {z m : Nat} {ρ : Nat → Nat → Nat} {ht : Nat} {N DC TK BR ST : Nat → Nat} (hM : CM 4 cH4 shc4 hp τ K z m ρ ht N DC TK BR ST) : CT 4 hp (ρ 0 1) (ρ 0 2) (ρ 0 3) (ρ 0 4) (ρ 0 5) (ρ 0 6) TK BR ST := ⟨eDt_at (x := [(0, 0)]) (y := .inl [(1, 1)]) (g := []) hM.2.2.1 (by decide) (fun q hq => by cases hq) (eR_val (eR_c ρ 0)) (eCv_i (eR_s rfl)), eDt_at (x := [(0, 1)]) (y := .inl [(1, 2)]) (g := []) hM.2.2.1 (by decide) (fun q hq => by cases hq) (eR_val (eR_c ρ 1)) (eCv_i (eR_s rfl)), eDt_at (x := [(0, 2)]) (y := .inl [(1, 4)]) (g := []) hM.2.2.1 (by decide) (fun q hq => by cases hq) (eR_val (eR_c ρ 2)) (eCv_i (eR_s rfl)), eDt_at (x := [(0, 3)]) (y := .inl [(1, 3)]) (g := []) hM.2.2.1 (by decide) (fun q hq => by cases hq) (eR_val (eR_c ρ 3)) (eCv_i (eR_s rfl)), eDt_at (x := [(0, 4)]) (y := .inl [(1, 5)]) (g := []) hM.2.2.1 (by decide) (fun q hq => by cases hq) (eR_val (eR_c ρ 4)) (eCv_i (eR_s rfl)), eDt_at (x := [(0, 5)]) (y := .inl [(1, 6)]) (g := []) hM.2.2.1 (by decide) (fun q hq => by cases hq) (eR_val (eR_c ρ 5)) (eCv_i (eR_s rfl)), hM.2.2.2.2.1, hM.2.2.2.2.2.1, hM.2.2.2.2.2.2.1⟩
set_option maxRecDepth 1000000 in
theorem rdA17_k : eQ (eRun shc17 (eCalI eNo vms shc17 300 8) vt_X10_read [40] 1 [] (39, [some (.inr (.inr (some 30))), some (.inr (.inr (some 1))), some (.inr (.inr (some 17))), some (.inl [(1, 9)])], [], [], [])) (40, [some (.inr (.inr (some 30))), some (.inr (.inr (some 1))), some (.inr (.inr (some 17))), some (.inl [(1, 9)])], [.inr (.inr (some 17))], [], []) [] [] = true := by decide +kernel
set_option maxRecDepth 1000000 in
theorem rdB17_k : eQ (eRun shc17 (eCalI eNo vms shc17 300 8) vt_X10_read [44] 1 [] (43, [some (.inr (.inr (some 30))), some (.inr (.inr (some 1))), some (.inr (.inr (some 17))), some (.inl [(1, 9)])], [], [], [])) (44, [some (.inr (.inr (some 30))), some (.inr (.inr (some 1))), some (.inr (.inr (some 17))), some (.inl [(1, 9)])], [.inl [(1, 9)]], [], []) [] [] = true := by decide +kernel
set_option maxRecDepth 100000 in
theorem rdW17 : (eWl [some (.inr (.inr (some 30))), some (.inr (.inr (some 1))), some (.inr (.inr (some 17))), some (.inl [(1, 9)])] && (([] : List eV).all eWv && eWd [])) = true := by decide +kernel
theorem fcT17 {hp : List vOb} {τ K R : Nat → Nat} {z m : Nat} {ρ : Nat → Nat → Nat} {ht : Nat} {N DC NM TK BR ST : Nat → Nat} (hP : PV ρ τ K R z m N DC NM TK BR ST) (hM : CM 17 cH17 shc17 hp τ K z m ρ ht N DC TK BR ST) : kTy hT [17, 18, 24, 27] hp := by
  obtain ⟨b1, b2, b3, b4, b10, b9, b11, b12, b13⟩ := PV_b hP
  obtain ⟨-, -, -, ⟨b5, b6, -, -, -⟩, hTK, -⟩ := hP
  have hsh : ∀ e, e ∈ shc17 → ∃ ob, hp[e.1]? = some ob ∧ ob.1 = e.2.1 ∧ ob.2.length = e.2.2 := hM.1
  have k0 : kTy hT [17] hp := kTy_row1 (n := 19) (oT := (72, [(1, .inr [(2147483648, 2147483654)]), (2, .inr [(2147483648, 2147483653)]), (1, .inr [(2147483648, 2147483656)]), (1, .inr [(2147483648, 2147483660)]), (1, .inr [(2147483648, 2147483711)]), (1, .inl (.inr (.inr (.inr (.inl (some 18)))))), (1, .inl (.inr (.inr (.inr (.inl (some 19)))))), (1, .inl (.inr (.inr (.inr (.inl (some 20)))))), (1, .inl (.inr (.inr (.inr (.inl (some 21)))))), (1, .inl (.inr (.inr (.inr (.inl (some 22)))))), (1, .inl (.inr (.inr (.inr (.inl (some 23)))))), (1, .inl (.inr (.inr (.inr (.inl (some 24)))))), (1, .inl (.inr (.inr (.inr (.inl (some 25)))))), (1, .inl (.inr (.inr (.inr (.inl (some 26)))))), (1, .inl (.inr (.inr (.inr (.inl (some 27)))))), (1, .inl (.inr (.inr (.inr (.inl (some 28)))))), (1, .inl (.inr (.inr (.inr (.inl (some 29)))))), (1, .inr [(2147483648, 2147483672)])], [])) rfl rfl (hsh (17, 72, 19) (by decide)) rfl (fun i hi => by
    match i, hi with
    | 0, _ => exact ⟨_, _, rfl, eDt_at (x := [(0, 0)]) (y := .inl [(1, 1)]) (g := []) hM.2.2.1 (by decide) (fun q hq => by cases hq) (eR_val (eR_c ρ 0)) (eCv_i (eR_s rfl)), sCr_n (by omega) (by omega)⟩
    | 1, _ => exact ⟨_, _, rfl, eDt_at (x := [(0, 1)]) (y := .inl [(1, 2)]) (g := []) hM.2.2.1 (by decide) (fun q hq => by cases hq) (eR_val (eR_c ρ 1)) (eCv_i (eR_s rfl)), sCr_n (by omega) (by omega)⟩
    | 2, _ => exact ⟨_, _, rfl, eDt_at (x := [(0, 2)]) (y := .inl [(1, 4)]) (g := []) hM.2.2.1 (by decide) (fun q hq => by cases hq) (eR_val (eR_c ρ 2)) (eCv_i (eR_s rfl)), sCr_n (by omega) (by omega)⟩
    | 3, _ => exact ⟨_, _, rfl, eDt_at (x := [(0, 3)]) (y := .inl [(1, 3)]) (g := []) hM.2.2.1 (by decide) (fun q hq => by cases hq) (eR_val (eR_c ρ 3)) (eCv_i (eR_s rfl)), sCr_n (by omega) (by omega)⟩
    | 4, _ => exact ⟨_, _, rfl, eDt_at (x := [(0, 4)]) (y := .inl [(1, 5)]) (g := []) hM.2.2.1 (by decide) (fun q hq => by cases hq) (eR_val (eR_c ρ 4)) (eCv_i (eR_s rfl)), sCr_n (by omega) (by omega)⟩
    | 5, _ => exact ⟨_, _, rfl, eDt_at (x := [(0, 5)]) (y := .inl [(1, 6)]) (g := []) hM.2.2.1 (by decide) (fun q hq => by cases hq) (eR_val (eR_c ρ 5)) (eCv_i (eR_s rfl)), sCr_n (by omega) (by omega)⟩
    | 6, _ => exact ⟨_, _, rfl, eDt_at (x := [(0, 6)]) (y := .inr (.inr (some 18))) (g := []) hM.2.2.1 (by decide) (fun q hq => by cases hq) (eR_val (eR_c ρ 6)) rfl, rfl⟩
    | 7, _ => exact ⟨_, _, rfl, eDt_at (x := [(0, 7)]) (y := .inr (.inr (some 19))) (g := []) hM.2.2.1 (by decide) (fun q hq => by cases hq) (eR_val (eR_c ρ 7)) rfl, rfl⟩
    | 8, _ => exact ⟨_, _, rfl, eDt_at (x := [(0, 8)]) (y := .inr (.inr (some 20))) (g := []) hM.2.2.1 (by decide) (fun q hq => by cases hq) (eR_val (eR_c ρ 8)) rfl, rfl⟩
    | 9, _ => exact ⟨_, _, rfl, eDt_at (x := [(0, 9)]) (y := .inr (.inr (some 21))) (g := []) hM.2.2.1 (by decide) (fun q hq => by cases hq) (eR_val (eR_c ρ 9)) rfl, rfl⟩
    | 10, _ => exact ⟨_, _, rfl, eDt_at (x := [(0, 10)]) (y := .inr (.inr (some 22))) (g := []) hM.2.2.1 (by decide) (fun q hq => by cases hq) (eR_val (eR_c ρ 10)) rfl, rfl⟩
    | 11, _ => exact ⟨_, _, rfl, eDt_at (x := [(0, 11)]) (y := .inr (.inr (some 23))) (g := []) hM.2.2.1 (by decide) (fun q hq => by cases hq) (eR_val (eR_c ρ 11)) rfl, rfl⟩
    | 12, _ => exact ⟨_, _, rfl, eDt_at (x := [(0, 12)]) (y := .inr (.inr (some 24))) (g := []) hM.2.2.1 (by decide) (fun q hq => by cases hq) (eR_val (eR_c ρ 12)) rfl, rfl⟩
    | 13, _ => exact ⟨_, _, rfl, eDt_at (x := [(0, 13)]) (y := .inr (.inr (some 25))) (g := []) hM.2.2.1 (by decide) (fun q hq => by cases hq) (eR_val (eR_c ρ 13)) rfl, rfl⟩
    | 14, _ => exact ⟨_, _, rfl, eDt_at (x := [(0, 14)]) (y := .inr (.inr (some 26))) (g := []) hM.2.2.1 (by decide) (fun q hq => by cases hq) (eR_val (eR_c ρ 14)) rfl, rfl⟩
    | 15, _ => exact ⟨_, _, rfl, eDt_at (x := [(0, 15)]) (y := .inr (.inr (some 27))) (g := []) hM.2.2.1 (by decide) (fun q hq => by cases hq) (eR_val (eR_c ρ 15)) rfl, rfl⟩
    | 16, _ => exact ⟨_, _, rfl, eDt_at (x := [(0, 16)]) (y := .inr (.inr (some 28))) (g := []) hM.2.2.1 (by decide) (fun q hq => by cases hq) (eR_val (eR_c ρ 16)) rfl, rfl⟩
    | 17, _ => exact ⟨_, _, rfl, eDt_at (x := [(0, 17)]) (y := .inr (.inr (some 29))) (g := []) hM.2.2.1 (by decide) (fun q hq => by cases hq) (eR_val (eR_c ρ 17)) rfl, rfl⟩
    | 18, _ => exact ⟨_, _, rfl, eDt_at (x := [(0, 18)]) (y := .inl [(1, 10)]) (g := []) hM.2.2.1 (by decide) (fun q hq => by cases hq) (eR_val (eR_c ρ 18)) (eCv_i (eR_s rfl)), sCr_n (by omega) (by omega)⟩
    | i + 19, hi => omega)
  have k1 : kTy hT [18] hp := kTy_ints (b := 63) (n := 6) (hi := 2147483711) rfl (hsh (18, 1, 6) (by decide)) (by omega) (by omega) (fun i hi => ⟨_, by have := hTK i; omega, hM.2.2.2.2.1 i hi⟩)
  have k7 : kTy hT [24] hp := kTy_ints (b := 5) (n := 8) (hi := 2147483653) rfl (hsh (24, 1, 8) (by decide)) (by omega) (by omega) hM.2.2.2.2.2.2.2.2.2.2.1
  have k10 : kTy hT [27] hp := kTy_ints (b := 255) (n := 8) (hi := 2147483903) rfl (hsh (27, 1, 8) (by decide)) (by omega) (by omega) hM.2.2.2.2.2.2.2.2.2.2.2.2
  exact kTy_app (pl1 := [17]) k0 (kTy_app (pl1 := [18]) k1 (kTy_app (pl1 := [24]) k7 k10))
theorem rdE17 {d : Nat} (hd : 20 ≤ d) {hp : List vOb} {kl : vLs} {τ K R : Nat → Nat} {z m : Nat} {ρ : Nat → Nat → Nat} {ht : Nat} {N DC NM TK BR ST : Nat → Nat} (hP : PV ρ τ K R z m N DC NM TK BR ST) (hM : CM 17 cH17 shc17 hp τ K z m ρ ht N DC TK BR ST) (hl : eLm ρ (LSC 17) kl) : ∃ kl' hp', kRe vms vdf d vt_X10_read 0 0 (39, kl, [], hp) (44, kl', [.inl (ρ 0 9)], hp') ∧ sFr [(27, 0, 7)] hp hp' := by
  obtain ⟨kl1, hp1, k1, k2, k3, k4⟩ := e_go (vms := vms) (df := vdf) (d := d) (ρ := ρ) (by omega) rdA17_k rdW17 hM.1 all_nil hl eDt_nil
  have k4 : sFr [] hp hp1 := k4
  have hty : kTy hT [17, 18, 24, 27] hp1 := fun k hk => by
    obtain ⟨oT, ob, q1, q2, q3⟩ := fcT17 hP hM k hk
    obtain ⟨o', w1, w2, w3, w4⟩ := k4.2 _ _ q2
    have e : o' = ob := Prod.ext w2 (List.ext_getElem? (fun i => w4 i (fun ⟨m, m1, _⟩ => by cases m1)))
    exact ⟨oT, ob, q1, by rw [w1, e], q3⟩
  obtain ⟨r, hp2, c1, c2, c3, c4⟩ := cc_Town_findClashes_15_ok d (by omega) [.inr (.inr (.inr (.inl (some 17))))] hp1 ⟨rfl, trivial⟩ hty
  have hr : r = none := by
    match r, c2 with
    | none, _ => rfl
    | some _, c2 => exact c2.elim
  subst hr
  have hcall : kRe vms vdf d vt_X10_read 0 0 (40, kl1, [.inr (.inr (.inr (.inl (some 17))))], hp1) (43, kl1, [], hp2) := e_callv (kas := []) (rest := []) (r := none) iv_fc rfl rfl (vRc_sh (n := 19) (t := 9) (eSh_fr k4 hM.1) (by decide) rfl) c1
  obtain ⟨kl3, hp3, g1, g2, g3, g4⟩ := e_go (vms := vms) (df := vdf) (d := d) (ρ := ρ) (by omega) rdB17_k rdW17 (eSh_fr c3 (eSh_fr k4 hM.1)) all_nil k2 eDt_nil
  have g4 : sFr [] hp2 hp3 := g4
  have e3 : List.map (eCv ρ) [.inl [(1, 9)]] = [.inl (ρ 0 9)] := by
    rw [List.map_cons, eCv_i (eR_s (ρ := ρ) (j := 9) rfl)]
    rfl
  rw [e3] at g1
  exact ⟨kl3, hp3, (k1.tr hcall).tr g1, ((k4.mono (fun k i ⟨m, m1, _⟩ => by cases m1)).tr c3).tr (g4.mono (fun k i ⟨m, m1, _⟩ => by cases m1))⟩
theorem CM_CT17 {hp : List vOb} {τ K : Nat → Nat} {z m : Nat} {ρ : Nat → Nat → Nat} {ht : Nat} {N DC TK BR ST : Nat → Nat} (hM : CM 17 cH17 shc17 hp τ K z m ρ ht N DC TK BR ST) : CT 17 hp (ρ 0 1) (ρ 0 2) (ρ 0 3) (ρ 0 4) (ρ 0 5) (ρ 0 6) TK BR ST := ⟨eDt_at (x := [(0, 0)]) (y := .inl [(1, 1)]) (g := []) hM.2.2.1 (by decide) (fun q hq => by cases hq) (eR_val (eR_c ρ 0)) (eCv_i (eR_s rfl)), eDt_at (x := [(0, 1)]) (y := .inl [(1, 2)]) (g := []) hM.2.2.1 (by decide) (fun q hq => by cases hq) (eR_val (eR_c ρ 1)) (eCv_i (eR_s rfl)), eDt_at (x := [(0, 2)]) (y := .inl [(1, 4)]) (g := []) hM.2.2.1 (by decide) (fun q hq => by cases hq) (eR_val (eR_c ρ 2)) (eCv_i (eR_s rfl)), eDt_at (x := [(0, 3)]) (y := .inl [(1, 3)]) (g := []) hM.2.2.1 (by decide) (fun q hq => by cases hq) (eR_val (eR_c ρ 3)) (eCv_i (eR_s rfl)), eDt_at (x := [(0, 4)]) (y := .inl [(1, 5)]) (g := []) hM.2.2.1 (by decide) (fun q hq => by cases hq) (eR_val (eR_c ρ 4)) (eCv_i (eR_s rfl)), eDt_at (x := [(0, 5)]) (y := .inl [(1, 6)]) (g := []) hM.2.2.1 (by decide) (fun q hq => by cases hq) (eR_val (eR_c ρ 5)) (eCv_i (eR_s rfl)), hM.2.2.2.2.1, hM.2.2.2.2.2.1, hM.2.2.2.2.2.2.1⟩
