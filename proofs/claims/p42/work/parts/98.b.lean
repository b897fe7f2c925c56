theorem nLr_at1 {ρ ρ' : List Nat} {a : Option sC} {x x' : sC} {rest : List (Option sC)} {kl : vLs} (h1 : lCl [a] = true) (h2 : lCl rest = true) (hx : ∀ y, sCr ρ x y → sCr ρ' x' y) (h : nLr ρ (a :: some x :: rest) kl) : nLr ρ' (a :: some x' :: rest) kl := by
  match kl, h with
  | [], h => exact h.elim
  | [_], h => exact h.2.elim
  | k0 :: k1 :: kr, h =>
    have h01 : nLr ρ [a] [k0] := ⟨h.1, trivial⟩
    have h01' := lCl_ok (ρ' := ρ') h1 h01
    refine ⟨h01'.1, fun c hc => ?_, lCl_ok h2 h.2.2⟩
    obtain ⟨y, y1, y2⟩ := h.2.1 x rfl
    have e := Option.some.inj hc
    subst e
    exact ⟨y, y1, hx y y2⟩
theorem ll_toK {xs : List Nat} {o : Nat} {b c e : Option sC} {kl : vLs} (ho : o < 4294967296) (hl : lCl [b, c, e] = true) (h : nLr ([sBi o] ++ xs) (ll5 (some (zY 0)) b c e) kl) : nLr [] (ll5 (some (zK o)) b c e) kl :=
  nLr_at1 (x := zY 0) rfl hl (fun y ⟨r, r1, r2⟩ => by
    have r1 : (sBi o :: xs)[0]? = some r := r1
    have r1 := Option.some.inj r1
    rw [← r1, sUn_bi ho] at r2
    exact ⟨ho, r2⟩) h
theorem ll_toY {o : Nat} {b c e : Option sC} {kl : vLs} (ho : o < 4294967296) (hl : lCl [b, c, e] = true) (h : nLr [] (ll5 (some (zK o)) b c e) kl) : nLr [sBi o] (ll5 (some (zY 0)) b c e) kl :=
  nLr_at1 (x := zK o) rfl hl (fun y ⟨_, y2⟩ => by rw [y2]; exact sV_back ho rfl) h
theorem nSat_set {T : sHp} {pl ρ : List Nat} {B : nN} {κ : kSt} {k i a b : Nat} (hB : nSat T pl ρ B κ) (hm : (k, i, zS a b) ∈ B.2.2.2) (hb : b < 2147483648) : ∃ u, hC κ.2.2.2 k i (.inl u) ∧ a ≤ u ∧ u ≤ b := by
  obtain ⟨v, v1, v2⟩ := hB.2.2.2.2 _ hm
  obtain ⟨u, u1, u2, u3⟩ := zSab hb v2
  rw [u1] at v1
  exact ⟨u, v1, u2, u3⟩
theorem nCs_cset {ρ : List Nat} {hp : List vOb} {k i q a b : Nat} {cs : List (Nat × Nat × sC)} (hb : b < 2147483648) (h : hC hp k i (.inl q)) (h1 : a ≤ q) (h2 : q ≤ b) (hs : nCs ρ hp cs) : nCs ρ hp ((k, i, zS a b) :: cs) := fun c hc => by
  rcases List.mem_cons.mp hc with e | e
  · rw [e]
    exact nCs_set hb h1 h2 h _ List.mem_cons_self
  · exact hs c e
/-- one line of the log, as it stands in read[] -/
def rC (w a b e : Nat) : Prop := (w = 0 ∧ a ≤ 4 ∧ b ≤ 7) ∨ (w = 1 ∧ a ≤ 4 ∧ b ≤ 7 ∧ e ≤ 4) ∨ (w = 2 ∧ a ≤ 4 ∧ b ≤ 7) ∨ (w = 3 ∧ b ≤ 7) ∨ (w = 4 ∧ 1 ≤ a ∧ a ≤ 60)
def Rec (hp : List vOb) (i : Nat) : Prop := ∃ w a b e, hC hp 224 (4 * i) (.inl w) ∧ hC hp 224 (4 * i + 1) (.inl a) ∧ hC hp 224 (4 * i + 2) (.inl b) ∧ hC hp 224 (4 * i + 3) (.inl e) ∧ rC w a b e
theorem Rec_fr {md : sMd} {hp hp' : List vOb} {i : Nat} (hf : sFr md hp hp') (hm : ∀ j, j < 4 → ¬ sMin md 224 (4 * i + j)) (h : Rec hp i) : Rec hp' i := by
  obtain ⟨w, a, b, e, h1, h2, h3, h4, h5⟩ := h
  exact ⟨w, a, b, e, hC_fr hf (hm 0 (by omega)) h1, hC_fr hf (hm 1 (by omega)) h2, hC_fr hf (hm 2 (by omega)) h3, hC_fr hf (hm 3 (by omega)) h4, h5⟩
theorem hT_224 : (sGo hT 224).map (fun o => o.2.1) = some [(160, zF)] := rfl
theorem ll_int {hp : List vOb} {i : Nat} (hi : i < 160) (h : kTy hT plL hp) : ∃ u, hC hp 224 i (.inl u) := by
  obtain ⟨u, -, h2⟩ := kTy_int (k := 224) (by decide) hT_224 hi h
  exact ⟨u, h2⟩
def logLineP (t : Nat) (hp : List vOb) (kr : Option vAV) (hp' : List vOb) : Prop := kTy hT plL hp' ∧ sFr (mLl t) hp hp' ∧ (kr = some (.inl 0) ∨ (kr = some (.inl 1) ∧ t < 40 ∧ Rec hp' t))
theorem ll_r' : llNs.all (fun p => nRet m_X12_logLine (llN p) (some (zS 0 0))) = true ∧ [68, 182, 296, 327].all (fun p => nRet m_X12_logLine (p, llL, [zK 1], []) (some (zS 1 1))) = true := by
  have h := ll_r
  rw [Bool.and_eq_true] at h
  exact h
theorem ll_no {d p t : Nat} (hp' : p ∈ llNs) {hp0 : List vOb} {κ : kSt} {ρ : List Nat} (hB : nSat hT plL ρ (llN p) κ) (hf : sFr (mLl t) hp0 κ.2.2.2) : kEnd vms vdf d m_X12_logLine κ (logLineP t hp0) :=
  n_ret (List.all_eq_true.mp ll_r'.1 p hp') (nCl_ok (ρ' := []) rfl hB) (fun kr hkr => ⟨hB.2.2.2.1, hf, Or.inl (zRt (by omega) hkr)⟩)
theorem ll_yes {d p t : Nat} (ht : t < 40) (hp' : p ∈ [68, 182, 296, 327]) {hp0 : List vOb} {κ : kSt} {ρ : List Nat} {cs : List (Nat × Nat × sC)} (hB : nSat hT plL ρ (p, llL, [zK 1], cs) κ) (hf : sFr (mLl t) hp0 κ.2.2.2) (hR : Rec κ.2.2.2 t) : kEnd vms vdf d m_X12_logLine κ (logLineP t hp0) :=
  n_ret (List.all_eq_true.mp ll_r'.2 p hp') (nSat_less (ρ' := []) hB rfl rfl) (fun kr hkr => ⟨hB.2.2.2.1, hf, Or.inr ⟨zRt (by omega) hkr, ht, hR⟩⟩)
theorem mNx_ll {t : Nat} {hp hp' : List vOb} (h : sFr mNx hp hp') : sFr (mLl t) hp hp' := h.mono (fun k i ⟨m, m1, m2⟩ => ⟨m, by
  unfold mNx at m1
  unfold mLl
  simp only [List.mem_cons, List.not_mem_nil, or_false] at m1 ⊢
  rcases m1 with h | h
  · exact Or.inl h
  · exact Or.inr (Or.inl h), m2⟩)
theorem m4_ll {t : Nat} {hp hp' : List vOb} (h : sFr [(224, 4 * t, 4 * t + 3)] hp hp') : sFr (mLl t) hp hp' := h.mono (fun k i ⟨m, m1, m2⟩ => ⟨m, by
  unfold mLl
  simp only [List.mem_cons, List.not_mem_nil, or_false] at m1 ⊢
  exact Or.inr (Or.inr m1), m2⟩)
theorem m0_ll {t : Nat} {hp hp' : List vOb} (h : sFr [] hp hp') : sFr (mLl t) hp hp' := h.mono (fun k i ⟨m, m1, _⟩ => by cases m1)
theorem nx224 {hp hp' : List vOb} {i : Nat} {v : vAV} (h : sFr mNx hp hp') (hc : hC hp 224 i v) : hC hp' 224 i v := hC_fr h (sMnot_ok rfl) hc
theorem nAr_nil {ρ ρ' : List Nat} {ks : List vAV} (h : nAr ρ [] ks) : nAr ρ' [] ks := aCl_ok (cs := []) rfl h
theorem logLine_end {d t : Nat} (hd : 13 ≤ d) (ht : t ≤ 40) {hp : List vOb} {kl : vLs} (hl : nLr [] (ll5 none none none none) kl) (hty : kTy hT plL hp) (htd : hC hp 220 47 (.inl t)) : kEnd vms vdf d m_X12_logLine (0, kl, [], hp) (logLineP t hp) := by
  obtain ⟨κ1, a2, a3, a4⟩ := n_one (d := d) (κ := (0, kl, [], hp)) (fun hp0 => sNo_ok) (List.all_eq_true.mp ll_k1 t (List.mem_range.mpr (by omega))) ⟨rfl, hl, trivial, hty, nCs_cons (by omega) htd nCs_nil⟩
  refine kEnd.of a2 ?_
  have F1 := m0_ll (t := t) a3
  have ho : 4 * t < 4294967296 := by omega
  have hl1 := ll_toY ho rfl a4.2.1
  by_cases h40 : t = 40
  · subst h40
    obtain ⟨κ2, B, xs, b1, b2, b3, b4⟩ := n_ok (d := d) (κ := κ1) (lgS_ok hd) ll_k3 (zG' (4 * 40)) ⟨a4.1, hl1, nAr_nil a4.2.2.1, a4.2.2.2.1, nCs_cons (by omega) (hC_fr0 a3 htd) nCs_nil⟩
    refine kEnd.of b2 ?_
    have F2 := F1.tr (mNx_ll b3)
    obtain ⟨p, p1, p2⟩ := List.mem_map.mp b1
    subst p2
    exact ll_no (by simp only [List.mem_cons, List.not_mem_nil, or_false, llNs] at p1 ⊢; omega) b4 F2
  · have ht' : t < 40 := by omega
    obtain ⟨κ2, B, xs, b1, b2, b3, b4⟩ := n_ok (d := d) (κ := κ1) (lgS_ok hd) ll_k2 (zG' (4 * t)) ⟨a4.1, hl1, nAr_nil a4.2.2.1, a4.2.2.2.1, nCs_cset (by omega) (hC_fr0 a3 htd) (by omega) (by omega) nCs_nil⟩
    refine kEnd.of b2 ?_
    have F2 := F1.tr (mNx_ll b3)
    rcases List.mem_append.mp b1 with b1 | b1
    · obtain ⟨p, p1, p2⟩ := List.mem_map.mp b1
      subst p2
      exact ll_no (by simp only [List.mem_cons, List.not_mem_nil, or_false, llNs] at p1 ⊢; omega) b4 F2
    · simp only [List.mem_cons, List.not_mem_nil, or_false] at b1
      rcases b1 with rfl | rfl | rfl
      · obtain ⟨κ3, c2, c3, c4⟩ := n_one (d := d) (κ := κ2) (fun hp0 => sNo_ok) (List.all_eq_true.mp ll_k4 t (List.mem_range.mpr ht')) ⟨b4.1, ll_toK ho rfl b4.2.1, nAr_nil b4.2.2.1, b4.2.2.2.1, nCs_nil⟩
        have w3 : hC κ3.2.2.2 224 (4 * t) (.inl 4) := nSat_cell c4 List.mem_cons_self
        obtain ⟨κ4, B, ys, d1, d2, d3, d4⟩ := n_ok (d := d) (κ := κ3) (lgS_ok hd) ll_k5 (zG' (4 * t)) ⟨c4.1, ll_toY ho rfl c4.2.1, nAr_nil c4.2.2.1, c4.2.2.2.1, nCs_nil⟩
        refine kEnd.of c2 (kEnd.of d2 ?_)
        have F4 := (F2.tr (m4_ll c3)).tr (mNx_ll d3)
        simp only [List.mem_cons, List.not_mem_nil, or_false] at d1
        rcases d1 with rfl | rfl
        · exact ll_no (by decide) d4 F4
        · obtain ⟨g, g1, g2, g3⟩ := nSat_set d4 List.mem_cons_self (by omega)
          obtain ⟨κ5, e2, e3, e4⟩ := n_one (d := d) (κ := κ4) (fun hp0 => sNo_ok) (List.all_eq_true.mp ll_k6 t (List.mem_range.mpr ht')) ⟨d4.1, ll_toK ho rfl d4.2.1, nAr_nil d4.2.2.1, d4.2.2.2.1, nCs_cons (by omega) (nx224 d3 w3) (nCs_cset (by omega) g1 g2 g3 nCs_nil)⟩
          obtain ⟨a, q1, q2, q3⟩ := nSat_set e4 (List.mem_cons_of_mem _ List.mem_cons_self) (by omega)
          obtain ⟨b, q4⟩ := ll_int (i := 4 * t + 2) (by omega) e4.2.2.2.1
          obtain ⟨e, q5⟩ := ll_int (i := 4 * t + 3) (by omega) e4.2.2.2.1
          exact kEnd.of e2 (ll_yes ht' (by decide) e4 (F4.tr (m4_ll e3)) ⟨4, a, b, e, nSat_cell e4 List.mem_cons_self, q1, q4, q5, Or.inr (Or.inr (Or.inr (Or.inr ⟨rfl, q2, q3⟩)))⟩)
      · obtain ⟨κ3, c2, c3, c4⟩ := n_one (d := d) (κ := κ2) (fun hp0 => sNo_ok) (List.all_eq_true.mp ll_k7 t (List.mem_range.mpr ht')) ⟨b4.1, ll_toK ho rfl b4.2.1, nAr_nil b4.2.2.1, b4.2.2.2.1, nCs_nil⟩
        obtain ⟨b, q1, q2, q3⟩ := nSat_set c4 (List.mem_cons_of_mem _ List.mem_cons_self) (by omega)
        obtain ⟨a, q4⟩ := ll_int (i := 4 * t + 1) (by omega) c4.2.2.2.1
        obtain ⟨e, q5⟩ := ll_int (i := 4 * t + 3) (by omega) c4.2.2.2.1
        exact kEnd.of c2 (ll_yes ht' (by decide) c4 (F2.tr (m4_ll c3)) ⟨3, a, b, e, nSat_cell c4 List.mem_cons_self, q4, q1, q5, Or.inr (Or.inr (Or.inr (Or.inl ⟨rfl, q3⟩)))⟩)
      · obtain ⟨w, hw, hlw⟩ : ∃ w, w ∈ [0, 1, 2] ∧ nLr [] (ll5 (some (zK (4 * t))) (some (zS 0 4)) none (some (zK w))) κ2.2.1 := by
          have h := ll_toK ho rfl b4.2.1
          obtain ⟨pc2, kl2, ks2, hp2⟩ := κ2
          dsimp only at h ⊢
          match kl2, h with
          | [], h => exact h.elim
          | [_], h => exact h.2.elim
          | [_, _], h => exact h.2.2.elim
          | [_, _, _], h => exact h.2.2.2.elim
          | [_, _, _, _], h => exact h.2.2.2.2.elim
          | _ :: _ :: _ :: _ :: _ :: _ :: _, h => exact h.2.2.2.2.2.elim
          | [k0, k1, k2, k3, k4], h =>
            obtain ⟨y, y1, y2⟩ := h.2.2.2.2.1 _ rfl
            obtain ⟨w, w1, w2, w3⟩ := zSab (by omega) y2
            refine ⟨w, ?_, h.1, h.2.1, h.2.2.1, h.2.2.2.1, fun c hc => ?_, trivial⟩
            · have : w = 0 ∨ w = 1 ∨ w = 2 := by omega
              rcases this with rfl | rfl | rfl <;> decide
            · cases hc
              exact ⟨y, y1, by rw [w1]; exact ⟨by omega, rfl⟩⟩
        have hw2 : w < 3 := by simp only [List.mem_cons, List.not_mem_nil, or_false] at hw; omega
        obtain ⟨κ3, c2, c3, c4⟩ := n_one (d := d) (κ := κ2) (fun hp0 => sNo_ok) (List.all_eq_true.mp (List.all_eq_true.mp ll_k8 t (List.mem_range.mpr ht')) w hw) ⟨b4.1, hlw, nAr_nil b4.2.2.1, b4.2.2.2.1, nCs_nil⟩
        have w3 : hC κ3.2.2.2 224 (4 * t) (.inl w) := nSat_cell c4 List.mem_cons_self
        obtain ⟨a, a1, a2', a3'⟩ := nSat_set c4 (List.mem_cons_of_mem _ List.mem_cons_self) (by omega)
        obtain ⟨κ4, B, ys, d1, d2, d3, d4⟩ := n_ok (d := d) (κ := κ3) (lgS_ok hd) (List.all_eq_true.mp ll_k9 w hw) (zG' (4 * t)) ⟨c4.1, ll_toY ho rfl c4.2.1, nAr_nil c4.2.2.1, c4.2.2.2.1, nCs_nil⟩
        refine kEnd.of c2 (kEnd.of d2 ?_)
        have F4 := (F2.tr (m4_ll c3)).tr (mNx_ll d3)
        simp only [List.mem_cons, List.not_mem_nil, or_false] at d1
        rcases d1 with rfl | rfl
        · exact ll_no (by decide) d4 F4
        · obtain ⟨g, g1, g2, g3⟩ := nSat_set d4 List.mem_cons_self (by omega)
          have w4 := nx224 d3 w3
          have a4' := nx224 d3 a1
          by_cases hw1 : w = 1
          · subst hw1
            obtain ⟨κ5, e2, e3, e4⟩ := n_one (d := d) (κ := κ4) (fun hp0 => sNo_ok) (List.all_eq_true.mp ll_k11 t (List.mem_range.mpr ht')) ⟨d4.1, ll_toK ho rfl d4.2.1, nAr_nil d4.2.2.1, d4.2.2.2.1, nCs_cons (by omega) w4 (nCs_cset (by omega) a4' a2' a3' (nCs_cset (by omega) g1 g2 g3 nCs_nil))⟩
            have w5 : hC κ5.2.2.2 224 (4 * t) (.inl 1) := nSat_cell e4 List.mem_cons_self
            obtain ⟨a5, p1, p2, p3⟩ := nSat_set e4 (k := 224) (i := 4 * t + 1) (a := 0) (b := 4) (List.mem_cons_of_mem _ List.mem_cons_self) (by omega)
            obtain ⟨b5, p4, p5, p6⟩ := nSat_set e4 (k := 224) (i := 4 * t + 2) (a := 0) (b := 7) (List.mem_cons_of_mem _ (List.mem_cons_of_mem _ List.mem_cons_self)) (by omega)
            obtain ⟨κ6, B, zs, f1, f2, f3, f4⟩ := n_ok (d := d) (κ := κ5) (lgS_ok hd) ll_k12 (zG' (4 * t)) ⟨e4.1, ll_toY ho rfl e4.2.1, nAr_nil e4.2.2.1, e4.2.2.2.1, nCs_nil⟩
            refine kEnd.of e2 (kEnd.of f2 ?_)
            have F6 := (F4.tr (m4_ll e3)).tr (mNx_ll f3)
            simp only [List.mem_cons, List.not_mem_nil, or_false] at f1
            rcases f1 with rfl | rfl
            · exact ll_no (by decide) f4 F6
            · obtain ⟨g', g1', g2', g3'⟩ := nSat_set f4 List.mem_cons_self (by omega)
              obtain ⟨κ7, i2, i3, i4⟩ := n_one (d := d) (κ := κ6) (fun hp0 => sNo_ok) (List.all_eq_true.mp ll_k13 t (List.mem_range.mpr ht')) ⟨f4.1, ll_toK ho rfl f4.2.1, nAr_nil f4.2.2.1, f4.2.2.2.1, nCs_cons (by omega) (nx224 f3 w5) (nCs_cset (by omega) (nx224 f3 p1) p2 p3 (nCs_cset (by omega) (nx224 f3 p4) p5 p6 (nCs_cset (by omega) g1' g2' g3' nCs_nil)))⟩
              obtain ⟨a7, r1, r2, r3⟩ := nSat_set i4 (k := 224) (i := 4 * t + 1) (a := 0) (b := 4) (List.mem_cons_of_mem _ List.mem_cons_self) (by omega)
              obtain ⟨b7, r4, r5, r6⟩ := nSat_set i4 (k := 224) (i := 4 * t + 2) (a := 0) (b := 7) (List.mem_cons_of_mem _ (List.mem_cons_of_mem _ List.mem_cons_self)) (by omega)
              obtain ⟨e7, r7, r8, r9⟩ := nSat_set i4 (k := 224) (i := 4 * t + 3) (a := 0) (b := 4) (List.mem_cons_of_mem _ (List.mem_cons_of_mem _ (List.mem_cons_of_mem _ List.mem_cons_self))) (by omega)
              exact kEnd.of i2 (ll_yes ht' (by decide) i4 (F6.tr (m4_ll i3)) ⟨1, a7, b7, e7, nSat_cell i4 List.mem_cons_self, r1, r4, r7, Or.inr (Or.inl ⟨rfl, r3, r6, r9⟩)⟩)
          · have hw02 : w ∈ [0, 2] := by
              have : w = 0 ∨ w = 2 := by omega
              rcases this with rfl | rfl <;> decide
            obtain ⟨κ5, e2, e3, e4⟩ := n_one (d := d) (κ := κ4) (fun hp0 => sNo_ok) (List.all_eq_true.mp (List.all_eq_true.mp ll_k10 t (List.mem_range.mpr ht')) w hw02) ⟨d4.1, ll_toK ho rfl d4.2.1, nAr_nil d4.2.2.1, d4.2.2.2.1, nCs_cons (by omega) w4 (nCs_cset (by omega) a4' a2' a3' (nCs_cset (by omega) g1 g2 g3 nCs_nil))⟩
            obtain ⟨a5, p1, p2, p3⟩ := nSat_set e4 (k := 224) (i := 4 * t + 1) (a := 0) (b := 4) (List.mem_cons_of_mem _ List.mem_cons_self) (by omega)
            obtain ⟨b5, p4, p5, p6⟩ := nSat_set e4 (k := 224) (i := 4 * t + 2) (a := 0) (b := 7) (List.mem_cons_of_mem _ (List.mem_cons_of_mem _ List.mem_cons_self)) (by omega)
            obtain ⟨e5, q5⟩ := ll_int (i := 4 * t + 3) (by omega) e4.2.2.2.1
            refine kEnd.of e2 (ll_yes ht' (by decide) e4 (F4.tr (m4_ll e3)) ⟨w, a5, b5, e5, nSat_cell e4 List.mem_cons_self, p1, p4, q5, ?_⟩)
            unfold rC
            omega
theorem logLine_ok {d t : Nat} (hd : 13 ≤ d) (ht : t ≤ 40) {hp : List vOb} (hty : kTy hT plL hp) (htd : hC hp 220 47 (.inl t)) : ∃ r hp', (∃ N, ∀ fuel, N ≤ fuel → vCalD vms vdf fuel (d + 1) 249 [zO] hp = some (r, hp', 0, 0)) ∧ logLineP t hp r hp' :=
  kEnd_cal hM_logLine (show 1 ≤ 5 by omega) rfl rfl (logLine_end hd ht (show nLr [] (ll5 none none none none) [some zO, none, none, none, none] from nLr_this (nLr_none (nLr_none (nLr_none (nLr_none trivial))))) hty htd)
