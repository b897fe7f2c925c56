/-! ===== the law's loop ===== -/
section LLOOP
variable {p : Program} {l : Launch} {e : Env} {s : State} {m : MethodId} {below : List Frame} {meth : Method} {c : Code} {b sa sv : Nat} {D : va_G}
variable {Iv : List vOb → Prop} {sc : List vAV}
/-- a case keeps the invariant, and takes at most one cell of six slots -/
def caseOK (p : Program) (l : Launch) (e : Env) (s : State) (m : MethodId) (below : List Frame) (meth : Method) (c : Code) (b sa sv : Nat) (D : va_G) (Iv : List vOb → Prop) (sc : List vAV) (p0 : Nat) : Prop :=
  ∀ (i : Nat) (w : Nat → Nat) (hp : List vOb) (u v : Option vAV) (ce sl : Nat), i ≤ 3066 → (∀ c, c < 6 → w c < 4294967296 ∧ sc[i + c]? = some (.inl (w c))) → Iv hp → ce ≤ 249 + i → sl ≤ 7595 + i → (∀ (hp' : List vOb) (u v : Option vAV) (ce' sl' : Nat), Iv hp' → ce' ≤ ce + 1 → sl' ≤ sl + 6 → LW p l e s m below meth c b sa sv D 1398 (kL i u v) [] hp' ce' sl') → LW p l e s m below meth c b sa sv D p0 (kL i u v) [] hp ce sl
theorem law_loop (K : lCx p s m meth c b sa sv) (hsc : vScr b sa sv (fun q => s.heap.size ≤ q) s sc) (hint : ∀ j, j < sc.length → ∃ x, x < 4294967296 ∧ sc[j]? = some (.inl x)) (h0 : 0 < sc.length) (hL : sc.length ≤ 3072) (hcase : ∀ p0 ∈ lStarts, p0 ≠ 1398 → caseOK p l e s m below meth c b sa sv D Iv sc p0) (n : Nat) : ∀ (i : Nat) (hp : List vOb) (u v : Option vAV) (ce sl : Nat), sc.length ≤ i + n → i ≤ 3072 → Iv hp → ce ≤ 249 + i → sl ≤ 7595 + i → LW p l e s m below meth c b sa sv D 26 (kL i u v) [.inr (.inr (.inr (.inr 0))), .inl i] hp ce sl := by
  induction n with
  | zero =>
    intro i hp u v ce sl hn hi hI h1 h2
    have ht := l_test (sc := sc) (i := i) (u := u) (v := v) (hp := hp) h0 hL hi
    rw [if_neg (by omega)] at ht
    exact LW_steps K hsc ht (LW_end K (by omega) (by omega))
  | succ n ih =>
    intro i hp u v ce sl hn hi hI h1 h2
    have ht := l_test (sc := sc) (i := i) (u := u) (v := v) (hp := hp) h0 hL hi
    by_cases hc : i + 6 ≤ sc.length
    · rw [if_pos hc] at ht
      refine LW_steps K hsc ht ?_
      have hw : ∃ w : Nat → Nat, ∀ c, c < 6 → w c < 4294967296 ∧ sc[i + c]? = some (.inl (w c)) := by
        refine ⟨fun c => if h : c < 6 then (hint (i + c) (by omega)).choose else 0, fun c hc' => ?_⟩
        dsimp only
        rw [dif_pos hc']
        exact (hint (i + c) (by omega)).choose_spec
      obtain ⟨w, hw⟩ := hw
      have hE := lEnv_of (sc := sc) (i := i) (w := w) (by omega) hw
      have hG := lG_of (i := i) (w := w) (by omega)
      have next : ∀ (hp' : List vOb) (u v : Option vAV) (ce' sl' : Nat), Iv hp' → ce' ≤ ce + 1 → sl' ≤ sl + 6 → LW p l e s m below meth c b sa sv D 1398 (kL i u v) [] hp' ce' sl' := fun hp' u v ce' sl' hI' q1 q2 => by
        obtain ⟨pc', kl', ks', B, xs, b1, b2, b3, b4, b5⟩ := l_ok (hp := hp') (ks := []) lw_next hE hG ⟨rfl, kL_to (u := u) (v := v) rfl (by omega), trivial⟩
        rw [List.mem_singleton] at b1
        subst b1 b3
        obtain ⟨u1, v1, e1⟩ := kL_of (i := i) (δ := 6) rfl (by omega) b4
        have e2 := nAr_eq (as := []) rfl b5
        subst e1 e2
        exact LW_steps K hsc b2 (LW_steps K hsc l_head (ih (i + 6) hp' u1 v1 ce' sl' (by omega) (by omega) hI' (by omega) (by omega)))
      obtain ⟨pc', kl', ks', B, xs, b1, b2, b3, b4, b5⟩ := l_ok (hp := hp) (ks := []) lw_sw hE hG ⟨rfl, kL_to (u := u) (v := v) rfl (by omega), trivial⟩
      obtain ⟨p0, p1, p2⟩ := List.mem_map.mp b1
      subst p2 b3
      obtain ⟨u1, v1, e1⟩ := kL_of (i := i) (δ := 0) rfl (by omega) b4
      have e2 := nAr_eq (as := []) rfl b5
      subst e1 e2
      refine LW_steps K hsc b2 ?_
      by_cases hp0 : pc' = 1398
      · subst hp0
        exact next hp u1 v1 ce sl hI (by omega) (by omega)
      · exact hcase pc' p1 hp0 i w hp u1 v1 ce sl (by omega) hw hI h1 h2 next
    · rw [if_neg hc] at ht
      exact LW_steps K hsc ht (LW_end K (by omega) (by omega))
end LLOOP
