/-! ===== log() and image() of the class ===== -/
set_option maxRecDepth 100000 in
theorem mXl_X : mdX mXl = true := by decide +kernel
theorem xk_log {c tw : Nat} (hc : c < 4) (hV : xlV (hTcN c) tw) : xOK 248 1 c := by
  intro hp args hty hl hi
  match args, hl with
  | [a], _ =>
    obtain ⟨w, w1, w2⟩ := hi a List.mem_cons_self
    subst w2
    obtain ⟨r, hp', h1, h2, h3, h4⟩ := xlog_okV hV (d := 59) (by decide) w1 hty
    obtain ⟨u, u1, u2⟩ := sRt_int h2
    subst u2
    exact ⟨u, hp', _, h1, u1, ⟨c, hc, h3⟩, h4, mXl_X⟩
/-- image(w): 1 for 0 and 1, else 0 -/
def xIm (c : Nat) : Prop := ∀ (hp : List vOb) (w : Nat), kTy (hTcN c) plC hp → w < 4294967296 → ∃ hp' md, (∃ N, ∀ fuel, N ≤ fuel → vCalD vms vdf fuel 60 281 [yV 0, .inl w] hp = some (some (.inl (if w < 2 then 1 else 0)), hp', 0, 0)) ∧ kTy (hTcN c) plC hp' ∧ sFr md hp hp' ∧ mdX md = true
theorem xIm_of {c : Nat} {e0 e1 e2 : sCtE} (h0 : cOK vms vdf 60 (hTcN c) e0) (h1 : cOK vms vdf 60 (hTcN c) e1) (h2 : cOK vms vdf 60 hT e2) (j0 : e0.1 = 281) (j1 : e1.1 = 281) (j2 : e2.1 = 281) (a0 : e0.2.1 = [yO 0, zS 0 0]) (a1 : e1.2.1 = [yO 0, zS 1 1]) (a2 : e2.2.1 = [yO 0, .inr [(0, 2147483647), (2147483650, 4294967295)]]) (r0 : e0.2.2.2.1 = some (zS 1 1)) (r1 : e1.2.2.2.1 = some (zS 1 1)) (r2 : e2.2.2.2.1 = some (zS 0 0)) (b0 : xB e0 = true) (b1 : xB e1 = true) (p2 : e2.2.2.1 = []) (m2 : e2.2.2.2.2 = []) : xIm c := by
  intro hp w hty hw
  have one : ∀ (e : sCtE) (n : Nat), e.1 = 281 → e.2.1 = [yO 0, zS n n] → n < 2 → w = n → e.2.2.2.1 = some (zS 1 1) → xB e = true → cOK vms vdf 60 (hTcN c) e → ∃ hp' md, (∃ N, ∀ fuel, N ≤ fuel → vCalD vms vdf fuel 60 281 [yV 0, .inl w] hp = some (some (.inl (if w < 2 then 1 else 0)), hp', 0, 0)) ∧ kTy (hTcN c) plC hp' ∧ sFr md hp hp' ∧ mdX md = true := fun e n hj ha hn hwn hr hb hc => by
    subst hwn
    unfold xB at hb
    rw [Bool.and_eq_true, Bool.and_eq_true] at hb
    obtain ⟨q1, q2, q3⟩ := hb
    obtain ⟨r, hp', g1, g2, g3, g4⟩ := hc [yV 0, .inl w] hp (by rw [ha]; exact ⟨rfl, ⟨w, hw, sIn_one (by unfold sBi; omega) (by unfold sBi; omega), rfl⟩, trivial⟩) (kTy_sub (plC_mem q1) hty)
    rw [hr] at g2
    have er := zRt (by decide) g2
    subst er
    rw [hj] at g1
    rw [if_pos hn]
    exact ⟨hp', _, g1, kTy_upd q3 g3 hty g4, g3, q2⟩
  by_cases c0 : w = 0
  · exact one e0 0 j0 a0 (by decide) c0 r0 b0 h0
  · by_cases c1 : w = 1
    · exact one e1 1 j1 a1 (by decide) c1 r1 b1 h1
    · obtain ⟨r, hp', g1, g2, g3, g4⟩ := h2 [yV 0, .inl w] hp (by
        rw [a2]
        refine ⟨rfl, ⟨w, hw, ?_, rfl⟩, trivial⟩
        by_cases hlt : sBi w ≤ 2147483647
        · exact ⟨(0, 2147483647), by decide, Nat.zero_le _, hlt⟩
        · refine ⟨(2147483650, 4294967295), by decide, ?_, ?_⟩
          · show 2147483650 ≤ sBi w
            unfold sBi at hlt ⊢
            omega
          · show sBi w ≤ 4294967295
            have := sBi_lt w
            omega) (by rw [p2]; exact fun k hk => by cases hk)
      rw [r2] at g2
      have er := zRt (by decide) g2
      subst er
      rw [j2] at g1
      rw [m2] at g3
      rw [if_neg (by omega)]
      exact ⟨hp', [], g1, kTy_fr0 g3 hty, g3, rfl⟩
