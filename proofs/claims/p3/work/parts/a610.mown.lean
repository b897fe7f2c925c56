theorem M_up {v : Nat} (hv : v < 4) {pl : List Nat} {md : sMd} {hp hp' : List vOb} (h : kTy (hTrN v) plM hp) (hf : sFr md hp hp') (h2 : kTy hT pl hp') (hb : plM.all (fun k => sStop k pl || !sHas k md) = true) (hm : ∀ i, i < 142 → ¬ sMin md 222 i) : kTy (hTrN v) plM hp' := fun k hk => by
  obtain ⟨o, ho⟩ := hTrN_is v
  have one : kTy (hTrN v) [k] hp := kTy_sub (fun k' hk' => by
    rw [List.mem_singleton] at hk'
    rw [hk']
    exact hk) h
  rcases Bool.or_eq_true_iff.mp (List.all_eq_true.mp hb k hk) with e | e
  · have h3 : kTy hT [k] hp' := kTy_sub (fun k' hk' => by
      rw [List.mem_singleton] at hk'
      rw [hk']
      exact sStop_mem e) h2
    by_cases h222 : k = 222
    · subst h222
      exact mix222 hv one h3 hf hm 222 (List.mem_singleton.mpr rfl)
    · have hs : tSame 222 [k] = true := by
        unfold tSame
        cases hb : sStop 222 [k] with
        | false => rfl
        | true =>
          have := sStop_mem hb
          rw [List.mem_singleton] at this
          exact absurd this.symm h222
      have h4 : kTy (hTrN v) [k] hp' := by
        rw [ho]
        exact (kTy_cons hs).mpr h3
      exact h4 k (List.mem_singleton.mpr rfl)
  · obtain ⟨oT, ob, q1, q2, q3⟩ := one k (List.mem_singleton.mpr rfl)
    exact ⟨oT, ob, q1, row_same hf (by cases hb : sHas k md with
      | false => rfl
      | true => rw [hb] at e; cases e) q2, q3⟩
def mdL (md : sMd) : Bool := md.all (fun m => Nat.ble 220 m.1 && !Nat.beq m.1 245)
theorem mdL_ok {md : sMd} (h : mdL md = true) {k i : Nat} (hm : sMin md k i) : 220 ≤ k ∧ k ≠ 245 := by
  obtain ⟨m, m1, m2, -⟩ := hm
  have h1 := List.all_eq_true.mp h m m1
  rw [Bool.and_eq_true] at h1
  have q1 := Nat.le_of_ble_eq_true h1.1
  refine ⟨by omega, fun e => ?_⟩
  have q2 := h1.2
  rw [m2, e, Nat.beq_refl] at q2
  cases q2
theorem img_keep {md : sMd} {hp hp' : List vOb} (hf : sFr md hp hp') (hm : mdL md = true) (hK : ∀ k, k < 2 → KT hp k ∧ KK hp k) : ∀ k, k < 2 → KT hp' k ∧ KK hp' k := fun k hk => ⟨KT_keep hf (fun i _ h => (mdL_ok hm h).2 rfl) (hK k hk).1, KK_keep hf (fun i _ h => (mdL_ok hm h).2 rfl) (hK k hk).2⟩
theorem mSentence : CallOK Iv 220 270 0 := by
  intro hp args ⟨hX, ⟨v, v1, v2⟩, hS, hK⟩ hl hi
  have e : args = [] := List.length_eq_zero_iff.mp hl
  subst e
  obtain ⟨r, hp', h1, h2, h3, h4, h5⟩ := sentence_ok (d := 59) (by decide) (kTy_sub (by decide) (rW v1 v2)) hS
  obtain ⟨u, u1, u2⟩ := sRt_int h2
  subst u2
  exact ⟨u, hp', h1, u1, XI_keep h4 (fun k i h => (mdL_ok (md := zMs) (by decide) h).1) hX, ⟨v, v1, M_up v1 v2 h4 h3 (by decide) (fun i hi ⟨m, m1, m2, m3, m4⟩ => by
    unfold zMs at m1
    simp only [List.mem_cons, List.not_mem_nil, or_false] at m1
    rcases m1 with rfl | rfl | rfl | rfl | rfl | rfl | rfl <;> dsimp only at m2 m3 m4 <;> omega)⟩, h5, img_keep h4 (by decide) hK⟩
theorem mSaid : CallOK Iv 220 278 1 := by
  intro hp args ⟨hX, ⟨v, v1, v2⟩, hS, hK⟩ hl hi
  match args, hl with
  | [a], _ =>
    obtain ⟨w, w1, w2⟩ := hi a List.mem_cons_self
    subst w2
    obtain ⟨r, hp', h1, h2, h3, h4⟩ := said_ok (d := 59) (by decide) w1 (kTy_sub (by decide) (rW v1 v2)) hS
    obtain ⟨u, u1, u2⟩ := sRt_int h2
    subst u2
    exact ⟨u, hp', h1, u1, XI_keep h4 (fun k i h => (mdL_ok (md := mSa) (by decide) h).1) hX, ⟨v, v1, M_up v1 v2 h4 h3 (by decide) (fun i hi => sHas_no (by decide))⟩, SS_keep h4 (fun i _ => sHas_no (by decide)) hS, img_keep h4 (by decide) hK⟩
theorem lgVN {v : Nat} (hv : v < 4) : ∃ S, lgV (hTrN v) S := by
  have : v = 0 ∨ v = 1 ∨ v = 2 ∨ v = 3 := by omega
  rcases this with rfl | rfl | rfl | rfl
  · exact ⟨_, lg_V0⟩
  · exact ⟨_, lg_V1⟩
  · exact ⟨_, lg_V2⟩
  · exact ⟨_, lg_V3⟩
theorem mLog : CallOK Iv 220 251 1 := by
  intro hp args ⟨hX, ⟨v, v1, v2⟩, hS, hK⟩ hl hi
  match args, hl with
  | [a], _ =>
    obtain ⟨w, w1, w2⟩ := hi a List.mem_cons_self
    subst w2
    obtain ⟨S, hV⟩ := lgVN v1
    obtain ⟨r, hp', h1, h2, h3, h4⟩ := log_okV hV (d := 59) (by decide) w1 (kTy_sub (by decide) v2)
    obtain ⟨u, u1, u2⟩ := sRt_int h2
    subst u2
    refine ⟨u, hp', h1, u1, XI_keep h4 (fun k i h => (mdL_ok (md := mLg) (by decide) h).1) hX, ⟨v, v1, kTy_upd (by decide) h4 v2 h3⟩, SS_keep h4 (fun i hi ⟨m, m1, m2, m3, m4⟩ => ?_) hS, img_keep h4 (by decide) hK⟩
    unfold mLg at m1
    simp only [List.mem_cons, List.not_mem_nil, or_false] at m1
    rcases m1 with rfl | rfl | rfl | rfl | rfl | rfl | rfl | rfl | rfl | rfl | rfl <;> dsimp only at m2 m3 m4 <;> omega
theorem mTown : CallOK Iv 220 81 0 := by
  intro hp args ⟨hX, ⟨v, v1, v2⟩, hS, hK⟩ hl hi
  have e : args = [] := List.length_eq_zero_iff.mp hl
  subst e
  obtain ⟨r, hp', h1, h2, h3⟩ := town_ok (d := 59) (by decide) (kTy_sub (by decide) (rW v1 v2))
  obtain ⟨u, u1, u2⟩ := sRt_int h2
  subst u2
  rcases h3 with ⟨f1, t1⟩ | ⟨f1, ⟨T', m1, t1⟩, hc⟩
  · exact ⟨u, hp', h1, u1, XI_keep f1 (fun k i h => (mdL_ok (md := tw_m1) (by decide) h).1) hX, ⟨v, v1, M_up v1 v2 f1 t1 (by decide) (fun i hi => sHas_no (by decide))⟩, SS_keep f1 (fun i _ => sHas_no (by decide)) hS, img_keep f1 (by decide) hK⟩
  · have hS' : SS hp' := by
      rcases hc with hc | hc
      · exact SS_keep hc (fun i _ => sHas_no (by decide)) hS
      · exact ⟨0, 0, hc, by omega, rfl⟩
    obtain ⟨w, w1, rfl⟩ : ∃ w, w < 4 ∧ T' = hTrN w := by
      unfold tw_Ts at m1
      simp only [List.mem_cons, List.not_mem_nil, or_false] at m1
      rcases m1 with rfl | rfl | rfl | rfl
      · exact ⟨0, by omega, rfl⟩
      · exact ⟨1, by omega, rfl⟩
      · exact ⟨2, by omega, rfl⟩
      · exact ⟨3, by omega, rfl⟩
    refine ⟨u, hp', h1, u1, XI_keep f1 (fun k i h => (mdL_ok (md := tw_e.2.2.2.2) (by decide) h).1) hX, ⟨w, w1, ?_⟩, hS', img_keep f1 (by decide) hK⟩
    have q1 : kTy hT [221, 223, 224, 226, 227, 228, 229, 230, 231, 232, 233, 234, 235, 236, 237, 238, 239, 240, 241, 242, 243, 244, 245, 246, 247] hp := kTy_sub (by decide) (rW v1 v2)
    have q2 : kTy hT [224, 227, 228, 229, 230, 231, 232, 233, 234, 235, 236, 237, 238, 239, 240, 241, 242, 243, 244, 245, 246, 247] hp' := kTy_frame (by decide) f1 (kTy_sub (by decide) q1)
    obtain ⟨o, ho⟩ := hTrN_is w
    have q3 : kTy (hTrN w) [224, 227, 228, 229, 230, 231, 232, 233, 234, 235, 236, 237, 238, 239, 240, 241, 242, 243, 244, 245, 246, 247] hp' := by
      rw [ho]
      exact (kTy_cons (by decide)).mpr q2
    exact kTy_or (by decide) t1 q3
