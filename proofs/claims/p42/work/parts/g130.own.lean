/-! ===== the call by hand that writes no length ===== -/
theorem fb_said : FbOK 220 278 1 := by
  intro hp args ⟨hX, ⟨v, v1, v2⟩, hS, hK⟩ hl hi
  match args, hl with
  | [a], _ =>
    obtain ⟨w, w1, w2⟩ := hi a List.mem_cons_self
    subst w2
    obtain ⟨r, hp', h1, h2, h3, h4⟩ := said_ok (d := 59) (by decide) w1 (kTy_sub (by decide) (rW v1 v2)) hS
    exact ⟨r, hp', mSa, h1, h4, by decide⟩
