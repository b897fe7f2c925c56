theorem cs_nil {vms : List vMt} {df : List (List vAV)} {d : Nat} {T : sHp} : ∀ e ∈ ([] : List sCtE), cOK vms df d T e := fun e he => by cases he
theorem cs_cons {vms : List vMt} {df : List (List vAV)} {d : Nat} {T : sHp} {a : sCtE} {l : List sCtE} (h : cOK vms df d T a) (hs : ∀ e ∈ l, cOK vms df d T e) : ∀ e ∈ a :: l, cOK vms df d T e := fun e he => by
  rcases List.mem_cons.mp he with h1 | h1
  · rw [h1]; exact h
  · exact hs e h1
