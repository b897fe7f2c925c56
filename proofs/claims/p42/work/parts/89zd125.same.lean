/-! ===== exact runs: is this the end ===== -/
def elB {α : Type} (f : α → α → Bool) : List α → List α → Bool
  | [], [] => true
  | a :: x, b :: y => f a b && elB f x y
  | _, _ => false
theorem elB_ok {α : Type} {f : α → α → Bool} (hf : ∀ a b, f a b = true → a = b) : ∀ {x y : List α}, elB f x y = true → x = y
  | [], [], _ => rfl
  | [], _ :: _, h => by cases h
  | _ :: _, [], h => by cases h
  | a :: x, b :: y, h => by
    unfold elB at h
    rw [Bool.and_eq_true] at h
    rw [hf a b h.1, elB_ok hf h.2]
def evB (a b : eV) : Bool := match a, b with
  | .inl x, .inl y => eEq x y
  | .inr (.inl x), .inr (.inl y) => eEq x y
  | .inr (.inr none), .inr (.inr none) => true
  | .inr (.inr (some a)), .inr (.inr (some b)) => Nat.beq a b
  | _, _ => false
theorem evB_ok (a b : eV) (h : evB a b = true) : a = b := by
  unfold evB at h
  split at h
  · rw [eEq_ok h]
  · rw [eEq_ok h]
  · rfl
  · rw [Nat.eq_of_beq_eq_true h]
  · cases h
def eoB (a b : Option eV) : Bool := match a, b with
  | none, none => true
  | some a, some b => evB a b
  | _, _ => false
theorem eoB_ok (a b : Option eV) (h : eoB a b = true) : a = b := by
  unfold eoB at h
  split at h
  · rfl
  · rw [evB_ok _ _ h]
  · cases h
def ebB (a b : Bool) : Bool := match a, b with
  | true, true => true
  | false, false => true
  | _, _ => false
theorem ebB_ok (a b : Bool) (h : ebB a b = true) : a = b := by
  cases a <;> cases b <;> first | rfl | cases h
def ecB (a b : Nat × eX × eX × Bool) : Bool := Nat.beq a.1 b.1 && (eEq a.2.1 b.2.1 && (eEq a.2.2.1 b.2.2.1 && ebB a.2.2.2 b.2.2.2))
theorem ecB_ok (a b : Nat × eX × eX × Bool) (h : ecB a b = true) : a = b := by
  unfold ecB at h
  rw [Bool.and_eq_true, Bool.and_eq_true, Bool.and_eq_true] at h
  exact Prod.ext (Nat.eq_of_beq_eq_true h.1) (Prod.ext (eEq_ok h.2.1) (Prod.ext (eEq_ok h.2.2.1) (ebB_ok _ _ h.2.2.2)))
def edB (a b : Nat × eX × eV × eCs) : Bool := Nat.beq a.1 b.1 && (eEq a.2.1 b.2.1 && (evB a.2.2.1 b.2.2.1 && elB ecB a.2.2.2 b.2.2.2))
theorem edB_ok (a b : Nat × eX × eV × eCs) (h : edB a b = true) : a = b := by
  unfold edB at h
  rw [Bool.and_eq_true, Bool.and_eq_true, Bool.and_eq_true] at h
  exact Prod.ext (Nat.eq_of_beq_eq_true h.1) (Prod.ext (eEq_ok h.2.1) (Prod.ext (evB_ok _ _ h.2.2.1) (elB_ok ecB_ok h.2.2.2)))
def ewB (a b : Nat × eX) : Bool := Nat.beq a.1 b.1 && eEq a.2 b.2
theorem ewB_ok (a b : Nat × eX) (h : ewB a b = true) : a = b := by
  unfold ewB at h
  rw [Bool.and_eq_true] at h
  exact Prod.ext (Nat.eq_of_beq_eq_true h.1) (eEq_ok h.2)
def eQ (r : eO) (σ : eS) (C : eCs) (p : List Bool) : Bool := match r with
  | some (σ', C', p') => Nat.beq σ'.1 σ.1 && (elB eoB σ'.2.1 σ.2.1 && (elB evB σ'.2.2.1 σ.2.2.1 && (elB edB σ'.2.2.2.1 σ.2.2.2.1 && (elB ewB σ'.2.2.2.2 σ.2.2.2.2 && (elB ecB C' C && elB ebB p' p)))))
  | none => false
theorem eQ_ok {r : eO} {σ : eS} {C : eCs} {p : List Bool} (h : eQ r σ C p = true) : r = some (σ, C, p) := by
  unfold eQ at h
  split at h
  · next σ' C' p' =>
    rw [Bool.and_eq_true, Bool.and_eq_true, Bool.and_eq_true, Bool.and_eq_true, Bool.and_eq_true, Bool.and_eq_true] at h
    obtain ⟨h1, h2, h3, h4, h5, h6, h7⟩ := h
    have e : σ' = σ := Prod.ext (Nat.eq_of_beq_eq_true h1) (Prod.ext (elB_ok eoB_ok h2) (Prod.ext (elB_ok evB_ok h3) (Prod.ext (elB_ok edB_ok h4) (elB_ok ewB_ok h5))))
    rw [e, elB_ok ecB_ok h6, elB_ok ebB_ok h7]
  · cases h
