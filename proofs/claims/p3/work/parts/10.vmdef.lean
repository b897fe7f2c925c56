/-! ===== a small machine of my own: values are known ints, ints between two bounds, known longs, places of a list of objects ===== -/
/-- inl u: the int nI u; inr inl (lo, hi): an int x, lo ≤ x + 2^31 ≤ hi; then the long lN u; null or the object at a place; 0 the script, 1 the text, 2 its bytes, 3 some reference or null -/
abbrev vAV : Type := Nat ⊕ (Nat × Nat) ⊕ Nat ⊕ Option Nat ⊕ Nat
abbrev vOb : Type := Nat × List vAV
abbrev vLs : Type := List (Option vAV)
noncomputable def vF {α : Type} (n : Nat) (k : Nat → α) : α := Nat.rec (motive := fun _ => α) (k 0) (fun m _ => k (Nat.succ m)) n
theorem vF_eq {α : Type} (n : Nat) (k : Nat → α) : vF n k = k n := by cases n <;> rfl
def vAny : vAV := .inr (.inl (0, 4294967295))
def vG (b sa sv : Nat) (ad : List Nat) : vAV → Value → Prop
  | .inl u, v => u < 4294967296 ∧ v = .int (nI u)
  | .inr (.inl q), v => ∃ x : Int32, v = .int x ∧ (q.1 : Int) ≤ x.toInt + 2147483648 ∧ x.toInt + 2147483648 ≤ (q.2 : Int)
  | .inr (.inr (.inl u)), v => u < 18446744073709551616 ∧ v = .long (lN u)
  | .inr (.inr (.inr (.inl none))), v => v = .null
  | .inr (.inr (.inr (.inl (some k)))), v => ∃ a, ad[k]? = some a ∧ v = .ref a
  | .inr (.inr (.inr (.inr z))), v => (z = 0 ∧ v = .ref b) ∨ (z = 1 ∧ v = .ref sa) ∨ (z = 2 ∧ v = .ref sv) ∨ (z = 3 ∧ (v = .null ∨ ∃ t, v = .ref t))
/-- its kind: 0 an int, 1 a long, 2 null, 3 a reference -/
def vKd : vAV → Nat
  | .inl _ => 0
  | .inr (.inl _) => 0
  | .inr (.inr (.inl _)) => 1
  | .inr (.inr (.inr (.inl none))) => 2
  | .inr (.inr (.inr (.inl (some _)))) => 3
  | .inr (.inr (.inr (.inr 3))) => 2
  | .inr (.inr (.inr (.inr _))) => 3
noncomputable def vIv : vAV → Option (Nat × Nat)
  | .inl u => vF ((u + 2147483648) % 4294967296) (fun r => some (r, r))
  | .inr (.inl q) => some q
  | _ => none
def vLt (x y : Nat × Nat) : Option Bool := bif Nat.blt x.2 y.1 then some true else bif Nat.ble y.2 x.1 then some false else none
def vEq (x y : Nat × Nat) : Option Bool := bif Nat.blt x.2 y.1 then some false else bif Nat.blt y.2 x.1 then some false else bif Nat.beq x.1 x.2 && Nat.beq y.1 y.2 && Nat.beq x.1 y.1 then some true else none
noncomputable def vB (op : Nat → Nat → Nat) (x y : vAV) : Option vAV := match x, y with
  | .inl u, .inl w => vF (op u w) (fun r => some (.inl r))
  | .inl _, .inr (.inl _) => some vAny
  | .inr (.inl _), .inl _ => some vAny
  | .inr (.inl _), .inr (.inl _) => some vAny
  | _, _ => none
def vAdd (u w : Nat) : Nat := (u + w) % 4294967296
def vSub (u w : Nat) : Nat := (u + (4294967296 - w)) % 4294967296
def vMul (u w : Nat) : Nat := (u * w) % 4294967296
def vShl (u w : Nat) : Nat := (u * 2 ^ (w % 32)) % 4294967296
def vUsh (u w : Nat) : Nat := u / 2 ^ (w % 32)
def vShr (u w : Nat) : Nat := bif Nat.blt u 2147483648 then u / 2 ^ (w % 32) else 4294967295 - (4294967295 - u) / 2 ^ (w % 32)
/-- the locals behind a store of one slot -/
def vSet1 (ls : vLs) (a : Nat) (v : vAV) : vLs := match a with
  | 0 => ls.set 0 (some v)
  | a' + 1 => match ls.getD a' none with
    | some (.inr (.inr (.inl _))) => (ls.set a' none).set (a' + 1) (some v)
    | _ => ls.set (a' + 1) (some v)
def vSet2 (ls : vLs) (a : Nat) (v : vAV) : vLs := (vSet1 ls a v).set (a + 1) none
