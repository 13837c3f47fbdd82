/-! CALLS: counter -/
def euW : Nat → Nat → Nat → Bool
  | 0, _, _ => false
  | f + 1, a, b => if b = 0 then false else if 2 * b ≤ a then true else !euW f b (a - b)
def mxN (a b : Nat) : Nat := if a < b then b else a
def miN (a b : Nat) : Nat := if b < a then b else a
def wS (a b : Nat) : Bool := euW 400 (mxN a b) (miN a b)
def tmO (a b : Nat) : Option Nat := fnd (fun q => !wS (a - q * b) b) (a / b) 1
theorem win_fin : ∀ a b : Fin 100, b.val ≤ a.val → 0 < b.val → (tmO a.val b.val).isSome = wS a.val b.val := by decide +kernel
def tN (a b : Nat) : Nat := (tmO a b).getD 0
theorem tN_0 {a b : Nat} (ha : a < 100) (hb : b ≤ a) (h0 : 0 < b) : (tN a b = 0) = (wS a b = false) := by
  have h := win_fin ⟨a, ha⟩ ⟨b, by omega⟩ hb h0
  dsimp only at h
  rw [← h]
  unfold tN
  cases ht : tmO a b with
  | none => simp
  | some j =>
    have := fnd_lt _ _ _ ht
    simp; omega
theorem tN_le {a b : Nat} (ha : a < 100) : tN a b ≤ 100 := by
  unfold tN
  cases ht : tmO a b with
  | none => simp
  | some j =>
    have h1 := fnd_lt _ _ _ ht
    have h2 := Nat.div_le_self a b
    show j ≤ 100
    omega
def tbK (X : Nat → Int32) (n : Nat) : Prop := ∀ u v, u < n → 0 < v → v ≤ u → X (100 * u + v) = iN (tN u v)
