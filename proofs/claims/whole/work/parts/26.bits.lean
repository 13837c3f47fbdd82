/-! SETS of at most 8 as bits -/
def b8 (b0 b1 b2 b3 b4 b5 b6 b7 : Bool) (k : Nat) : Bool := match k with
  | 0 => b0 | 1 => b1 | 2 => b2 | 3 => b3 | 4 => b4 | 5 => b5 | 6 => b6 | 7 => b7 | _ => false
/-- if k is in the bits -/
def hasB (x : Int32) (k : Nat) : Bool := decide (((x >>> (iN k &&& 31)) &&& (1 : Int32)) = (1 : Int32))
theorem bt8_has : ∀ b0 b1 b2 b3 b4 b5 b6 b7 : Bool, ∀ k : Fin 8, hasB (bt (b8 b0 b1 b2 b3 b4 b5 b6 b7) 8) k.val = b8 b0 b1 b2 b3 b4 b5 b6 b7 k.val := by decide +kernel
theorem bt8_or : ∀ b0 b1 b2 b3 b4 b5 b6 b7 : Bool, ∀ k : Fin 8, (bt (b8 b0 b1 b2 b3 b4 b5 b6 b7) 8 ||| ((1 : Int32) <<< (iN k.val &&& 31))) = bt (fun i => (i == k.val) || b8 b0 b1 b2 b3 b4 b5 b6 b7 i) 8 := by decide +kernel
theorem bt8_an : ∀ b0 b1 b2 b3 b4 b5 b6 b7 : Bool, ∀ k : Fin 8, (bt (b8 b0 b1 b2 b3 b4 b5 b6 b7) 8 &&& (((1 : Int32) <<< (iN k.val &&& 31)) ^^^ (-1 : Int32))) = bt (fun i => !(i == k.val) && b8 b0 b1 b2 b3 b4 b5 b6 b7 i) 8 := by decide +kernel
theorem bt8_z : ∀ b0 b1 b2 b3 b4 b5 b6 b7 : Bool, bt (b8 b0 b1 b2 b3 b4 b5 b6 b7) 8 = 0 → ∀ k : Fin 8, b8 b0 b1 b2 b3 b4 b5 b6 b7 k.val = false := by decide +kernel
theorem b8_of (f : Nat → Bool) {k : Nat} (h : k < 8) : b8 (f 0) (f 1) (f 2) (f 3) (f 4) (f 5) (f 6) (f 7) k = f k := by
  match k, h with
  | 0, _ => rfl
  | 1, _ => rfl
  | 2, _ => rfl
  | 3, _ => rfl
  | 4, _ => rfl
  | 5, _ => rfl
  | 6, _ => rfl
  | 7, _ => rfl
theorem bt_b8 (f : Nat → Bool) : bt f 8 = bt (b8 (f 0) (f 1) (f 2) (f 3) (f 4) (f 5) (f 6) (f 7)) 8 := bt_congr (fun k h => (b8_of f h).symm)
theorem bt_ext {f : Nat → Bool} {n : Nat} : ∀ m, n ≤ m → bt (fun k => decide (k < n) && f k) m = bt f n
  | 0, h => by
    have h0 : n = 0 := by omega
    subst h0; rfl
  | m + 1, h => by
    by_cases e : n = m + 1
    · subst e
      exact bt_congr (fun k hk => by simp only [hk, decide_true, Bool.true_and])
    · show bt (fun k => decide (k < n) && f k) m ||| (if (decide (m < n) && f m) = true then _ else _) = _
      rw [bt_ext m (by omega), decide_eq_false (by omega), Bool.false_and, if_neg (by decide)]
      exact Int32.or_zero
theorem bt_has {f : Nat → Bool} {n k : Nat} (hn : n ≤ 8) (hk : k < 8) : hasB (bt f n) k = (decide (k < n) && f k) := by
  rw [← bt_ext 8 hn, bt_b8]
  have h := bt8_has (decide (0 < n) && f 0) (decide (1 < n) && f 1) (decide (2 < n) && f 2) (decide (3 < n) && f 3) (decide (4 < n) && f 4) (decide (5 < n) && f 5) (decide (6 < n) && f 6) (decide (7 < n) && f 7) ⟨k, hk⟩
  rw [h]
  exact b8_of (fun k => decide (k < n) && f k) hk
theorem bt_or {f : Nat → Bool} {k : Nat} (hk : k < 8) : bt f 8 ||| ((1 : Int32) <<< (iN k &&& 31)) = bt (fun i => (i == k) || f i) 8 := by
  rw [bt_b8 f]
  rw [bt8_or _ _ _ _ _ _ _ _ ⟨k, hk⟩]
  exact bt_congr (fun i hi => by rw [b8_of f hi])
theorem bt_an {f : Nat → Bool} {k : Nat} (hk : k < 8) : bt f 8 &&& (((1 : Int32) <<< (iN k &&& 31)) ^^^ (-1 : Int32)) = bt (fun i => !(i == k) && f i) 8 := by
  rw [bt_b8 f]
  rw [bt8_an _ _ _ _ _ _ _ _ ⟨k, hk⟩]
  exact bt_congr (fun i hi => by rw [b8_of f hi])
theorem bt_z {f : Nat → Bool} {n k : Nat} (hn : n ≤ 8) (hk : k < n) (h : bt f n = 0) : f k = false := by
  rw [← bt_ext 8 hn, bt_b8] at h
  have h2 := bt8_z _ _ _ _ _ _ _ _ h ⟨k, by omega⟩
  rw [b8_of (fun k => decide (k < n) && f k) (show k < 8 by omega)] at h2
  simpa [hk] using h2
