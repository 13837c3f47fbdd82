/-! SHARES: the class's most -/
def gaF (ga : Nat → Nat → Nat) (f : Nat) : Nat → Nat → Nat := fun q g => ga (f + q) g
def tb (X : Nat) : Nat → Bool := fun q => X.testBit q
def dif (X Y : Nat) : Nat := X &&& (63 ^^^ Y)
def mkM (T : Nat → Bool) : Nat := (if T 0 then 1 else 0) + (if T 1 then 2 else 0) + (if T 2 then 4 else 0) + (if T 3 then 8 else 0) + (if T 4 then 16 else 0) + (if T 5 then 32 else 0)
section MQ
variable {ga : Nat → Nat → Nat} {g g' q v w n p r f G K X Y : Nat} {lf lf' : Nat → Nat} {S S' T : Nat → Bool}
theorem optR_sh : ∀ r p lf, optR (gaF ga f) G r p lf = optR ga G r (f + p) lf
  | 0, _, _ => rfl
  | r + 1, p, lf => by
    show mxQ (fun g => if 0 < lf g then gaF ga f p g + optR (gaF ga f) G r (p + 1) (dcL lf g) else 0) (optR (gaF ga f) G r (p + 1) lf) G = mxQ (fun g => if 0 < lf g then ga (f + p) g + optR ga G r (f + p + 1) (dcL lf g) else 0) (optR ga G r (f + p + 1) lf) G
    have e : (fun g => if 0 < lf g then gaF ga f p g + optR (gaF ga f) G r (p + 1) (dcL lf g) else 0) = (fun g => if 0 < lf g then ga (f + p) g + optR ga G r (f + p + 1) (dcL lf g) else 0) := by
      funext g
      rw [optR_sh r (p + 1) (dcL lf g)]
      rfl
    rw [e, optR_sh r (p + 1) lf]
    rfl
theorem mk_lt : mkM T < 64 := by
  unfold mkM
  generalize T 0 = a0
  generalize T 1 = a1
  generalize T 2 = a2
  generalize T 3 = a3
  generalize T 4 = a4
  generalize T 5 = a5
  revert a0 a1 a2 a3 a4 a5
  decide
theorem tb_hi (h : X < 64) (hq : 6 ≤ q) : tb X q = false := Nat.testBit_lt_two_pow (Nat.lt_of_lt_of_le h (Nat.pow_le_pow_right (n := 2) (by decide) hq : 2 ^ 6 ≤ 2 ^ q))
theorem tb_mk (hT : ∀ q, 6 ≤ q → T q = false) : tb (mkM T) = T := by
  funext q
  by_cases h : q < 6
  · have key : ∀ a0 a1 a2 a3 a4 a5 : Bool, ∀ q : Fin 6, ((if a0 then 1 else 0) + (if a1 then 2 else 0) + (if a2 then 4 else 0) + (if a3 then 8 else 0) + (if a4 then 16 else 0) + (if a5 then 32 else 0) : Nat).testBit q.val = [a0, a1, a2, a3, a4, a5].getD q.val false := by decide +kernel
    refine (key (T 0) (T 1) (T 2) (T 3) (T 4) (T 5) ⟨q, h⟩).trans ?_
    rcases (show q = 0 ∨ q = 1 ∨ q = 2 ∨ q = 3 ∨ q = 4 ∨ q = 5 by omega) with e | e | e | e | e | e <;> subst e <;> rfl
  · rw [hT q (by omega)]; exact tb_hi mk_lt (by omega)
theorem tb_dif (hX : X < 64) : tb (dif X Y) = fun q => tb X q && !tb Y q := by
  funext q
  unfold tb dif
  rw [Nat.testBit_and, Nat.testBit_xor]
  by_cases h : q < 6
  · have e : (63 : Nat).testBit q = true := by
      have key : ∀ q : Fin 6, (63 : Nat).testBit q.val = true := by decide
      exact key ⟨q, h⟩
    rw [e]
    generalize X.testBit q = a0
    generalize Y.testBit q = a1
    revert a0 a1
    decide
  · have e : X.testBit q = false := tb_hi hX (by omega)
    rw [e]; rfl
theorem dif_lt (hX : X < 64) : dif X Y ≤ X := Nat.and_le_left
theorem bc_tb (hX : X < 64) : bc (iN X) = iN (cnT (tb X) 6) := by
  have key : ∀ x : Fin 64, bc (iN x.val) = iN (cnT (tb x.val) 6) := by decide +kernel
  exact key ⟨X, hX⟩
theorem cnT_le : ∀ n, cnT T n ≤ n
  | 0 => Nat.le_refl _
  | n + 1 => by show cnT T n + (if T n then 1 else 0) ≤ n + 1; have := cnT_le n; split <;> omega
theorem dif_i (hX : X < 64) (hY : Y < 64) : iN X &&& (iN Y ^^^ -1) = iN (dif X Y) := by
  have key : ∀ x y : Fin 64, iN x.val &&& (iN y.val ^^^ -1) = iN (dif x.val y.val) := by decide +kernel
  exact key ⟨X, hX⟩ ⟨Y, hY⟩
theorem and_i (hX : X < 64) (hY : Y < 64) : iN Y &&& iN X = iN (Y &&& X) := by
  have key : ∀ x y : Fin 64, iN y.val &&& iN x.val = iN (y.val &&& x.val) := by decide +kernel
  exact key ⟨X, hX⟩ ⟨Y, hY⟩
theorem dif_lt' (hX : X < 64) (hY : Y < 64) (h0 : Y ≠ 0) (hs : Y &&& X = Y) : dif X Y < X := by
  have key : ∀ x y : Fin 64, y.val ≠ 0 → y.val &&& x.val = y.val → dif x.val y.val < x.val := by decide +kernel
  exact key ⟨X, hX⟩ ⟨Y, hY⟩ h0 hs
theorem sub_next (hX : X < 64) (hY : Y < 64) (h0 : Y ≠ 0) (hs : Y &&& X = Y) : ((Y - 1) &&& X) < Y ∧ ((Y - 1) &&& X) &&& X = (Y - 1) &&& X := by
  have key : ∀ x y : Fin 64, y.val ≠ 0 → y.val &&& x.val = y.val → ((y.val - 1) &&& x.val) < y.val ∧ ((y.val - 1) &&& x.val) &&& x.val = (y.val - 1) &&& x.val := by decide +kernel
  exact key ⟨X, hX⟩ ⟨Y, hY⟩ h0 hs
theorem sub_all (hX : X < 64) (hY : Y < 64) (hs : Y &&& X = Y) {Z : Nat} (hZ : Z < Y) (hZs : Z &&& X = Z) : Z ≤ (Y - 1) &&& X := by
  have key : ∀ x y : Fin 64, y.val &&& x.val = y.val → ∀ z : Fin 64, z.val &&& x.val = z.val → z.val < y.val → z.val ≤ (y.val - 1) &&& x.val := by decide +kernel
  exact key ⟨X, hX⟩ ⟨Y, hY⟩ hs ⟨Z, by omega⟩ hZs hZ
theorem sub_of (hX : X < 64) (hT : ∀ q, T q = true → tb X q = true) : mkM T &&& X = mkM T := by
  have h6 : ∀ q, 6 ≤ q → T q = false := fun q hq => by
    cases e : T q with
    | false => rfl
    | true => have := hT q e; rw [tb_hi hX hq] at this; cases this
  have e := tb_mk h6
  apply Nat.eq_of_testBit_eq
  intro q
  rw [Nat.testBit_and, show (mkM T).testBit q = T q from congrFun e q]
  cases ht : T q with
  | false => rfl
  | true => rw [show X.testBit q = true from hT q ht]; rfl
theorem swT_le (hga : ∀ q g, ga q g ≤ K) : ∀ n, swT ga T g n ≤ n * K
  | 0 => by show 0 ≤ 0 * K; omega
  | n + 1 => by
    show swT ga T g n + (if T n then ga n g else 0) ≤ (n + 1) * K
    have h1 := swT_le hga n
    have h2 := hga n g
    rw [Nat.add_mul, Nat.one_mul]
    split <;> omega
theorem Ach_le (hga : ∀ q g, ga q g ≤ K) : ∀ {g : Nat} {S : Nat → Bool} {v : Nat}, Ach ga g lf S v → v ≤ g * (6 * K)
  | 0, _, v, h => by rw [show v = 0 from h]; exact Nat.zero_le _
  | g + 1, S, v, ⟨T, h1, h2, v', h3, h4⟩ => by
    have a := Ach_le hga h3
    have b := swT_le (T := T) (g := g) hga 6
    rw [h4, Nat.add_mul, Nat.one_mul]
    omega
theorem Ach.up (h : Ach ga g lf S v) : Ach ga (g + 1) lf S v := by
  have z : ∀ n, cnT (fun _ => false) n = 0 ∧ swT ga (fun _ => false) g n = 0 := by
    intro n
    induction n with
    | zero => exact ⟨rfl, rfl⟩
    | succ n ih => exact ⟨by show cnT _ n + (if false then 1 else 0) = 0; rw [ih.1]; rfl, by show swT ga _ g n + (if false then ga n g else 0) = 0; rw [ih.2]; rfl⟩
  refine ⟨fun _ => false, fun q h => ?_, ?_, v, ?_, ?_⟩
  · cases h
  · rw [(z 6).1]; exact Nat.zero_le _
  · refine Ach.mono (fun q hq => ?_) h
    show (S q && !false) = true
    rw [hq]; rfl
  · rw [(z 6).2]; rfl
end MQ
