/-! CALLS: looks: how often, the most -/
def cN (c : Nat → Bool) (V : Nat → Nat) (v : Nat) : Nat → Nat
  | 0 => 0
  | g + 1 => if c g && decide (V g = v) then cN c V v g + 1 else cN c V v g
def mM (f : Nat → Nat) : Nat → Nat
  | 0 => 0
  | k + 1 => if mM f k < f k then f k else mM f k
def rM (c : Nat → Bool) (V : Nat → Nat) : Nat → Nat
  | 0 => 0
  | g + 1 => if c g then (if rM c V g < cN c V (V g) (g + 1) then cN c V (V g) (g + 1) else rM c V g) else rM c V g
theorem cN_le {c : Nat → Bool} {V : Nat → Nat} {v : Nat} : ∀ k, cN c V v k ≤ k
  | 0 => Nat.le_refl _
  | k + 1 => by
    have := cN_le (c := c) (V := V) (v := v) k
    unfold cN
    split <;> omega
theorem mM_ge {f : Nat → Nat} : ∀ {k j : Nat}, j < k → f j ≤ mM f k
  | 0, _, h => absurd h (Nat.not_lt_zero _)
  | k + 1, j, h => by
    unfold mM
    by_cases hj : j = k
    · subst hj; split <;> omega
    · have := mM_ge (f := f) (k := k) (j := j) (by omega)
      split <;> omega
theorem mM_le {f : Nat → Nat} {b : Nat} : ∀ {k : Nat}, (∀ j, j < k → f j ≤ b) → mM f k ≤ b
  | 0, _ => Nat.zero_le _
  | k + 1, h => by
    have h1 := mM_le (k := k) (fun j hj => h j (by omega))
    have h2 := h k (by omega)
    unfold mM
    split <;> omega
theorem rM_eq {c : Nat → Bool} {V : Nat → Nat} : ∀ k, (∀ g, g < k → V g < 10) → rM c V k = mM (fun v => cN c V v k) 10
  | 0, _ => by
    apply Nat.le_antisymm (Nat.zero_le _)
    exact mM_le (fun j _ => Nat.le_refl _)
  | k + 1, h => by
    have ih := rM_eq (c := c) (V := V) k (fun g hg => h g (by omega))
    have hv := h k (by omega)
    unfold rM
    cases hc : c k with
    | false =>
      rw [if_neg (by decide), ih]
      congr 1
      funext v
      show _ = (if c k && decide (V k = v) then cN c V v k + 1 else cN c V v k)
      rw [hc, Bool.false_and, if_neg (by decide)]
    | true =>
      rw [if_pos rfl]
      have e0 : cN c V (V k) (k + 1) = cN c V (V k) k + 1 := by
        show (if c k && decide (V k = V k) then _ else _) = _
        rw [hc, decide_eq_true rfl, Bool.and_self, if_pos rfl]
      have e1 : ∀ v, cN c V v k ≤ cN c V v (k + 1) := fun v => by
        show _ ≤ (if c k && decide (V k = v) then cN c V v k + 1 else cN c V v k)
        split <;> omega
      have e2 : ∀ v, ¬ v = V k → cN c V v (k + 1) = cN c V v k := fun v hne => by
        show (if c k && decide (V k = v) then cN c V v k + 1 else cN c V v k) = _
        rw [decide_eq_false (fun e => hne e.symm), Bool.and_false, if_neg (by decide)]
      have g1 : cN c V (V k) (k + 1) ≤ mM (fun v => cN c V v (k + 1)) 10 := mM_ge (f := fun v => cN c V v (k + 1)) hv
      have g2 : mM (fun v => cN c V v k) 10 ≤ mM (fun v => cN c V v (k + 1)) 10 := mM_le (fun j hj => Nat.le_trans (e1 j) (mM_ge (f := fun v => cN c V v (k + 1)) hj))
      have g3 : mM (fun v => cN c V v (k + 1)) 10 ≤ (if rM c V k < cN c V (V k) (k + 1) then cN c V (V k) (k + 1) else rM c V k) := by
        refine mM_le (fun j hj => ?_)
        show cN c V j (k + 1) ≤ _
        by_cases hj2 : j = V k
        · subst hj2; split <;> omega
        · rw [e2 j hj2]
          have := mM_ge (f := fun v => cN c V v k) hj
          rw [← ih] at this
          split <;> omega
      rw [← ih] at g2
      apply Nat.le_antisymm _ g3
      split <;> omega
section LK
variable {I A E I' A' : Nat → Nat → Int32} {L L' : Nat → Int64} {pr ot s : Nat} {J J' : Nat → Int32} {B B' : Nat → Nat → Int32} {M M' : Nat → Int64} {rdv rdv' : Value} {ru : Nat} {T : PH} {G P W p q g n nr sz ro oa w t k N d m : Nat} {Z Z' R X a : Nat → Int32} {x y z i2 acc : Int32} {out : Nat → Int64} {pu : (Nat → Int32) → Int32}
theorem c_fill40 : ∃ F, (∀ h, h < 40 → F h = 0) ∧ fJ7_fill_53178 39 0 (encC I A L pr ot T) = some ((), (encC I (u1 A 39 F) L pr ot T)) := by
  have key := lp_k (fun (_ : Unit) n k (F : Nat → Int32) => fJ7_fill_53178_L5 39 0 (iN 40) (fun h2 => some ((), h2)) n (iN k) (encC I (u1 A 39 F) L pr ot T)) (fun _ F => some ((), (encC I (u1 A 39 F) L pr ot T))) (fun k F => ∀ h, h < k → F h = 0) 40
    (fun k F hk hi => by
      refine ⟨upd F k 0, fun h hh => ?_, fun _ n => ?_⟩
      · rw [upd_if]
        split
        · rfl
        · exact hi h (by omega)
      · show fJ7_fill_53178_L5 39 0 (iN 40) (fun h2 => some ((), h2)) (n + 1) (iN k) (encC I (u1 A 39 F) L pr ot T) = _
        rw [fJ7_fill_53178_L5, if_neg (show ¬ iN 40 ≤ iN k by rw [iN_le (by omega) (by omega)]; omega), bS_39 (by rw [show (0 : Int32) = iN 0 from rfl, iN_lt (by omega) (by omega), iN_nat (by omega)]; omega), iN_nat (by omega), letE_eq, show iN k + (1 : Int32) = iN (k + 1) from iN_add, u1_u1, u1_eq, if_pos rfl])
    (fun F hi _ n => by
      show fJ7_fill_53178_L5 39 0 (iN 40) (fun h2 => some ((), h2)) (n + 1) (iN 40) (encC I (u1 A 39 F) L pr ot T) = _
      rw [fJ7_fill_53178_L5, if_pos (show iN 40 ≤ iN 40 by decide)]) 40 0 (A 39) (by omega) (fun h hh => absurd hh (Nat.not_lt_zero _))
  obtain ⟨F, k1, k2⟩ := key
  refine ⟨F, k1, ?_⟩
  have k3 := k2 () FU (by unfold FU; omega)
  rw [u1_self] at k3
  unfold fJ7_fill_53178
  rw [bN_39]
  exact k3
end LK
