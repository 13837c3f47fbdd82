/-! THE LAW'S LOOP over what holds between two calls; the start -/
/-- a call: the class answers, then the model, the same -/
def pairG (s : Nat) (I A : Nat → Nat → Int32) (L : Nat → Int64) (pr ot : Nat) (J : Nat → Int32) (B : Nat → Nat → Int32) (M : Nat → Int64) (rdv : Value) (ru : Nat) (out : Nat → Int64) (f g : PH → Option (Int32 × PH)) : Prop :=
  ∃ ans I' A' L' pr' ot' J' B' M' rdv' ru' G' P' W', f (EH I A L pr ot J B M rdv ru out) = some (ans, EH I' A' L' pr' ot' J B M rdv ru out) ∧ g (EH I' A' L' pr' ot' J B M rdv ru out) = some (ans, EH I' A' L' pr' ot' J' B' M' rdv' ru' out) ∧ INV (s + 1) I' A' L' pr' ot' J' B' M' ru' G' P' W'
section LP
variable {I A : Nat → Nat → Int32} {L : Nat → Int64} {pr ot s : Nat} {J : Nat → Int32} {B : Nat → Nat → Int32} {M : Nat → Int64} {rdv : Value} {ru : Nat} {out : Nat → Int64} {G P W : Nat}
theorem pairG_q {ans : Int32} {rw : Option (List Int64)} {f g : PH → Option (Int32 × PH)} (h : INV s I A L pr ot J B M ru G P W) (hc : ∀ T, qC I A L pr ot T f ans rw) (hm : qM J B M rdv ru g ans rw) : pairG s I A L pr ot J B M rdv ru out f g := by
  obtain ⟨I', A', L', J', B', M', rdv', e1, e2, e3⟩ := h.qq (T := [.inl (.long, (1, .inr (.inl out)))]) (hc _) hm
  exact ⟨ans, I', A', L', pr, ot, J', B', M', rdv', ru, G, P, W, e1, e2, e3⟩
theorem ck10 : h_ck 10 (EH I A L pr ot J B M rdv ru out) 0 = some () := rfl
theorem ck11 : h_ck 11 (EH I A L pr ot J B M rdv ru out) 45 = some () := rfl
theorem stepG_ite {c : Int32 → Prop} (x : Int32) [Decidable (c x)] {f g : (Nat → Int32) → Nat → Nat → Nat → Nat → Int32 → (Int32 → PH → Option (Unit × PH)) → PH → Option (Unit × PH)} (h1 : stepG f) (h2 : stepG g) : stepG (fun xs N o1 o2 o3 i rc h => if c x then f xs N o1 o2 o3 i rc h else g xs N o1 o2 o3 i rc h) := by
  intro xs N s I A L pr ot J B M rdv ru out G P W hN hs hI
  by_cases hc : c x
  · obtain ⟨I', A', L', pr', ot', J', B', M', rdv', ru', out', G', P', W', e1, e2⟩ := h1 xs N s I A L pr ot J B M rdv ru out G P W hN hs hI
    exact ⟨I', A', L', pr', ot', J', B', M', rdv', ru', out', G', P', W', e1, fun rc => (if_pos hc).trans (e2 rc)⟩
  · obtain ⟨I', A', L', pr', ot', J', B', M', rdv', ru', out', G', P', W', e1, e2⟩ := h2 xs N s I A L pr ot J B M rdv ru out G P W hN hs hI
    exact ⟨I', A', L', pr', ot', J', B', M', rdv', ru', out', G', P', W', e1, fun rc => (if_neg hc).trans (e2 rc)⟩
theorem INV.next (h : INV s I A L pr ot J B M ru G P W) : INV (s + 1) I A L pr ot J B M ru G P W :=
  h.q frI.refl frQ.refl frRJ.refl frRB.refl h.2.2.2.2.2.2.2.2.2.2.2.1
theorem stepG_no : stepG (fun _ _ _ _ _ i4 rc h => letE (i4 + (5 : Int32)) fun y => rc y h) := by
  intro xs N s I A L pr ot J B M rdv ru out G P W hN hs hI
  refine ⟨I, A, L, pr, ot, J, B, M, rdv, ru, out, G, P, W, hI.next, fun rc => ?_⟩
  show rc (iN (5 * s) + (5 : Int32)) _ = _
  rw [show (5 : Int32) = iN 5 from rfl, iN_add]
  rw [show 5 * s + 5 = 5 * (s + 1) by omega]
theorem law_loop (hw : ∀ x, stepG (fun xs N o1 o2 o3 i rc h => fLsw xs N o1 o2 o3 i rc x h)) {xs : Nat → Int32} {N : Nat} (hN : N ≤ 2560) : ∀ (d s : Nat) (I A : Nat → Nat → Int32) (L : Nat → Int64) (pr ot : Nat) (J : Nat → Int32) (B : Nat → Nat → Int32) (M : Nat → Int64) (rdv : Value) (ru : Nat) (out : Nat → Int64) (G P W : Nat), N < 5 * s + 5 * d + 5 → s ≤ 600 → INV s I A L pr ot J B M ru G P W → ∀ n, d < n → ∃ h', fL_law_L23 xs N 0 45 78 (fun h => some ((), h)) n (iN (5 * s)) (EH I A L pr ot J B M rdv ru out) = some ((), h') := by
  intro d
  induction d with
  | zero =>
    intro s I A L pr ot J B M rdv ru out G P W hd hs hI n hn
    obtain ⟨m, rfl⟩ : ∃ m, n = m + 1 := ⟨n - 1, by omega⟩
    refine ⟨EH I A L pr ot J B M rdv ru out, ?_⟩
    show (if Int32.ofNat N - (5 : Int32) < iN (5 * s) then _ else _) = _
    rw [if_pos]
    rw [Int32.lt_iff_toInt_lt, iN_int (by omega), show Int32.ofNat N = iN N from rfl, Int32.toInt_sub, iN_int (by omega), show (5 : Int32).toInt = 5 by decide]
    have : ((N : Int) - 5).bmod (2 ^ 32) = (N : Int) - 5 := by
      rw [Int.bmod_eq_of_le] <;> omega
    omega
  | succ d ih =>
    intro s I A L pr ot J B M rdv ru out G P W hd hs hI n hn
    obtain ⟨m, rfl⟩ : ∃ m, n = m + 1 := ⟨n - 1, by omega⟩
    by_cases hc : 5 * s + 5 ≤ N
    · obtain ⟨I', A', L', pr', ot', J', B', M', rdv', ru', out', G', P', W', e1, e2⟩ := hw (xs (5 * s) &&& (63 : Int32)) xs N s I A L pr ot J B M rdv ru out G P W hN hc hI
      obtain ⟨h', e3⟩ := ih (s + 1) I' A' L' pr' ot' J' B' M' rdv' ru' out' G' P' W' (by omega) (by omega) e1 m (by omega)
      refine ⟨h', ?_⟩
      show (if Int32.ofNat N - (5 : Int32) < iN (5 * s) then _ else _) = _
      rw [if_neg]
      · rw [s_rd_in (by omega) hN]
        exact (e2 _).trans e3
      · rw [show Int32.ofNat N = iN N from rfl, show (5 : Int32) = iN 5 from rfl, iN_sub (by omega), iN_lt (by omega) (by omega)]
        omega
    · refine ⟨EH I A L pr ot J B M rdv ru out, ?_⟩
      show (if Int32.ofNat N - (5 : Int32) < iN (5 * s) then _ else _) = _
      rw [if_pos]
      rw [Int32.lt_iff_toInt_lt, iN_int (by omega), show Int32.ofNat N = iN N from rfl, Int32.toInt_sub, iN_int (by omega), show (5 : Int32).toInt = 5 by decide]
      have : ((N : Int) - 5).bmod (2 ^ 32) = (N : Int) - 5 := by
        rw [Int.bmod_eq_of_le] <;> omega
      omega
end LP
/-! the start -/
def Z00 : Nat → Nat → Int32
  | 0 => fun _ => 0
  | k + 1 => upd (Z00 k) (32 + k) (-1)
def I00 : Nat → Nat → Int32 := fun o k => if o = 3 ∧ k = 0 then 55 else if o = 3 ∧ k = 1 then 6 else if o = 3 ∧ k = 2 then 2 else if o = 4 ∧ k = 0 then 35 else if o = 4 ∧ k = 1 then 5 else if o = 4 ∧ k = 2 then 5 else if o = 5 ∧ k = 0 then 59 else if o = 6 ∧ k = 0 then 60 else if o = 19 ∧ k = 0 then 40 else if o = 23 ∧ k = 0 then 40 else 0
def A00 : Nat → Nat → Int32 := fun o => if o = 28 ∨ o = 32 then Z00 48 else fun _ => 0
theorem Z00_eq {j : Nat} : ∀ k, Z00 k j = if 32 ≤ j ∧ j < 32 + k then -1 else 0
  | 0 => by
    rw [if_neg (by omega)]; rfl
  | k + 1 => by
    unfold Z00 upd
    by_cases e : j = 32 + k
    · rw [if_pos e, if_pos (by omega)]
    · rw [if_neg e, Z00_eq k]
      by_cases c : 32 ≤ j ∧ j < 32 + k
      · rw [if_pos c, if_pos (by omega)]
      · rw [if_neg c, if_neg (by omega)]
def H00 : PH := encC I00 A00 (fun _ => 0) 19 23 []
set_option maxRecDepth 100000 in
set_option maxHeartbeats 4000000 in
theorem init_C : fX11_init 0 [.inr (10, [.null, .null, .null, .null, .null, .null, .null, .null, .null, .null, .null])] = some ((), H00) := by
  rfl
set_option maxRecDepth 100000 in
set_option maxHeartbeats 4000000 in
theorem init_M : fX12_init 45 (H00 ++ [.inr (11, [.null, .int 0, .int 0, .int 0, .null, .null, .null, .null, .null, .null, .int 0, .null, .int 0, .int 0, .null, .int 0, .int 0, .int 0, .int 0, .null, .null, .null, .null, .int 0, .int 0, .null, .null, .int 0, .null, .null, .null, .int 0, .null, .null, .null, .null, .null, .int 0, .null, .null, .null, .null, .null, .null, .int 0, .null, .int 0, .int 0, .null, .null, .null])]) = some ((), encC I00 A00 (fun _ => 0) 19 23 (encR (fun _ => 0) (fun _ _ => 0) (fun _ => 0) .null 56 [])) := by
  rfl
