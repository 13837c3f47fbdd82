/-! WHAT HOLDS BETWEEN TWO CALLS -/
def TX (I A : Nat → Nat → Int32) (J : Nat → Int32) (B : Nat → Nat → Int32) : Prop :=
  ∃ n, n ≤ 80 ∧ I 1 1 = iN n ∧ J 10 = iN n ∧ ∀ k, k < n → ∃ c, c < 256 ∧ A 2 k = iN c ∧ B 9 k &&& 255 = iN c ∧ (c < 128 → B 9 k = iN c)
def RLS (I A : Nat → Nat → Int32) (pr ot : Nat) (J : Nat → Int32) (B : Nat → Nat → Int32) (ru : Nat) : Prop :=
  (pr = 19 ∧ ot = 23 ∨ pr = 23 ∧ ot = 19) ∧ ru = 56 ∧ ∃ pu n, n ≤ 40 ∧ RU I A pr pu ∧ MUR n (B 21) pu ∧ J 23 = iN n
def PAS (I A : Nat → Nat → Int32) (J : Nat → Int32) (B : Nat → Nat → Int32) (G P : Nat) : Prop :=
  ∃ nx sz, nx < 12 ∧ sz ≤ 12 ∧ I 7 1 = iN nx ∧ I 7 2 = iN sz ∧ J 27 = iN sz ∧ ∀ j, j < sz → OK G P (rwC (A 8) ((nx + 12 - sz + j) % 12)) ∧ CP (rwC (A 8) ((nx + 12 - sz + j) % 12)) (rwM (B 26) j)
def KPS (s : Nat) (I A : Nat → Nat → Int32) (J : Nat → Int32) (B : Nat → Nat → Int32) (G P : Nat) : Prop :=
  ∃ c kp, c ≤ s ∧ J 47 = iN c ∧ I 7 3 = bt kp 8 ∧ ∀ i, i < 2 → (kp i = true → B 49 i = 1 ∧ B 50 i = iN c ∧ OK G P (rwC (A 8) (12 + i)) ∧ CP (rwC (A 8) (12 + i)) (rwM (B 48) i)) ∧ (kp i = false → B 49 i = 0 ∨ (B 49 i = 1 ∧ ∃ c', c' < c ∧ B 50 i = iN c'))
def NTS (I A : Nat → Nat → Int32) (J : Nat → Int32) (B : Nat → Nat → Int32) : Prop :=
  ∃ m, m ≤ 12 ∧ I 35 13 = iN m ∧ J 37 = iN m ∧ ∀ k, k < m → ∃ n h v, n ≤ 30 ∧ h < 4 ∧ v < 10 ∧ A 36 k = iN n ∧ B 34 k = iN n ∧ A 37 k = iN h ∧ B 35 k = iN h ∧ A 38 k = iN v ∧ B 36 k = iN v
def RWS (I : Nat → Nat → Int32) (L : Nat → Int64) (J : Nat → Int32) (M : Nat → Int64) : Prop :=
  ∃ m, m ≤ 8 ∧ I 9 1 = iN m ∧ J 12 = iN m ∧ ∀ k, k < m → L k = M k
def FMS (I : Nat → Nat → Int32) : Prop :=
  I 3 0 = 55 ∧ I 3 1 = 6 ∧ I 3 2 = 2 ∧ I 4 0 = 35 ∧ I 4 1 = 5 ∧ I 4 2 = 5 ∧ I 5 0 = 59 ∧ I 6 0 = 60 ∧ I 19 0 = 40 ∧ I 23 0 = 40
def PLS (A : Nat → Nat → Int32) (G : Nat) : Prop := ∀ k, k < G * 4 → A 13 k = -1 ∨ ∃ v, v < 10 ∧ A 13 k = iN v
def INV (s : Nat) (I A : Nat → Nat → Int32) (L : Nat → Int64) (pr ot : Nat) (J : Nat → Int32) (B : Nat → Nat → Int32) (M : Nat → Int64) (ru : Nat) (G P W : Nat) : Prop :=
  FS I G P W ∧ FM A J B G P W ∧ PLS A G ∧ OK G P (A 28) ∧ CP (A 28) (B 0) ∧ nz (A 32) ∧ TX I A J B ∧ RLS I A pr ot J B ru ∧ PAS I A J B G P ∧ KPS s I A J B G P ∧ NTS I A J B ∧ RWS I L J M ∧ FMS I
/-- the two heaps, and the law's array -/
def EH (I A : Nat → Nat → Int32) (L : Nat → Int64) (pr ot : Nat) (J : Nat → Int32) (B : Nat → Nat → Int32) (M : Nat → Int64) (rdv : Value) (ru : Nat) (out : Nat → Int64) : PH :=
  encC I A L pr ot (encR J B M rdv ru [.inl (.long, (1, .inr (.inl out)))])
/-- a call of the law's script leads on -/
def stepG (f : (Nat → Int32) → Nat → Nat → Nat → Nat → Int32 → (Int32 → PH → Option (Unit × PH)) → PH → Option (Unit × PH)) : Prop :=
  ∀ (xs : Nat → Int32) (N s : Nat) (I A : Nat → Nat → Int32) (L : Nat → Int64) (pr ot : Nat) (J : Nat → Int32) (B : Nat → Nat → Int32) (M : Nat → Int64) (rdv : Value) (ru : Nat) (out : Nat → Int64) (G P W : Nat), N ≤ 2560 → 5 * s + 5 ≤ N → INV s I A L pr ot J B M ru G P W →
    ∃ I' A' L' pr' ot' J' B' M' rdv' ru' out' G' P' W', INV (s + 1) I' A' L' pr' ot' J' B' M' ru' G' P' W' ∧ ∀ rc, f xs N 0 45 78 (iN (5 * s)) rc (EH I A L pr ot J B M rdv ru out) = rc (iN (5 * (s + 1))) (EH I' A' L' pr' ot' J' B' M' rdv' ru' out')
/-! what questions leave -/
def frI (I I' : Nat → Nat → Int32) : Prop := ∀ o k, ¬ (o = 9 ∧ k = 1) → I' o k = I o k
def frQ (A A' : Nat → Nat → Int32) : Prop := (∀ x, (x ≤ 20 ∨ x = 23 ∨ x = 24 ∨ x = 28 ∨ x = 36 ∨ x = 37 ∨ x = 38) → A' x = A x) ∧ (nz (A 32) → nz (A' 32))
def frRJ (J J' : Nat → Int32) : Prop := ∀ x, (x = 1 ∨ x = 2 ∨ x = 3 ∨ x = 10 ∨ x = 23 ∨ x = 27 ∨ x = 37 ∨ x = 47) → J' x = J x
def frRB (B B' : Nat → Nat → Int32) : Prop := ∀ x, (x = 0 ∨ (4 ≤ x ∧ x ≤ 9) ∨ x = 21 ∨ x = 22 ∨ x = 26 ∨ x = 34 ∨ x = 35 ∨ x = 36 ∨ x = 48 ∨ x = 49 ∨ x = 50) → B' x = B x
def rowC (n : Int32) (L : Nat → Int64) (xs : List Int64) : Prop := n = iN xs.length ∧ ∀ k, k < xs.length → L k = xs.getD k 0
/-- the row stays, or is xs -/
def rowQ (n : Int32) (L : Nat → Int64) (n' : Int32) (L' : Nat → Int64) : Option (List Int64) → Prop
  | none => n' = n ∧ L' = L
  | some xs => xs.length ≤ 8 ∧ rowC n' L' xs
/-- the class answers a question so -/
def qC (I A : Nat → Nat → Int32) (L : Nat → Int64) (pr ot : Nat) (T : PH) (f : PH → Option (Int32 × PH)) (ans : Int32) (rw : Option (List Int64)) : Prop :=
  ∃ I' A' L', f (encC I A L pr ot T) = some (ans, encC I' A' L' pr ot T) ∧ frI I I' ∧ frQ A A' ∧ rowQ (I 9 1) L (I' 9 1) L' rw
def qM (J : Nat → Int32) (B : Nat → Nat → Int32) (M : Nat → Int64) (rdv : Value) (ru : Nat) (f : PH → Option (Int32 × PH)) (ans : Int32) (rw : Option (List Int64)) : Prop :=
  ∀ (I E : Nat → Nat → Int32) (L : Nat → Int64) (pr ot : Nat) (T : PH), ∃ J' B' M' rdv', f (encC I E L pr ot (encR J B M rdv ru T)) = some (ans, encC I E L pr ot (encR J' B' M' rdv' ru T)) ∧ frRJ J J' ∧ frRB B B' ∧ rowQ (J 12) M (J' 12) M' rw
section IV
variable {I A I' A' : Nat → Nat → Int32} {L L' : Nat → Int64} {pr ot s : Nat} {J J' : Nat → Int32} {B B' : Nat → Nat → Int32} {M M' : Nat → Int64} {rdv : Value} {ru : Nat} {T : PH} {G P W : Nat}
theorem frI.refl : frI I I := fun _ _ _ => rfl
theorem frI.u {v : Int32} : frI I (u2 I 9 1 v) := fun o k h => by rw [u2_eq, if_neg h]
theorem frI.trans {I1 : Nat → Nat → Int32} (h1 : frI I I1) (h2 : frI I1 I') : frI I I' := fun o k h => (h2 o k h).trans (h1 o k h)
theorem frQ.refl : frQ A A := ⟨fun _ _ => rfl, id⟩
theorem frQ.trans {A1 : Nat → Nat → Int32} (h1 : frQ A A1) (h2 : frQ A1 A') : frQ A A' := ⟨fun x h => (h2.1 x h).trans (h1.1 x h), fun h => h2.2 (h1.2 h)⟩
theorem frRJ.refl : frRJ J J := fun _ _ => rfl
theorem frRJ.trans {J1 : Nat → Int32} (h1 : frRJ J J1) (h2 : frRJ J1 J') : frRJ J J' := fun x h => (h2 x h).trans (h1 x h)
theorem frRB.refl : frRB B B := fun _ _ => rfl
theorem frRB.trans {B1 : Nat → Nat → Int32} (h1 : frRB B B1) (h2 : frRB B1 B') : frRB B B' := fun x h => (h2 x h).trans (h1 x h)
theorem INV.q (h : INV s I A L pr ot J B M ru G P W) (hi : frI I I') (hq : frQ A A') (hj : frRJ J J') (hb : frRB B B') (hr : RWS I' L' J' M') : INV (s + 1) I' A' L' pr ot J' B' M' ru G P W := by
  obtain ⟨h1, h2, hpl, h3, h4, h5, h6, h7, h8, h9, h10, h11, h12⟩ := h
  have a2 : A' 2 = A 2 := hq.1 2 (by omega)
  have a8 : A' 8 = A 8 := hq.1 8 (by omega)
  have a13 : A' 13 = A 13 := hq.1 13 (by omega)
  have a28 : A' 28 = A 28 := hq.1 28 (by omega)
  have a36 : A' 36 = A 36 := hq.1 36 (by omega)
  have a37 : A' 37 = A 37 := hq.1 37 (by omega)
  have a38 : A' 38 = A 38 := hq.1 38 (by omega)
  have b0 : B' 0 = B 0 := hb 0 (by omega)
  have b9 : B' 9 = B 9 := hb 9 (by omega)
  have b21 : B' 21 = B 21 := hb 21 (by omega)
  have b26 : B' 26 = B 26 := hb 26 (by omega)
  have b34 : B' 34 = B 34 := hb 34 (by omega)
  have b35 : B' 35 = B 35 := hb 35 (by omega)
  have b36 : B' 36 = B 36 := hb 36 (by omega)
  have b48 : B' 48 = B 48 := hb 48 (by omega)
  have b49 : B' 49 = B 49 := hb 49 (by omega)
  have b50 : B' 50 = B 50 := hb 50 (by omega)
  have i : ∀ o k, o ≠ 9 → I' o k = I o k := fun o k h => hi o k (fun c => h c.1)
  refine ⟨?_, (h2.frame (fun x _ _ => hj x (by omega)) (fun x _ _ => hb x (by omega))).frameA (fun x _ _ => hq.1 x (by omega)), ?_, ?_, ?_, hq.2 h5, ?_, ?_, ?_, ?_, ?_, hr, ?_⟩
  · unfold FS
    rw [i 11 9 (by decide), i 11 10 (by decide), i 11 11 (by decide)]
    exact h1
  · unfold PLS
    rw [a13]
    exact hpl
  · rw [a28]; exact h3
  · rw [a28, b0]; exact h4
  · unfold TX
    rw [i 1 1 (by decide), hj 10 (by omega), a2, b9]
    exact h6
  · obtain ⟨k1, k2, pu, n, k3, k4, k5, k6⟩ := h7
    refine ⟨k1, k2, pu, n, k3, ?_, by rw [b21]; exact k5, by rw [hj 23 (by omega)]; exact k6⟩
    obtain ⟨m1, m, m2, m3, m4⟩ := k4
    refine ⟨m1, m, m2, ?_, ?_⟩
    · rw [i pr 4 (by omega)]; exact m3
    · rw [hq.1 (pr + 1) (by omega)]; exact m4
  · unfold PAS
    rw [i 7 1 (by decide), i 7 2 (by decide), hj 27 (by omega), a8, b26]
    exact h8
  · obtain ⟨c, kp, k1, k2⟩ := h9
    refine ⟨c, kp, by omega, ?_⟩
    rw [i 7 3 (by decide), hj 47 (by omega), a8, b48, b49, b50]
    exact k2
  · unfold NTS
    rw [i 35 13 (by decide), hj 37 (by omega), a36, a37, a38, b34, b35, b36]
    exact h10
  · unfold FMS
    rw [i 3 0 (by decide), i 3 1 (by decide), i 3 2 (by decide), i 4 0 (by decide), i 4 1 (by decide), i 4 2 (by decide), i 5 0 (by decide), i 6 0 (by decide), i 19 0 (by decide), i 23 0 (by decide)]
    exact h12
theorem RWS.q {rw : Option (List Int64)} (h : RWS I L J M) (h1 : rowQ (I 9 1) L (I' 9 1) L' rw) (h2 : rowQ (J 12) M (J' 12) M' rw) : RWS I' L' J' M' := by
  cases rw with
  | none =>
    unfold RWS
    rw [h1.1, h1.2, h2.1, h2.2]
    exact h
  | some xs => exact ⟨xs.length, h1.1, h1.2.1, h2.2.1, fun k hk => (h1.2.2 k hk).trans (h2.2.2 k hk).symm⟩
theorem INV.qq {ans : Int32} {rw : Option (List Int64)} {f g : PH → Option (Int32 × PH)} (h : INV s I A L pr ot J B M ru G P W) (hc : qC I A L pr ot (encR J B M rdv ru T) f ans rw) (hm : qM J B M rdv ru g ans rw) :
    ∃ I' A' L' J' B' M' rdv', f (encC I A L pr ot (encR J B M rdv ru T)) = some (ans, encC I' A' L' pr ot (encR J B M rdv ru T)) ∧ g (encC I' A' L' pr ot (encR J B M rdv ru T)) = some (ans, encC I' A' L' pr ot (encR J' B' M' rdv' ru T)) ∧ INV (s + 1) I' A' L' pr ot J' B' M' ru G P W := by
  obtain ⟨I', A', L', e1, e2, e3, e4⟩ := hc
  obtain ⟨J', B', M', rdv', f1, f2, f3, f4⟩ := hm I' A' L' pr ot T
  exact ⟨I', A', L', J', B', M', rdv', e1, f1, h.q e2 e3 f2 f3 (h.2.2.2.2.2.2.2.2.2.2.2.1.q e4 f4)⟩
theorem qC_no {f : PH → Option (Int32 × PH)} {ans : Int32} (h : f (encC I A L pr ot T) = some (ans, encC I A L pr ot T)) : qC I A L pr ot T f ans none := ⟨I, A, L, h, frI.refl, frQ.refl, rfl, rfl⟩
theorem s_rd_in {xs : Nat → Int32} {N k : Nat} {β : Type} {f : Int32 → Option β} (hk : k < N) (hN : N ≤ 2560) : s_rd xs N (iN k) f = f (xs k) := by
  unfold s_rd
  rw [if_pos (in_arr hk (by omega) rfl), iN_nat (by omega)]
end IV
