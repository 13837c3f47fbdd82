/-! what is kept, over a step -/
section KP
variable {I A I' A' : Nat → Nat → Int32} {L L' : Nat → Int64} {pr ot s : Nat} {J J' : Nat → Int32} {B B' : Nat → Nat → Int32} {M M' : Nat → Int64} {rdv : Value} {ru : Nat} {T : PH} {G P W : Nat} {Z f : Nat → Int32}
theorem INV.mk2 (h : INV s I A L pr ot J B M ru G P W) (i : ∀ o k, (o = 3 ∨ o = 4 ∨ (o = 5 ∧ k = 0) ∨ (o = 6 ∧ k = 0) ∨ o = 11 ∨ o = 19 ∨ o = 23) → (o = 3 ∨ o = 4 → k < 3) → I' o k = I o k)
    (a : ∀ x, (12 ≤ x ∧ x ≤ 20 ∨ x = 23 ∨ x = 24) → A' x = A x) (j : ∀ x, (x = 1 ∨ x = 2 ∨ x = 3 ∨ x = 23) → J' x = J x) (b : ∀ x, (4 ≤ x ∧ x ≤ 8 ∨ x = 21) → B' x = B x)
    (z1 : OK G P (A' 28)) (z2 : CP (A' 28) (B' 0)) (z3 : nz (A' 32)) (t : TX I' A' J' B') (p : PAS I' A' J' B' G P) (k : KPS (s + 1) I' A' J' B' G P) (n : NTS I' A' J' B') (r : RWS I' L' J' M') : INV (s + 1) I' A' L' pr ot J' B' M' ru G P W := by
  obtain ⟨h1, h2, hpl, h3, h4, h5, h6, h7, h8, h9, h10, h11, h12⟩ := h
  refine ⟨?_, (h2.frame (fun x _ _ => j x (by omega)) (fun x _ _ => b x (by omega))).frameA (fun x _ _ => a x (by omega)), ?_, z1, z2, z3, t, ?_, p, k, n, r, ?_⟩
  · unfold FS
    rw [i 11 9 (by omega) (by omega), i 11 10 (by omega) (by omega), i 11 11 (by omega) (by omega)]
    exact h1
  · unfold PLS
    rw [a 13 (by omega)]
    exact hpl
  · obtain ⟨k1, k2, pu, n, k3, k4, k5, k6⟩ := h7
    refine ⟨k1, k2, pu, n, k3, ?_, by rw [b 21 (by omega)]; exact k5, by rw [j 23 (by omega)]; exact k6⟩
    obtain ⟨m1, m, m2, m3, m4⟩ := k4
    refine ⟨m1, m, m2, ?_, ?_⟩
    · rw [i pr 4 (by omega) (by omega)]; exact m3
    · rw [a (pr + 1) (by omega)]; exact m4
  · unfold FMS
    rw [i 3 0 (by omega) (by omega), i 3 1 (by omega) (by omega), i 3 2 (by omega) (by omega), i 4 0 (by omega) (by omega), i 4 1 (by omega) (by omega), i 4 2 (by omega) (by omega), i 5 0 (by omega) (by omega), i 6 0 (by omega) (by omega), i 19 0 (by omega) (by omega), i 23 0 (by omega) (by omega)]
    exact h12
theorem TX.fr (h : TX I A J B) (h1 : I' 1 1 = I 1 1) (h2 : A' 2 = A 2) (h3 : J' 10 = J 10) (h4 : B' 9 = B 9) : TX I' A' J' B' := by
  unfold TX; rw [h1, h2, h3, h4]; exact h
theorem PAS.fr (h : PAS I A J B G P) (h1 : I' 7 1 = I 7 1) (h2 : I' 7 2 = I 7 2) (h3 : A' 8 = A 8) (h4 : J' 27 = J 27) (h5 : B' 26 = B 26) : PAS I' A' J' B' G P := by
  unfold PAS; rw [h1, h2, h3, h4, h5]; exact h
theorem KPS.fr (h : KPS s I A J B G P) (h1 : I' 7 3 = I 7 3) (h2 : ∀ i, i < 2 → rwC (A' 8) (12 + i) = rwC (A 8) (12 + i)) (h3 : J' 47 = J 47) (h4 : ∀ x, (x = 48 ∨ x = 49 ∨ x = 50) → B' x = B x) : KPS (s + 1) I' A' J' B' G P := by
  obtain ⟨c, kp, k1, k2, k3, k4⟩ := h
  refine ⟨c, kp, by omega, by rw [h3]; exact k2, by rw [h1]; exact k3, fun i hi => ?_⟩
  rw [h2 i hi, h4 48 (by omega), h4 49 (by omega), h4 50 (by omega)]
  exact k4 i hi
theorem NTS.fr (h : NTS I A J B) (h1 : I' 35 13 = I 35 13) (h2 : ∀ x, (x = 36 ∨ x = 37 ∨ x = 38) → A' x = A x) (h3 : J' 37 = J 37) (h4 : ∀ x, (x = 34 ∨ x = 35 ∨ x = 36) → B' x = B x) : NTS I' A' J' B' := by
  unfold NTS; rw [h1, h2 36 (by omega), h2 37 (by omega), h2 38 (by omega), h3, h4 34 (by omega), h4 35 (by omega), h4 36 (by omega)]; exact h
theorem RWS.fr (h : RWS I L J M) (h1 : I' 9 1 = I 9 1) (h2 : J' 12 = J 12) : RWS I' L J' M := by
  unfold RWS; rw [h1, h2]; exact h
theorem rwC_at {X : Nat → Int32} {i : Nat} (hz : nz Z) : rwC (va_cpy Z X 0 (i * 82) 82) i = Z := by
  funext k
  unfold rwC
  by_cases c : k < 82
  · rw [if_pos c]; exact cpy_in c
  · rw [if_neg c, hz k (by omega)]
theorem rwC_ne {X : Nat → Int32} {i j : Nat} (h : j ≠ i) : rwC (va_cpy Z X 0 (i * 82) 82) j = rwC X j := by
  funext k
  unfold rwC
  by_cases c : k < 82
  · rw [if_pos c, if_pos c]
    refine cpy_out (fun d => ?_)
    rcases Nat.lt_or_ge j i with e | e
    · have : (j + 1) * 82 ≤ i * 82 := Nat.mul_le_mul_right 82 e
      omega
    · have : (i + 1) * 82 ≤ j * 82 := Nat.mul_le_mul_right 82 (by omega)
      omega
  · rw [if_neg c, if_neg c]
/-- one more is remembered -/
theorem PAS.rem (h : PAS I A J B G P) (hz : OK G P Z) (hc : CP Z f) {nx sz : Nat} (hn : nx < 12) (hs : sz ≤ 12) (e1 : I 7 1 = iN nx) (e2 : I 7 2 = iN sz) {Y : Nat → Int32} (hY : remB (B 26) f sz Y)
    (i1 : I' 7 1 = iN ((nx + 1) % 12)) (i2 : I' 7 2 = iN (if sz + 1 < 12 then sz + 1 else 12)) (a8 : A' 8 = va_cpy Z (A 8) 0 (nx * 82) 82) (j27 : J' 27 = iN (if sz < 12 then sz + 1 else 12)) (b26 : B' 26 = Y) : PAS I' A' J' B' G P := by
  obtain ⟨nx', sz', h1, h2, h3, h4, h5, h6⟩ := h
  have hnx : nx = nx' := by rw [e1, iN_eq (by omega) (by omega)] at h3; exact h3
  have hsz : sz = sz' := by rw [e2, iN_eq (by omega) (by omega)] at h4; exact h4
  subst hnx hsz
  have e3 : (if sz + 1 < 12 then sz + 1 else 12) = (if sz < 12 then sz + 1 else 12) := by
    by_cases c : sz + 1 < 12
    · rw [if_pos c, if_pos (by omega)]
    · rw [if_neg c]; split <;> omega
  obtain ⟨y1, y2⟩ := hY
  refine ⟨(nx + 1) % 12, (if sz < 12 then sz + 1 else 12), Nat.mod_lt _ (by omega), by split <;> omega, i1, by rw [i2, e3], j27, fun j hj => ?_⟩
  rw [a8, b26]
  by_cases c : sz < 12
  · rw [if_pos c] at hj ⊢
    by_cases e : j = sz
    · subst e
      have e4 : ((nx + 1) % 12 + 12 - (j + 1) + j) % 12 = nx := by omega
      rw [e4, rwC_at hz.1]
      refine ⟨hz, ?_⟩
      have : rwM Y j = fun k => rwM Y j k := rfl
      have y3 : ∀ k, k < 88 → rwM Y j k = f k := fun k hk => by
        have := y2 k hk
        rw [if_pos c, Nat.add_sub_cancel] at this
        exact this
      exact ⟨fun k hk => by rw [y3 k (by omega)]; exact hc.1 k hk, fun p hp => by rw [y3 _ (by omega)]; exact hc.2.1 p hp, fun p g hp hg hb => by rw [y3 _ (by omega)]; exact hc.2.2.1 p g hp hg hb, by rw [y3 _ (by omega)]; exact hc.2.2.2.1, by rw [y3 _ (by omega)]; exact hc.2.2.2.2⟩
    · have hj2 : j < sz := by omega
      have e4 : ((nx + 1) % 12 + 12 - (sz + 1) + j) % 12 = (nx + 12 - sz + j) % 12 := by omega
      rw [e4, rwC_ne (by omega)]
      obtain ⟨f1, f2⟩ := h6 j hj2
      refine ⟨f1, ?_⟩
      have y3 : ∀ k, k < 88 → rwM Y j k = rwM (B 26) j k := fun k hk => by
        have := y1 j k (by rw [if_pos c]; omega) hk
        rw [if_pos c] at this
        exact this
      exact ⟨fun k hk => by rw [y3 k (by omega)]; exact f2.1 k hk, fun p hp => by rw [y3 _ (by omega)]; exact f2.2.1 p hp, fun p g hp hg hb => by rw [y3 _ (by omega)]; exact f2.2.2.1 p g hp hg hb, by rw [y3 _ (by omega)]; exact f2.2.2.2.1, by rw [y3 _ (by omega)]; exact f2.2.2.2.2⟩
  · have hs12 : sz = 12 := by omega
    subst hs12
    rw [if_neg c] at hj ⊢
    by_cases e : j = 11
    · subst e
      have e4 : ((nx + 1) % 12 + 12 - 12 + 11) % 12 = nx := by omega
      rw [e4, rwC_at hz.1]
      refine ⟨hz, ?_⟩
      have y3 : ∀ k, k < 88 → rwM Y 11 k = f k := fun k hk => by
        have := y2 k hk
        rw [if_neg c] at this
        exact this
      exact ⟨fun k hk => by rw [y3 k (by omega)]; exact hc.1 k hk, fun p hp => by rw [y3 _ (by omega)]; exact hc.2.1 p hp, fun p g hp hg hb => by rw [y3 _ (by omega)]; exact hc.2.2.1 p g hp hg hb, by rw [y3 _ (by omega)]; exact hc.2.2.2.1, by rw [y3 _ (by omega)]; exact hc.2.2.2.2⟩
    · have e4 : ((nx + 1) % 12 + 12 - 12 + j) % 12 = (nx + 12 - 12 + (j + 1)) % 12 := by omega
      rw [e4, rwC_ne (by omega)]
      obtain ⟨f1, f2⟩ := h6 (j + 1) (by omega)
      refine ⟨f1, ?_⟩
      have y3 : ∀ k, k < 88 → rwM Y j k = rwM (B 26) (j + 1) k := fun k hk => by
        have := y1 j k (by rw [if_neg c]; omega) hk
        rw [if_neg c] at this
        exact this
      exact ⟨fun k hk => by rw [y3 k (by omega)]; exact f2.1 k hk, fun p hp => by rw [y3 _ (by omega)]; exact f2.2.1 p hp, fun p g hp hg hb => by rw [y3 _ (by omega)]; exact f2.2.2.1 p g hp hg hb, by rw [y3 _ (by omega)]; exact f2.2.2.2.1, by rw [y3 _ (by omega)]; exact f2.2.2.2.2⟩
end KP
