/-! GROUNDS: the whole call -/
/-- from o on, k cells are laid anew -/
def fil (f : Nat → Int32) (o : Nat) (v : Nat → Int32) : Nat → Nat → Int32
  | 0 => f
  | k + 1 => upd (fil f o v k) (o + k) (v k)
theorem fil_eq {f v : Nat → Int32} {o j : Nat} : ∀ k, fil f o v k j = if o ≤ j ∧ j < o + k then v (j - o) else f j
  | 0 => by rw [if_neg (by omega)]; rfl
  | k + 1 => by
    show upd (fil f o v k) (o + k) (v k) j = _
    by_cases e : j = o + k
    · subst e
      rw [upd_eq, if_pos (by omega)]
      congr 1
      omega
    · rw [upd_ne e, fil_eq k]
      by_cases d : o ≤ j ∧ j < o + k
      · rw [if_pos d, if_pos (by omega)]
      · rw [if_neg d, if_neg (by omega)]
def dgt (c : Nat → Nat) (a : Nat) : Int32 := iN (c a - 48)
def pvc (c : Nat → Nat) (a : Nat) : Int32 := if c a = 45 then -1 else iN (c a - 48)
section GW
variable {I A E I' A' : Nat → Nat → Int32} {L L' : Nat → Int64} {pr ot s : Nat} {J J' : Nat → Int32} {B B' : Nat → Nat → Int32} {M M' : Nat → Int64} {rdv rdv' : Value} {ru : Nat} {T : PH} {G P W G' P' W' n top fi mn w da room most o k N i : Nat} {c : Nat → Nat} {st : RSt} {X : Nat → Int32}
theorem INV.grow (h : INV s I A L pr ot J B M ru G P W) (i : ∀ o k, (o = 9 ∨ (o = 7 ∧ k = 1) ∨ o = 35 ∨ o = 19 ∨ o = 23 ∨ ((o = 3 ∨ o = 4) ∧ k < 3) ∨ (o = 5 ∧ k = 0) ∨ (o = 6 ∧ k = 0)) → I' o k = I o k)
    (a : ∀ x, ¬ (12 ≤ x ∧ x ≤ 18) → x ≠ 28 → A' x = A x) (j : ∀ x, (x = 12 ∨ x = 23 ∨ x = 37) → J' x = J x) (b : ∀ x, (x = 21 ∨ x = 26 ∨ (34 ≤ x ∧ x ≤ 36) ∨ (48 ≤ x ∧ x ≤ 50)) → B' x = B x)
    (f1 : FS I' G' P' W') (f2 : FM A' J' B' G' P' W') (pl : PLS A' G') (z1 : OK G' P' (A' 28)) (z2 : CP (A' 28) (B' 0)) (t1 : I' 1 1 = 0) (t2 : J' 10 = 0) (p1 : I' 7 2 = 0) (p2 : J' 27 = 0) (k1 : I' 7 3 = 0) (k2 : J' 47 = J 47 + 1) : INV (s + 1) I' A' L pr ot J' B' M ru G' P' W' := by
  obtain ⟨h1, h2, hpl, h3, h4, h5, h6, h7, h8, h9, h10, h11, h12⟩ := h
  refine ⟨f1, f2, pl, z1, z2, by rw [a 32 (by omega) (by omega)]; exact h5, ⟨0, by omega, t1, t2, fun k hk => absurd hk (Nat.not_lt_zero _)⟩, ?_, ?_, ?_, h10.fr (i 35 13 (by omega)) (fun x hx => a x (by omega) (by omega)) (j 37 (by omega)) (fun x hx => b x (by omega)), h11.fr (i 9 1 (by omega)) (j 12 (by omega)), ?_⟩
  · obtain ⟨k1, k2, pu, n, k3, k4, k5, k6⟩ := h7
    refine ⟨k1, k2, pu, n, k3, ?_, by rw [b 21 (by omega)]; exact k5, by rw [j 23 (by omega)]; exact k6⟩
    obtain ⟨m1, m, m2, m3, m4⟩ := k4
    refine ⟨m1, m, m2, ?_, ?_⟩
    · rw [i pr 4 (by omega)]; exact m3
    · rw [a (pr + 1) (by omega) (by omega)]; exact m4
  · obtain ⟨nx, sz, e1, e2, e3, e4, e5, e6⟩ := h8
    exact ⟨nx, 0, e1, by omega, by rw [i 7 1 (by omega)]; exact e3, p1, p2, fun j hj => absurd hj (Nat.not_lt_zero _)⟩
  · obtain ⟨cc, kp, e1, e2, e3, e4⟩ := h9
    refine ⟨cc + 1, fun _ => false, by omega, by rw [k2, e2]; exact iN_add, k1.trans (by decide), fun q hq => ⟨fun d => (by cases d), fun _ => ?_⟩⟩
    rw [b 49 (by omega), b 50 (by omega)]
    obtain ⟨g1, g2⟩ := e4 q hq
    cases d : kp q with
    | true =>
      obtain ⟨g3, g4, -⟩ := g1 d
      exact Or.inr ⟨g3, cc, by omega, g4⟩
    | false =>
      rcases g2 d with g3 | ⟨g3, c', g4, g5⟩
      · exact Or.inl g3
      · exact Or.inr ⟨g3, c', by omega, g5⟩
  · unfold FMS
    rw [i 3 0 (by omega), i 3 1 (by omega), i 3 2 (by omega), i 4 0 (by omega), i 4 1 (by omega), i 4 2 (by omega), i 5 0 (by omega), i 6 0 (by omega), i 19 0 (by omega), i 23 0 (by omega)]
    exact h12
theorem INV.red (h : INV s I A L pr ot J B M ru G P W) (i : ∀ o k, ¬ (o = 1 ∧ k = 1) → ¬ ((o = 3 ∨ o = 4) ∧ 3 ≤ k) → ¬ ((o = 5 ∨ o = 6) ∧ 1 ≤ k) → I' o k = I o k) (j : ∀ x, x ≠ 10 → x ≠ 13 → ¬ (15 ≤ x ∧ x ≤ 18) → J' x = J x) (b : ∀ x, x ≠ 19 → x ≠ 20 → x ≠ 32 → B' x = B x) (t1 : I' 1 1 = 0) (t2 : J' 10 = 0) : INV (s + 1) I' A L pr ot J' B' M ru G P W := by
  have hI := h
  obtain ⟨h1, h2, hpl, h3, h4, h5, h6, h7, h8, h9, h10, h11, h12⟩ := h
  exact hI.mk2 (fun o k ho hk => i o k (by omega) (by omega) (by omega)) (fun x hx => rfl) (fun x hx => j x (by omega) (by omega) (by omega)) (fun x hx => b x (by omega) (by omega) (by omega)) h3 (by rw [b 0 (by omega) (by omega) (by omega)]; exact h4) h5 ⟨0, by omega, t1, t2, fun k hk => absurd hk (Nat.not_lt_zero _)⟩ (h8.fr (i 7 1 (by omega) (by omega) (by omega)) (i 7 2 (by omega) (by omega) (by omega)) rfl (j 27 (by omega) (by omega) (by omega)) (b 26 (by omega) (by omega) (by omega))) (h9.fr (i 7 3 (by omega) (by omega) (by omega)) (fun i hi => rfl) (j 47 (by omega) (by omega) (by omega)) (fun x hx => b x (by omega) (by omega) (by omega))) (h10.fr (i 35 13 (by omega) (by omega) (by omega)) (fun x hx => rfl) (j 37 (by omega) (by omega) (by omega)) (fun x hx => b x (by omega) (by omega) (by omega))) (h11.fr (i 9 1 (by omega) (by omega) (by omega)) (j 12 (by omega) (by omega) (by omega)))
/-! the class adds what was told -/
theorem c_adG1 (h1 : I 1 1 = iN n) (hn : n ≤ 80) (hc : ∀ k, k < n → A 2 k = iN (c k)) (hG : I 11 9 = iN G) (hG8 : G < 8) {a : Nat} (hk : k < 4) (hi : a + 6 ≤ n) (hd : c (a + 2 + k) = 45 ∨ 48 ≤ c (a + 2 + k)) (hd2 : c (a + 2 + k) < 256) (kx : PH → Option (Unit × PH)) (m : Nat) :
    fX0_addGround_L26 11 1 (iN a) kx (m + 1) (iN k) (encC I A L pr ot T) = fX0_addGround_L26 11 1 (iN a) kx m (iN (k + 1)) (encC I (u1 A 13 (upd (A 13) (4 * G + k) (pvc c (a + 2 + k)))) L pr ot T) := by
  have e1 := c_at (L := L) (pr := pr) (ot := ot) (T := T) h1 hn hc (show a + 2 + k < 1000 by omega)
  rw [show hrV n 1000 c (a + 2 + k) = iN (c (a + 2 + k)) from if_pos ⟨by omega, by omega⟩] at e1
  rw [fX0_addGround_L26, if_neg (by rw [show (4 : Int32) = iN 4 from rfl, iN_le (by omega) (by omega)]; omega), bK_1, show iN a + (2 : Int32) = iN (a + 2) from iN_add, iN_add, hb_of e1, bR_11_1, bG_11_9, hG]
  have ix : iN G * (4 : Int32) + iN k = iN (4 * G + k) := by rw [show (4 : Int32) = iN 4 from rfl, iN_mul, iN_add, Nat.mul_comm]
  unfold pvc
  by_cases d : c (a + 2 + k) = 45
  · rw [if_pos (by rw [d]; rfl), if_pos d]
    unfold fX0_addGround_J70_26
    rw [ix, bS_13 (in_arr (show 4 * G + k < 32 by omega) (by decide) rfl), iN_nat (by omega), letE_eq, show iN k + (1 : Int32) = iN (k + 1) from iN_add]
  · rw [if_neg (by rw [show (45 : Int32) = iN 45 from rfl, iN_eq (by omega) (by omega)]; exact d), if_neg d]
    unfold fX0_addGround_J70_26
    rw [ix, bS_13 (in_arr (show 4 * G + k < 32 by omega) (by decide) rfl), iN_nat (by omega), letE_eq, show iN k + (1 : Int32) = iN (k + 1) from iN_add, show iN (c (a + 2 + k)) - (48 : Int32) = iN (c (a + 2 + k) - 48) from iN_sub (show 48 ≤ c (a + 2 + k) from hd.resolve_left d)]
theorem c_addGround (h1 : I 1 1 = iN n) (hn : n ≤ 80) (hc : ∀ k, k < n → A 2 k = iN (c k)) (hG : I 11 9 = iN G) (hG8 : G < 8) {a : Nat} (hi : a + 6 ≤ n) (hd0 : 48 ≤ c a) (hd : ∀ k, k < 4 → (c (a + 2 + k) = 45 ∨ 48 ≤ c (a + 2 + k)) ∧ c (a + 2 + k) < 256) :
    fX0_addGround 11 1 (iN a) (encC I A L pr ot T) = some ((), (encC (u2 I 11 9 (iN (G + 1))) (u1 (u1 A 12 (upd (A 12) G (dgt c a))) 13 (fil (A 13) (4 * G) (fun k => pvc c (a + 2 + k)) 4)) L pr ot T)) := by
  have key := lp_det (fun m k (Y : Nat → Int32) => fX0_addGround_L26 11 1 (iN a) (fun h7 => (h_gi 0 9 h7 11).bind fun x8 => (h_pv 0 9 h7 11 (.int (x8 + (1 : Int32)))).bind fun h9 => some ((), h9)) m (iN k) (encC I (u1 (u1 A 12 (upd (A 12) G (dgt c a))) 13 Y) L pr ot T)) (fun Y => some ((), (encC (u2 I 11 9 (iN (G + 1))) (u1 (u1 A 12 (upd (A 12) G (dgt c a))) 13 Y) L pr ot T))) (fil (A 13) (4 * G) (fun k => pvc c (a + 2 + k))) 4
    (fun k hk m => by
      rw [c_adG1 (A := u1 (u1 A 12 (upd (A 12) G (dgt c a))) 13 (fil (A 13) (4 * G) (fun k => pvc c (a + 2 + k)) k)) h1 hn (fun k hk => by rw [u1_eq, if_neg (by decide), u1_eq, if_neg (by decide)]; exact hc k hk) hG hG8 hk hi (hd k hk).1 (hd k hk).2, u1_u1, u1_eq, if_pos rfl]
      rfl)
    (fun m => by rw [fX0_addGround_L26, if_pos (by decide), bG_11_9, hG, show iN G + (1 : Int32) = iN (G + 1) from iN_add, bW_11_9]) FU (by unfold FU; omega)
  unfold fX0_addGround
  rw [bG_11_9, hG, if_pos (by rw [show (8 : Int32) = iN 8 from rfl, iN_lt (by omega) (by omega)]; exact hG8), bR_11_0, bG_11_9, hG, bK_1, hb_of (c_digitAt h1 hn hc (by omega) hd0), bS_12 (in_arr (show G < 8 by omega) (by decide) rfl), iN_nat (by omega)]
  refine Eq.trans ?_ key
  show fX0_addGround_L26 11 1 (iN a) _ FU (iN 0) (encC I (u1 A 12 (upd (A 12) G (iN (c a - 48)))) L pr ot T) = fX0_addGround_L26 11 1 (iN a) _ FU (iN 0) (encC I (u1 (u1 A 12 (upd (A 12) G (dgt c a))) 13 (A 13)) L pr ot T)
  rw [show u1 (u1 A 12 (upd (A 12) G (dgt c a))) 13 (A 13) = u1 A 12 (upd (A 12) G (iN (c a - 48))) by
    funext x
    rw [u1_eq]
    by_cases e : x = 13
    · rw [if_pos e, e, u1_eq, if_neg (by decide)]
    · rw [if_neg e]; rfl]
end GW
