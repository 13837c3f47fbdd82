/-! SHARES: gains -/
def wwN (A : Nat → Nat → Int32) (pu : (Nat → Int32) → Int32) (G W p : Nat) (m : Int32) (n : Nat) : Nat := pcN (hwB A (psZ A pu G p (ldF (A 28) p m G) n) p) W
def woN (A : Nat → Nat → Int32) (pu : (Nat → Int32) → Int32) (G W n p : Nat) : Nat := wwN A pu G W p 0 n
def wiN (A : Nat → Nat → Int32) (pu : (Nat → Int32) → Int32) (G W n p g : Nat) : Nat := if hdB (A 28) p g then 0 else wwN A pu G W p ((1 : Int32) <<< (iN g &&& 31)) n
def gaN (A : Nat → Nat → Int32) (pu : (Nat → Int32) → Int32) (G W n p g : Nat) : Nat := if decide (0 < A 28 g) && !hdB (A 28) p g then wiN A pu G W n p g - woN A pu G W n p else 0
def sN (wo : Nat → Nat) : Nat → Nat
  | 0 => 0
  | k + 1 => sN wo k + wo k
section GN
variable {I A E I' A' : Nat → Nat → Int32} {L L' : Nat → Int64} {pr ot s : Nat} {T : PH} {ga : Nat → Nat → Nat} {g q v w n p r f G P W K X Y st acc j R M b k t : Nat} {lf wo : Nat → Nat} {F : Nat → Nat} {pu : (Nat → Int32) → Int32} {m : Int32}
theorem wwN_le : wwN A pu G W p m n ≤ W := pcN_le
theorem wiN_le : wiN A pu G W n p g ≤ W := by
  unfold wiN
  split
  · exact Nat.zero_le _
  · exact wwN_le
theorem gaN_le : gaN A pu G W n p g ≤ W := by
  unfold gaN
  have := wiN_le (A := A) (pu := pu) (G := G) (W := W) (n := n) (p := p) (g := g)
  split <;> omega
theorem bc_ww (h7 : W ≤ 6) : bc (wwS A pu G W p m n (A 28)) = iN (wwN A pu G W p m n) := by
  unfold wwS wwN waS
  exact bc_pcN h7
theorem hifN {a b : Nat} (ha : a ≤ 6) (hb : b ≤ 6) : (if iN 0 < iN a - iN b then iN a - iN b else iN 0) = iN (a - b) := by
  have key : ∀ a b : Fin 7, (if iN 0 < iN a.val - iN b.val then iN a.val - iN b.val else iN 0) = iN (a.val - b.val) := by decide +kernel
  exact key ⟨a, by omega⟩ ⟨b, by omega⟩
theorem woR_s : ∀ r p, woR wo r p + sN wo p = sN wo (p + r)
  | 0, p => Nat.zero_add _
  | r + 1, p => by
    have := woR_s r (p + 1)
    show wo p + woR wo r (p + 1) + sN wo p = _
    rw [show p + (r + 1) = p + 1 + r by omega, ← this]
    show _ = woR wo r (p + 1) + (sN wo p + wo p)
    omega
theorem rg37 (c : CK I A G P W pr pu) (hp : p < P) (hn : n ≤ 20) (i1 : frQ A A') (i3 i2 : Int32) :
    ∃ A2, (∀ kx : PH → Option (Int32 × PH), fX4_reckonGains_L37 35 (iN n) i2 (iN p) (frS (A 28) G p) (iN (woN A pu G W n p)) kx FU (iN 0) (encC I A' L pr ot T) = kx (encC I A2 L pr ot T)) ∧ frQ A A2 ∧ (∀ y, y < p * 8 → A2 41 y = A' 41 y) ∧ ∀ g, g < G → A2 41 (p * 8 + g) = iN (gaN A pu G W n p g) := by
  have hF := c.1
  have h8 := hF.2.2.2.1
  have h6 := hF.2.2.2.2.1
  have h7 := hF.2.2.2.2.2
  have hG := hF.1
  have hwo : woN A pu G W n p ≤ 6 := Nat.le_trans wwN_le h7
  have key := lp_k (fun (kx : PH → Option (Int32 × PH)) n' k (A1 : Nat → Nat → Int32) => fX4_reckonGains_L37 35 (iN n) i2 (iN p) (frS (A 28) G p) (iN (woN A pu G W n p)) kx n' (iN k) (encC I A1 L pr ot T)) (fun kx A1 => kx (encC I A1 L pr ot T)) (fun k A1 => frQ A A1 ∧ (∀ y, y < p * 8 → A1 41 y = A' 41 y) ∧ ∀ g, g < k → A1 41 (p * 8 + g) = iN (gaN A pu G W n p g)) G
    (fun k A1 hk hi => by
      obtain ⟨j1, j2, j3⟩ := hi
      have hh : hasB (frS (A 28) G p) k = (decide (0 < A 28 k) && !hdB (A 28) p k) := by
        unfold frS
        rw [bt_has h8 (by omega), decide_eq_true hk, Bool.true_and]
      have fin : ∀ A2 : Nat → Nat → Int32, frQ A A2 → A2 41 = A1 41 → ∀ v, v = iN (gaN A pu G W n p k) → frQ A (u1 A2 41 (upd (A2 41) (p * 8 + k) v)) ∧ (∀ y, y < p * 8 → u1 A2 41 (upd (A2 41) (p * 8 + k) v) 41 y = A' 41 y) ∧ ∀ g, g < k + 1 → u1 A2 41 (upd (A2 41) (p * 8 + k) v) 41 (p * 8 + g) = iN (gaN A pu G W n p g) := fun A2 f2 e41 v hv => by
        refine ⟨⟨fun x hx => by rw [u1_o (by omega)]; exact f2.1 x hx, fun hx => by rw [u1_o (by decide)]; exact f2.2 hx⟩, fun y hy => ?_, fun g hg => ?_⟩
        · rw [u1_at, upd_if, if_neg (by omega), e41]; exact j2 y hy
        · rw [u1_at, upd_if]
          by_cases e : g = k
          · rw [if_pos (by omega), hv, e]
          · rw [if_neg (by omega), e41]; exact j3 g (by omega)
      cases hb : (decide (0 < A 28 k) && !hdB (A 28) p k) with
      | false =>
        rw [hb] at hh
        have eg : gaN A pu G W n p k = 0 := by unfold gaN; rw [hb]; rfl
        refine ⟨u1 A1 41 (upd (A1 41) (p * 8 + k) (iN 0)), fin A1 j1 rfl (iN 0) (by rw [eg]), fun kx n' => ?_⟩
        generalize woN A pu G W n p = b at *
        have hif := hifN (a := 0) (b := b) (by decide) hwo
        rw [Nat.zero_sub] at hif
        generalize frS (A 28) G p = fr at *
        simp (disch := first | omega | assumption | (simp (disch := omega) only [iN_lit, iN_add, iN_mul, iN_pred, iN_pred', iN_lt, iN_le, iN_eq, iN_nat, nlt_t, nlt_f, nle_t, nle_f, neq_t, neq_f, List.length_nil, List.length_cons, or_false, false_or, or_self, not_false_eq_true, not_true_eq_false, ↓reduceIte, if_true, if_false, Bool.false_eq_true, Nat.reduceAdd])) only [fX4_reckonGains_L37, ↓bK_11, ↓bK_35, ↓bR_35_0, fX4_reckonGains_J76_37, ↓bR_35_9, ↓bA_41, ↓bS_41, ↓bN_41, ↓hb_of (c_groundSize), ↓hb_of (c_bitCount), ↓hb_some, ↓bd_some, ↓letE_eq, h_z0, h_z1, h_zi0, h_zi1, ↓hb_of (isIn_n hh), iN_lit, iN_add, iN_mul, iN_pred, iN_pred', iN_lt, iN_le, iN_eq, iN_nat, nlt_t, nlt_f, nle_t, nle_f, neq_t, neq_f, List.length_nil, List.length_cons, or_false, false_or, or_self, not_false_eq_true, not_true_eq_false, ↓reduceIte, if_true, if_false, Bool.false_eq_true, Nat.reduceAdd, hG, hif]
      | true =>
        rw [hb] at hh
        have hhd : hdB (A 28) p k = false := by
          cases e : hdB (A 28) p k with
          | false => rfl
          | true => rw [e] at hb; rw [Bool.and_eq_true_iff] at hb; exact absurd hb.2 (by decide)
        have eg : gaN A pu G W n p k = wwN A pu G W p ((1 : Int32) <<< (iN k &&& 31)) n - woN A pu G W n p := by
          unfold gaN wiN
          rw [hb, if_pos rfl, hhd]; rfl
        obtain ⟨A2, f1, f2, -, f4⟩ := c.with2 (L := L) (ot := ot) (T := T) (m := (1 : Int32) <<< (iN k &&& 31)) (n := n) j1 hp (by omega)
        have e41 : A2 41 = A1 41 := f4 41 (by decide) (by decide) (by decide) (by rcases c.2.2.1 with h | h <;> omega)
        have hwi : wwN A pu G W p ((1 : Int32) <<< (iN k &&& 31)) n ≤ 6 := Nat.le_trans wwN_le h7
        have hbc := bc_ww (A := A) (pu := pu) (G := G) (p := p) (n := n) (m := (1 : Int32) <<< (iN k &&& 31)) h7
        refine ⟨u1 A2 41 (upd (A2 41) (p * 8 + k) (iN (gaN A pu G W n p k))), fin A2 f2 e41 _ rfl, fun kx n' => ?_⟩
        rw [eg]
        generalize woN A pu G W n p = b at *
        generalize wwN A pu G W p ((1 : Int32) <<< (iN k &&& 31)) n = a at *
        have hif := hifN hwi hwo
        generalize frS (A 28) G p = fr at *
        simp only [iN_lit] at f1 hbc
        generalize wwS A pu G W p (iN 1 <<< (iN k &&& iN 31)) n (A 28) = x at *
        simp (disch := first | omega | assumption | (simp (disch := omega) only [iN_lit, iN_add, iN_mul, iN_pred, iN_pred', iN_lt, iN_le, iN_eq, iN_nat, nlt_t, nlt_f, nle_t, nle_f, neq_t, neq_f, List.length_nil, List.length_cons, or_false, false_or, or_self, not_false_eq_true, not_true_eq_false, ↓reduceIte, if_true, if_false, Bool.false_eq_true, Nat.reduceAdd])) only [fX4_reckonGains_L37, ↓bK_11, ↓bK_35, ↓bR_35_0, fX4_reckonGains_J76_37, ↓bR_35_9, ↓bA_41, ↓bS_41, ↓bN_41, ↓hb_of (c_groundSize), ↓hb_of (c_bitCount), ↓hb_some, ↓bd_some, ↓letE_eq, h_z0, h_z1, h_zi0, h_zi1, ↓hb_of (isIn_y hh), ↓hb_of f1, ↓hb_of c_bitCount, iN_lit, iN_add, iN_mul, iN_pred, iN_pred', iN_lt, iN_le, iN_eq, iN_nat, nlt_t, nlt_f, nle_t, nle_f, neq_t, neq_f, List.length_nil, List.length_cons, or_false, false_or, or_self, not_false_eq_true, not_true_eq_false, ↓reduceIte, if_true, if_false, Bool.false_eq_true, Nat.reduceAdd, hG, hbc, hif])
    (fun A1 hi kx n' => by
      simp (disch := first | omega | assumption | (simp (disch := omega) only [iN_lit, iN_add, iN_mul, iN_pred, iN_pred', iN_lt, iN_le, iN_eq, iN_nat, nlt_t, nlt_f, nle_t, nle_f, neq_t, neq_f, List.length_nil, List.length_cons, or_false, false_or, or_self, not_false_eq_true, not_true_eq_false, ↓reduceIte, if_true, if_false, Bool.false_eq_true, Nat.reduceAdd])) only [fX4_reckonGains_L37, ↓bK_11, ↓bK_35, ↓bR_35_0, fX4_reckonGains_J76_37, ↓bR_35_9, ↓bA_41, ↓bS_41, ↓bN_41, ↓hb_of (c_groundSize), ↓hb_of (c_bitCount), ↓hb_some, ↓bd_some, ↓letE_eq, h_z0, h_z1, h_zi0, h_zi1, iN_lit, iN_add, iN_mul, iN_pred, iN_pred', iN_lt, iN_le, iN_eq, iN_nat, nlt_t, nlt_f, nle_t, nle_f, neq_t, neq_f, List.length_nil, List.length_cons, or_false, false_or, or_self, not_false_eq_true, not_true_eq_false, ↓reduceIte, if_true, if_false, Bool.false_eq_true, Nat.reduceAdd, hG]) G 0 A' (by omega) ⟨i1, fun _ _ => rfl, fun g hg => absurd hg (Nat.not_lt_zero _)⟩
  obtain ⟨A2, ⟨k1, k2, k3⟩, k4⟩ := key
  exact ⟨A2, fun kx => k4 kx FU (by unfold FU; omega), k1, k2, k3⟩
theorem rg_C (c : CK I A G P W pr pu) (hn : n ≤ 20) :
    ∃ A2, fX4_reckonGains 35 (iN n) (encC I A L pr ot T) = some (iN (sN (woN A pu G W n) P), (encC I A2 L pr ot T)) ∧ frQ A A2 ∧ ∀ p g, p < P → g < G → A2 41 (p * 8 + g) = iN (gaN A pu G W n p g) := by
  have hF := c.1
  have h8 := hF.2.2.2.1
  have h6 := hF.2.2.2.2.1
  have h7 := hF.2.2.2.2.2
  have hP := hF.2.1
  have key := lp_k (fun (_ : Unit) n' k (A1 : Nat → Nat → Int32) => fX4_reckonGains_L4 35 (iN n) (fun x1 h2 => some (x1, h2)) n' (iN (sN (woN A pu G W n) k)) (iN k) (encC I A1 L pr ot T)) (fun _ A1 => some (iN (sN (woN A pu G W n) P), (encC I A1 L pr ot T))) (fun k A1 => frQ A A1 ∧ ∀ p g, p < k → g < G → A1 41 (p * 8 + g) = iN (gaN A pu G W n p g)) P
    (fun k A1 hk hi => by
      obtain ⟨j1, j2⟩ := hi
      have f0 := c.free (L := L) (pr := pr) (ot := ot) (T := T) j1 hk
      obtain ⟨A2, f1, f2, -, f4⟩ := c.with2 (L := L) (ot := ot) (T := T) (m := 0) (n := n) j1 hk (by omega)
      have e41 : A2 41 = A1 41 := f4 41 (by decide) (by decide) (by decide) (by rcases c.2.2.1 with h | h <;> omega)
      have hbc := bc_ww (A := A) (pu := pu) (G := G) (p := k) (n := n) (m := 0) h7
      obtain ⟨A3, g1, g2, g3, g4⟩ := rg37 (L := L) (ot := ot) (T := T) (A' := A2) (n := n) c hk hn f2 0 (iN (sN (woN A pu G W n) k))
      refine ⟨A3, ⟨g2, fun p g hp hg => ?_⟩, fun _ n' => ?_⟩
      · by_cases e : p = k
        · rw [e]; exact g4 g hg
        · rw [g3 _ (by omega), e41]; exact j2 p g (by omega) hg
      · have es : sN (woN A pu G W n) (k + 1) = sN (woN A pu G W n) k + woN A pu G W n k := rfl
        rw [es]
        have ew : wwN A pu G W k 0 n = woN A pu G W n k := rfl
        rw [ew] at hbc
        generalize woN A pu G W n k = b at *
        generalize sN (woN A pu G W n) k = sk at *
        generalize frS (A 28) G k = fr at *
        simp only [iN_lit] at f1 hbc g1
        generalize wwS A pu G W k (iN 0) n (A 28) = x at *
        simp (disch := first | omega | assumption | (simp (disch := omega) only [iN_lit, iN_add, iN_mul, iN_pred, iN_pred', iN_lt, iN_le, iN_eq, iN_nat, nlt_t, nlt_f, nle_t, nle_f, neq_t, neq_f, List.length_nil, List.length_cons, or_false, false_or, or_self, not_false_eq_true, not_true_eq_false, ↓reduceIte, if_true, if_false, Bool.false_eq_true, Nat.reduceAdd])) only [fX4_reckonGains_L4, ↓bK_11, ↓bK_35, ↓bR_35_0, fX4_reckonGains_J76_37, ↓bR_35_9, ↓bA_41, ↓bS_41, ↓bN_41, ↓hb_of (c_personSize), ↓hb_of (c_bitCount), ↓hb_some, ↓bd_some, ↓letE_eq, h_z0, h_z1, h_zi0, h_zi1, ↓hb_of f0, ↓hb_of f1, ↓hb_of c_bitCount, iN_lit, iN_add, iN_mul, iN_pred, iN_pred', iN_lt, iN_le, iN_eq, iN_nat, nlt_t, nlt_f, nle_t, nle_f, neq_t, neq_f, List.length_nil, List.length_cons, or_false, false_or, or_self, not_false_eq_true, not_true_eq_false, ↓reduceIte, if_true, if_false, Bool.false_eq_true, Nat.reduceAdd, hP, hbc, g1])
    (fun A1 hi _ n' => by
      generalize sN (woN A pu G W n) P = sk at *
      simp (disch := first | omega | assumption | (simp (disch := omega) only [iN_lit, iN_add, iN_mul, iN_pred, iN_pred', iN_lt, iN_le, iN_eq, iN_nat, nlt_t, nlt_f, nle_t, nle_f, neq_t, neq_f, List.length_nil, List.length_cons, or_false, false_or, or_self, not_false_eq_true, not_true_eq_false, ↓reduceIte, if_true, if_false, Bool.false_eq_true, Nat.reduceAdd])) only [fX4_reckonGains_L4, ↓bK_11, ↓bK_35, ↓bR_35_0, fX4_reckonGains_J76_37, ↓bR_35_9, ↓bA_41, ↓bS_41, ↓bN_41, ↓hb_of (c_personSize), ↓hb_of (c_bitCount), ↓hb_some, ↓bd_some, ↓letE_eq, h_z0, h_z1, h_zi0, h_zi1, iN_lit, iN_add, iN_mul, iN_pred, iN_pred', iN_lt, iN_le, iN_eq, iN_nat, nlt_t, nlt_f, nle_t, nle_f, neq_t, neq_f, List.length_nil, List.length_cons, or_false, false_or, or_self, not_false_eq_true, not_true_eq_false, ↓reduceIte, if_true, if_false, Bool.false_eq_true, Nat.reduceAdd, hP]) P 0 A (by omega) ⟨frQ.refl, fun p g hp _ => absurd hp (Nat.not_lt_zero _)⟩
  obtain ⟨A2, ⟨k1, k2⟩, k3⟩ := key
  exact ⟨A2, k3 () FU (by unfold FU; omega), k1, k2⟩
end GN
