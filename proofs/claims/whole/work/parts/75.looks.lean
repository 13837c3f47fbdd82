/-! CALLS: looks (3) -/
def miH (f : Nat → Nat) : Nat → Nat
  | 0 => 0
  | k + 1 => if f (k + 1) < f (miH f k) then k + 1 else miH f k
theorem miH_le {f : Nat → Nat} : ∀ k, miH f k ≤ k
  | 0 => Nat.le_refl _
  | k + 1 => by
    have := miH_le (f := f) k
    unfold miH
    split <;> omega
def loM (A : Nat → Nat → Int32) (pu : (Nat → Int32) → Int32) (G p n : Nat) (mm : Int32) (h : Nat) : Nat := mM (fun v => cN (hasB mm) (lkV A pu G p n h) v G) 10
section LM
variable {I A E I' A' : Nat → Nat → Int32} {L L' : Nat → Int64} {pr ot s : Nat} {J J' : Nat → Int32} {B B' : Nat → Nat → Int32} {M M' : Nat → Int64} {rdv rdv' : Value} {ru : Nat} {T : PH} {G P W p q g n nr sz ro oa w t k N d m : Nat} {Z Z' R X a : Nat → Int32} {x y z i2 acc mm : Int32} {out : Nat → Int64} {pu : (Nat → Int32) → Int32}
theorem look11_C (c : CK I A G P W pr pu) (i1 : frQ A A') (h0 : ∀ h, h < 40 → A' 39 h = 0) (hp : p < P) (hn : n < 2000) :
    ∃ A2, (∀ kx : PH → Option (Int32 × PH), fX4_bestLook_L11 35 (iN p) (iN n) mm kx FU (iN 0) (encC I A' L pr ot T) = kx (encC I A2 L pr ot T)) ∧ frQ A A2 ∧ ∀ h v, h < 4 → v < 10 → A2 39 (h * 10 + v) = iN (cN (hasB mm) (lkV A pu G p n h) v G) := by
  have hF := c.1
  have h8 := hF.2.2.2.1
  have h6 := hF.2.2.2.2.1
  have hG := hF.1
  have hz := c.2.2.2.2.1
  have key := lp_k (fun (kx : PH → Option (Int32 × PH)) n' k (A1 : Nat → Nat → Int32) => fX4_bestLook_L11 35 (iN p) (iN n) mm kx n' (iN k) (encC I A1 L pr ot T)) (fun kx A1 => kx (encC I A1 L pr ot T)) (fun k A1 => frQ A A1 ∧ ∀ h v, h < 4 → v < 10 → A1 39 (h * 10 + v) = iN (cN (hasB mm) (lkV A pu G p n h) v k)) G
    (fun k A1 hk hi => by
      obtain ⟨j1, j2⟩ := hi
      cases hb : hasB mm k with
      | false =>
        refine ⟨A1, ⟨j1, fun h v hh hv => ?_⟩, fun kx n' => ?_⟩
        · rw [j2 h v hh hv]
          show _ = iN (if hasB mm k && decide (lkV A pu G p n h k = v) then _ else _)
          rw [hb, Bool.false_and, if_neg (by decide)]
        · simp (disch := first | omega | assumption | (simp (disch := omega) only [iN_lit, iN_add, iN_mul, iN_pred, iN_pred', iN_lt, iN_le, iN_eq, iN_nat, nlt_t, nlt_f, nle_t, nle_f, neq_t, neq_f, List.length_nil, List.length_cons, or_false, false_or, or_self, not_false_eq_true, not_true_eq_false, ↓reduceIte, if_true, if_false, Bool.false_eq_true, Nat.reduceAdd])) only [fX4_bestLook_L11, ↓bK_11, ↓bK_35, ↓bR_35_0, fX4_bestLook_J48_11, fX4_bestLook_J88_60, ↓hb_of (c_groundSize), ↓hb_some, ↓bd_some, ↓letE_eq, h_z0, h_z1, h_zi0, h_zi1, ↓hb_of (isIn_n hb), iN_lit, iN_add, iN_mul, iN_pred, iN_pred', iN_lt, iN_le, iN_eq, iN_nat, nlt_t, nlt_f, nle_t, nle_f, neq_t, neq_f, List.length_nil, List.length_cons, or_false, false_or, or_self, not_false_eq_true, not_true_eq_false, ↓reduceIte, if_true, if_false, Bool.false_eq_true, Nat.reduceAdd, hG]
      | true =>
        obtain ⟨A2, f1, f2, f3, f4⟩ := c.with2 (L := L) (ot := ot) (T := T) (m := (1 : Int32) <<< (iN k &&& 31)) (n := n) j1 hp hn
        have e39 : A2 39 = A1 39 := f4 39 (by decide) (by decide) (by decide) (by rcases c.2.2.1 with h | h <;> omega)
        have hzk : OK G P (lkZ A pu G p n k) := (hz.ld h8 h6 hp G (Nat.le_refl _)).ps h8 (by omega) n
        obtain ⟨F, g1, g2⟩ := tal_C (I := I) (A' := A2) (L := L) (pr := pr) (ot := ot) (T := T) (Z := lkZ A pu G p n k) f3 hzk (show p < 6 by omega)
        refine ⟨u1 A2 39 F, ⟨⟨fun x hx => by rw [u1_eq, if_neg (by omega)]; exact f2.1 x hx, fun hx => by rw [u1_eq, if_neg (by decide)]; exact f2.2 hx⟩, fun h v hh hv => ?_⟩, fun kx n' => ?_⟩
        · rw [u1_eq, if_pos rfl, g2 h v hh hv, e39, j2 h v hh hv]
          show _ = iN (if hasB mm k && decide (lkV A pu G p n h k = v) then _ else _)
          rw [hb, Bool.true_and]
          by_cases e : v = huN (lkZ A pu G p n k) p h
          · rw [if_pos e, decide_eq_true (show lkV A pu G p n h k = v from e.symm), if_pos rfl]
            exact iN_add
          · rw [if_neg e, decide_eq_false (show ¬ lkV A pu G p n h k = v from fun c => e c.symm), if_neg (by decide)]
        · simp only [iN_lit] at f1
          simp (disch := first | omega | assumption | (simp (disch := omega) only [iN_lit, iN_add, iN_mul, iN_pred, iN_pred', iN_lt, iN_le, iN_eq, iN_nat, nlt_t, nlt_f, nle_t, nle_f, neq_t, neq_f, List.length_nil, List.length_cons, or_false, false_or, or_self, not_false_eq_true, not_true_eq_false, ↓reduceIte, if_true, if_false, Bool.false_eq_true, Nat.reduceAdd])) only [fX4_bestLook_L11, ↓bK_11, ↓bK_35, ↓bR_35_0, fX4_bestLook_J48_11, fX4_bestLook_J88_60, ↓hb_of (c_groundSize), ↓hb_some, ↓bd_some, ↓letE_eq, h_z0, h_z1, h_zi0, h_zi1, ↓hb_of (isIn_y hb), ↓hb_of f1, ↓hb_of g1, iN_lit, iN_add, iN_mul, iN_pred, iN_pred', iN_lt, iN_le, iN_eq, iN_nat, nlt_t, nlt_f, nle_t, nle_f, neq_t, neq_f, List.length_nil, List.length_cons, or_false, false_or, or_self, not_false_eq_true, not_true_eq_false, ↓reduceIte, if_true, if_false, Bool.false_eq_true, Nat.reduceAdd, hG])
    (fun A1 hi kx n' => by
      simp (disch := first | omega | assumption | (simp (disch := omega) only [iN_lit, iN_add, iN_mul, iN_pred, iN_pred', iN_lt, iN_le, iN_eq, iN_nat, nlt_t, nlt_f, nle_t, nle_f, neq_t, neq_f, List.length_nil, List.length_cons, or_false, false_or, or_self, not_false_eq_true, not_true_eq_false, ↓reduceIte, if_true, if_false, Bool.false_eq_true, Nat.reduceAdd])) only [fX4_bestLook_L11, ↓bK_11, ↓bK_35, ↓bR_35_0, fX4_bestLook_J48_11, fX4_bestLook_J88_60, ↓hb_of (c_groundSize), ↓hb_some, ↓bd_some, ↓letE_eq, h_z0, h_z1, h_zi0, h_zi1, iN_lit, iN_add, iN_mul, iN_pred, iN_pred', iN_lt, iN_le, iN_eq, iN_nat, nlt_t, nlt_f, nle_t, nle_f, neq_t, neq_f, List.length_nil, List.length_cons, or_false, false_or, or_self, not_false_eq_true, not_true_eq_false, ↓reduceIte, if_true, if_false, Bool.false_eq_true, Nat.reduceAdd, hG]) G 0 A' (by omega) ⟨i1, fun h v hh hv => h0 _ (by omega)⟩
  obtain ⟨A2, ⟨k1, k2⟩, k3⟩ := key
  exact ⟨A2, fun kx => k3 kx FU (by unfold FU; omega), k1, k2⟩
theorem look_C (c : CK I A G P W pr pu) (i1 : frQ A A') (hp : p < P) (hn : n < 2000) :
    ∃ A2, fX4_bestLook 35 (iN p) (iN n) mm (encC I A' L pr ot T) = some (iN (miH (loM A pu G p n mm) 3), (encC (u2 I 9 1 (iN 1)) A2 (vp_updL L 0 (iN (loM A pu G p n mm (miH (loM A pu G p n mm) 3))).toInt64) pr ot T)) ∧ frQ A A2 := by
  have h8 := c.1.2.2.2.1
  obtain ⟨F, f1, f2⟩ := c_fill40 (I := I) (A := A') (L := L) (pr := pr) (ot := ot) (T := T)
  obtain ⟨A2, g1, g2, g3⟩ := look11_C (A' := u1 A' 39 F) (L := L) (ot := ot) (T := T) (mm := mm) c ⟨fun x hx => by rw [u1_eq, if_neg (by omega)]; exact i1.1 x hx, fun hx => by rw [u1_eq, if_neg (by decide)]; exact i1.2 hx⟩ (fun h hh => by rw [u1_eq, if_pos rfl]; exact f1 h hh) hp hn
  have hmo : ∀ {I : Nat → Nat → Int32} {L : Nat → Int64}, ∀ h, h < 4 → fX4_mostLeft 35 (iN h) (encC I A2 L pr ot T) = some (iN (loM A pu G p n mm h), (encC I A2 L pr ot T)) := fun h hh => most_C (f := fun v => cN (hasB mm) (lkV A pu G p n h) v G) hh (fun v hv => g3 h v hh hv) (fun v hv => Nat.le_trans (cN_le G) (by omega))
  have hlo : ∀ h, loM A pu G p n mm h ≤ 100 := fun h => mM_le (fun v hv => Nat.le_trans (cN_le G) (by omega))
  generalize hf : loM A pu G p n mm = f at hmo hlo ⊢
  have key := fun (kx : Int32 → PH → Option (Int32 × PH)) => lp_det (fun n' k (q : Int32) => fX4_bestLook_L60 35 kx n' q (iN (k + 1)) (encC I A2 L pr ot T)) (fun q => kx q (encC I A2 L pr ot T)) (fun k => iN (miH f k)) 3
    (fun k hk n' => by
      have m1 := hmo (I := I) (L := L) (k + 1) (by omega)
      have hml := miH_le (f := f) k
      have m2 := hmo (I := I) (L := L) (miH f k) (by omega)
      have l1 := hlo (k + 1)
      have l2 := hlo (miH f k)
      have e1 : miH f (k + 1) = if f (k + 1) < f (miH f k) then k + 1 else miH f k := rfl
      rw [e1]
      by_cases hl : f (k + 1) < f (miH f k)
      · have hl' : ¬ f (miH f k) ≤ f (k + 1) := by omega
        rw [if_pos hl]
        simp (disch := first | omega | assumption | (simp (disch := omega) only [iN_lit, iN_add, iN_mul, iN_pred, iN_pred', iN_lt, iN_le, iN_eq, iN_nat, nlt_t, nlt_f, nle_t, nle_f, neq_t, neq_f, List.length_nil, List.length_cons, or_false, false_or, or_self, not_false_eq_true, not_true_eq_false, ↓reduceIte, if_true, if_false, Bool.false_eq_true, Nat.reduceAdd])) only [fX4_bestLook_L60, ↓bK_35, fX4_bestLook_J48_11, fX4_bestLook_J88_60, ↓hb_some, ↓bd_some, ↓letE_eq, h_z0, h_z1, h_zi0, h_zi1, ↓hb_of m1, ↓hb_of m2, iN_lit, iN_add, iN_mul, iN_pred, iN_pred', iN_lt, iN_le, iN_eq, iN_nat, nlt_t, nlt_f, nle_t, nle_f, neq_t, neq_f, List.length_nil, List.length_cons, or_false, false_or, or_self, not_false_eq_true, not_true_eq_false, ↓reduceIte, if_true, if_false, Bool.false_eq_true, Nat.reduceAdd, hl']
      · have hl' : f (miH f k) ≤ f (k + 1) := by omega
        rw [if_neg hl]
        simp (disch := first | omega | assumption | (simp (disch := omega) only [iN_lit, iN_add, iN_mul, iN_pred, iN_pred', iN_lt, iN_le, iN_eq, iN_nat, nlt_t, nlt_f, nle_t, nle_f, neq_t, neq_f, List.length_nil, List.length_cons, or_false, false_or, or_self, not_false_eq_true, not_true_eq_false, ↓reduceIte, if_true, if_false, Bool.false_eq_true, Nat.reduceAdd])) only [fX4_bestLook_L60, ↓bK_35, fX4_bestLook_J48_11, fX4_bestLook_J88_60, ↓hb_some, ↓bd_some, ↓letE_eq, h_z0, h_z1, h_zi0, h_zi1, ↓hb_of m1, ↓hb_of m2, iN_lit, iN_add, iN_mul, iN_pred, iN_pred', iN_lt, iN_le, iN_eq, iN_nat, nlt_t, nlt_f, nle_t, nle_f, neq_t, neq_f, List.length_nil, List.length_cons, or_false, false_or, or_self, not_false_eq_true, not_true_eq_false, ↓reduceIte, if_true, if_false, Bool.false_eq_true, Nat.reduceAdd, hl'])
    (fun n' => by simp (disch := first | omega | assumption | (simp (disch := omega) only [iN_lit, iN_add, iN_mul, iN_pred, iN_pred', iN_lt, iN_le, iN_eq, iN_nat, nlt_t, nlt_f, nle_t, nle_f, neq_t, neq_f, List.length_nil, List.length_cons, or_false, false_or, or_self, not_false_eq_true, not_true_eq_false, ↓reduceIte, if_true, if_false, Bool.false_eq_true, Nat.reduceAdd])) only [fX4_bestLook_L60, ↓bK_35, fX4_bestLook_J48_11, fX4_bestLook_J88_60, ↓hb_some, ↓bd_some, ↓letE_eq, h_z0, h_z1, h_zi0, h_zi1, iN_lit, iN_add, iN_mul, iN_pred, iN_pred', iN_lt, iN_le, iN_eq, iN_nat, nlt_t, nlt_f, nle_t, nle_f, neq_t, neq_f, List.length_nil, List.length_cons, or_false, false_or, or_self, not_false_eq_true, not_true_eq_false, ↓reduceIte, if_true, if_false, Bool.false_eq_true, Nat.reduceAdd]) FU (by unfold FU; omega)
  have hr := miH_le (f := f) 3
  have m3 := hmo (I := u2 I 9 1 (iN 0)) (L := L) (miH f 3) (by omega)
  have a1 := c_add (I := I) (A := A2) (L := L) (pr := pr) (ot := ot) (T := T) (v := (iN (f (miH f 3))).toInt64) (n := 0) (by decide)
  refine ⟨A2, ?_, g2⟩
  unfold fX4_bestLook
  rw [bR_35_7, hb_of f2]
  refine (g1 _).trans ((key _).trans ?_)
  rw [bR_35_3, bK_9, hb_of c_start, bR_35_3, bK_35, hb_of m3, bK_9, hb_of a1]
end LM
