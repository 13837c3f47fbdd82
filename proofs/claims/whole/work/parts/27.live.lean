/-! A DAY OF ONE OF PEOPLE, by the class -/
section ZG
variable {I A : Nat → Nat → Int32} {L : Nat → Int64} {pr ot : Nat} {T : PH} {o : Nat} {β : Type}
theorem zK (ho : o = 27 ∨ o = 31) {f : Unit → Option β} : (h_ck 7 (encC I A L pr ot T) o).bind f = f () := by rcases ho with rfl | rfl <;> rfl
theorem zR_0 (ho : o = 27 ∨ o = 31) {f : Nat → Option β} : (h_gr 7 0 (encC I A L pr ot T) o).bind f = f 11 := by rcases ho with rfl | rfl <;> rfl
theorem zR_1 (ho : o = 27 ∨ o = 31) {f : Nat → Option β} : (h_gr 7 1 (encC I A L pr ot T) o).bind f = f (o + 1) := by rcases ho with rfl | rfl <;> rfl
theorem zR_2 (ho : o = 27 ∨ o = 31) {f : Nat → Option β} : (h_gr 7 2 (encC I A L pr ot T) o).bind f = f (o + 2) := by rcases ho with rfl | rfl <;> rfl
theorem zR_3 (ho : o = 27 ∨ o = 31) {f : Nat → Option β} : (h_gr 7 3 (encC I A L pr ot T) o).bind f = f (o + 3) := by rcases ho with rfl | rfl <;> rfl
theorem zA_1 (ho : o = 27 ∨ o = 31) {i : Int32} {f : Int32 → Option β} (hi : ¬ (i < 0 ∨ 82 ≤ i.toNatClampNeg)) : (h_ald .int (encC I A L pr ot T) (o + 1) i).bind f = f (A (o + 1) i.toNatClampNeg) := by
  rcases ho with rfl | rfl
  · exact bA_28 hi
  · exact bA_32 hi
theorem zA_2 (ho : o = 27 ∨ o = 31) {i : Int32} {f : Int32 → Option β} (hi : ¬ (i < 0 ∨ 7 ≤ i.toNatClampNeg)) : (h_ald .int (encC I A L pr ot T) (o + 2) i).bind f = f (A (o + 2) i.toNatClampNeg) := by
  rcases ho with rfl | rfl
  · exact bA_29 hi
  · exact bA_33 hi
theorem zA_3 (ho : o = 27 ∨ o = 31) {i : Int32} {f : Int32 → Option β} (hi : ¬ (i < 0 ∨ 4 ≤ i.toNatClampNeg)) : (h_ald .int (encC I A L pr ot T) (o + 3) i).bind f = f (A (o + 3) i.toNatClampNeg) := by
  rcases ho with rfl | rfl
  · exact bA_30 hi
  · exact bA_34 hi
theorem zS_1 (ho : o = 27 ∨ o = 31) {i v : Int32} {f : PH → Option β} (hi : ¬ (i < 0 ∨ 82 ≤ i.toNatClampNeg)) : (h_ast .int (encC I A L pr ot T) (o + 1) i v).bind f = f (encC I (u1 A (o + 1) (upd (A (o + 1)) i.toNatClampNeg v)) L pr ot T) := by
  rcases ho with rfl | rfl
  · exact bS_28 hi
  · exact bS_32 hi
theorem zS_2 (ho : o = 27 ∨ o = 31) {i v : Int32} {f : PH → Option β} (hi : ¬ (i < 0 ∨ 7 ≤ i.toNatClampNeg)) : (h_ast .int (encC I A L pr ot T) (o + 2) i v).bind f = f (encC I (u1 A (o + 2) (upd (A (o + 2)) i.toNatClampNeg v)) L pr ot T) := by
  rcases ho with rfl | rfl
  · exact bS_29 hi
  · exact bS_33 hi
theorem zS_3 (ho : o = 27 ∨ o = 31) {i v : Int32} {f : PH → Option β} (hi : ¬ (i < 0 ∨ 4 ≤ i.toNatClampNeg)) : (h_ast .int (encC I A L pr ot T) (o + 3) i v).bind f = f (encC I (u1 A (o + 3) (upd (A (o + 3)) i.toNatClampNeg v)) L pr ot T) := by
  rcases ho with rfl | rfl
  · exact bS_30 hi
  · exact bS_34 hi
theorem zN_3 (ho : o = 27 ∨ o = 31) {f : Int32 → Option β} : (h_al .int (encC I A L pr ot T) (o + 3)).bind f = f 4 := by rcases ho with rfl | rfl <;> rfl
theorem zrK {ro : Nat} (hro : ro = 19 ∨ ro = 23) {f : Unit → Option β} : (h_ck 5 (encC I A L pr ot T) ro).bind f = f () := by rcases hro with rfl | rfl <;> rfl
end ZG
theorem RU.congr {I A A' : Nat → Nat → Int32} {ro : Nat} {pu : (Nat → Int32) → Int32} (h : RU I A ro pu) (e : A' (ro + 1) = A (ro + 1)) : RU I A' ro pu := by
  obtain ⟨h1, n, h2, h3, h4⟩ := h
  exact ⟨h1, n, h2, h3, by rw [e]; exact h4⟩
/-- what a RULE may name -/
def fcS (V Tt Gd E D S N : Int32) : Nat → Int32 := fun k => if k = 0 then V else if k = 1 then Tt else if k = 2 then Gd else if k = 3 then E else if k = 4 then D else if k = 5 then S else N
section LV
variable {I A : Nat → Nat → Int32} {L : Nat → Int64} {pr ot : Nat} {T : PH} {o ro G P W p g : Nat} {pu : (Nat → Int32) → Int32}
theorem c_pushBy (hF : FS I G P W) (ho : o = 27 ∨ o = 31) (hro : ro = 19 ∨ ro = 23) (hr : RU I A ro pu) (hp : p < 6) (hg : g < G) :
    ∃ A', fX8_pushBy o (iN p) (iN g) ro (encC I A L pr ot T) = some ((), encC I A' L pr ot T) ∧ (∀ x, x ≠ o + 2 → x ≠ o + 3 → x ≠ ro + 3 → A' x = A x) ∧ (A' (o + 2) 3 = A (o + 2) 3 ∧ A' (o + 2) 5 = A (o + 2) 5 ∧ A' (o + 2) 6 = A (o + 2) 6) ∧
      ∀ h, h < 4 → A' (o + 3) h = A (o + 3) h + (if A 13 (g * 4 + h) = -1 then 0 else pu (fcS (A (o + 1) (8 + p * 4 + h)) (A 13 (g * 4 + h)) (A 12 g) (A (o + 2) 3) (A (o + 1) (32 + p * 8 + g)) (A (o + 2) 5) (A (o + 2) 6))) := by
  have hF' := hF
  obtain ⟨hG, hP, hW, h8, h6, h7⟩ := hF
  have key := lp_up (fun n k (B : Nat → Nat → Int32) => fX8_pushBy_L29 o (iN p) (iN g) ro (fun h10 => some ((), h10)) n (iN k) (encC I B L pr ot T)) (fun B => some ((), encC I B L pr ot T))
    (fun k B => (∀ x, x ≠ o + 2 → x ≠ o + 3 → x ≠ ro + 3 → B x = A x) ∧ (B (o + 2) 2 = A 12 g ∧ B (o + 2) 3 = A (o + 2) 3 ∧ B (o + 2) 4 = A (o + 1) (32 + p * 8 + g) ∧ B (o + 2) 5 = A (o + 2) 5 ∧ B (o + 2) 6 = A (o + 2) 6) ∧
      ∀ h, h < 4 → B (o + 3) h = A (o + 3) h + (if k ≤ h then 0 else if A 13 (g * 4 + h) = -1 then 0 else pu (fcS (A (o + 1) (8 + p * 4 + h)) (A 13 (g * 4 + h)) (A 12 g) (A (o + 2) 3) (A (o + 1) (32 + p * 8 + g)) (A (o + 2) 5) (A (o + 2) 6)))) 4 ?_ ?_ 4 0
    (u1 A (o + 2) (upd (upd (A (o + 2)) 2 (A 12 g)) 4 (A (o + 1) (32 + p * 8 + g)))) (by omega) ?_
  · obtain ⟨B, ⟨h1, h2, h3⟩, h4⟩ := key
    refine ⟨B, ?_, h1, ⟨h2.2.1, h2.2.2.2.1, h2.2.2.2.2⟩, fun h hh => ?_⟩
    · have h5 := h4 FU (by unfold FU; omega)
      have e1 := c_gradeOf (I := I) (A := A) (L := L) (pr := pr) (ot := ot) (T := T) hG h8 hg
      have e2 := fun B => c_daysHeld (I := I) (A := B) (L := L) (pr := pr) (ot := ot) (T := T) ho hp (show g < 8 by omega)
      unfold fX8_pushBy
      simp (disch := first | omega | (simp (disch := omega) only [iN_lit, iN_add, iN_mul, iN_pred, iN_pred', iN_lt, iN_le, iN_eq, iN_nat, nlt_t, nlt_f, nle_t, nle_f, neq_t, neq_f, List.length_nil, List.length_cons, or_false, false_or, or_self, not_false_eq_true, not_true_eq_false, ↓reduceIte, if_true, if_false, Bool.false_eq_true, Nat.reduceAdd])) only [↓zR_0 ho, ↓zR_1 ho, ↓zR_2 ho, ↓zR_3 ho, ↓zK ho, ↓zS_2 ho, ↓bK_11, ↓hb_of e1, ↓hb_of (e2 _), u1_eq, u1_u1, iN_lit, iN_add, iN_mul, iN_pred, iN_pred', iN_lt, iN_le, iN_eq, iN_nat, nlt_t, nlt_f, nle_t, nle_f, neq_t, neq_f, List.length_nil, List.length_cons, or_false, false_or, or_self, not_false_eq_true, not_true_eq_false, ↓reduceIte, if_true, if_false, Bool.false_eq_true, Nat.reduceAdd]
      exact h5
    · rw [h3 h hh, if_neg (by omega)]
  · intro k B hk hi
    obtain ⟨h1, ⟨g2, g3, g4, g5, g6⟩, h3⟩ := hi
    have hB13 : B 13 = A 13 := h1 13 (by omega) (by omega) (by omega)
    have hBz : B (o + 1) = A (o + 1) := h1 (o + 1) (by omega) (by omega) (by omega)
    have e1 := c_pullOf (I := I) (A := B) (L := L) (pr := pr) (ot := ot) (T := T) hG h8 hg hk
    rw [hB13] at e1
    by_cases hpl : A 13 (g * 4 + k) = -1
    · refine ⟨B, ⟨h1, ⟨g2, g3, g4, g5, g6⟩, fun h hh => ?_⟩, fun n => ?_⟩
      · rw [h3 h hh]
        by_cases e : h = k
        · subst e
          rw [if_pos (Nat.le_refl _), if_neg (by omega), if_pos hpl]
        · by_cases e2 : k ≤ h
          · rw [if_pos e2, if_pos (show k + 1 ≤ h by omega)]
          · rw [if_neg e2, if_neg (show ¬ k + 1 ≤ h by omega)]
      · rw [hpl] at e1
        simp (disch := first | omega | (simp (disch := omega) only [iN_lit, iN_add, iN_mul, iN_pred, iN_pred', iN_lt, iN_le, iN_eq, iN_nat, nlt_t, nlt_f, nle_t, nle_f, neq_t, neq_f, List.length_nil, List.length_cons, or_false, false_or, or_self, not_false_eq_true, not_true_eq_false, ↓reduceIte, if_true, if_false, Bool.false_eq_true, Nat.reduceAdd])) only [fX8_pushBy_L29, fX8_pushBy_J92_29, ↓zR_0 ho, ↓bK_11, ↓hb_of e1, ↓letE_eq, iN_lit, iN_add, iN_mul, iN_pred, iN_pred', iN_lt, iN_le, iN_eq, iN_nat, nlt_t, nlt_f, nle_t, nle_f, neq_t, neq_f, List.length_nil, List.length_cons, or_false, false_or, or_self, not_false_eq_true, not_true_eq_false, ↓reduceIte, if_true, if_false, Bool.false_eq_true, Nat.reduceAdd]
    · have hpl' : ¬ A 13 (g * 4 + k) = -iN 1 := hpl
      have e2 := fun B => c_humourOf (I := I) (A := B) (L := L) (pr := pr) (ot := ot) (T := T) ho hp hk
      obtain ⟨V, e3⟩ := c_push (L := L) (pr := pr) (ot := ot) (T := T) (A := u1 B (o + 2) (upd (upd (B (o + 2)) 1 (A 13 (g * 4 + k))) 0 (B (o + 1) (8 + p * 4 + k)))) ho hro (hr.congr (by rw [u1_eq, if_neg (by omega)]; exact h1 (ro + 1) (by omega) (by omega) (by omega)))
      have e4 : pu ((u1 B (o + 2) (upd (upd (B (o + 2)) 1 (A 13 (g * 4 + k))) 0 (B (o + 1) (8 + p * 4 + k)))) (o + 2)) = pu (fcS (A (o + 1) (8 + p * 4 + k)) (A 13 (g * 4 + k)) (A 12 g) (A (o + 2) 3) (A (o + 1) (32 + p * 8 + g)) (A (o + 2) 5) (A (o + 2) 6)) := by
        refine hr.1 _ _ (fun j hj => ?_)
        rw [u1_eq, if_pos rfl, hBz]
        match j, hj with
        | 0, _ => rfl
        | 1, _ => rfl
        | 2, _ => exact g2
        | 3, _ => exact g3
        | 4, _ => exact g4
        | 5, _ => exact g5
        | 6, _ => exact g6
      rw [e4] at e3
      refine ⟨u1 (u1 (u1 B (o + 2) (upd (upd (B (o + 2)) 1 (A 13 (g * 4 + k))) 0 (B (o + 1) (8 + p * 4 + k)))) (ro + 3) V) (o + 3) (upd (B (o + 3)) k (B (o + 3) k + pu (fcS (A (o + 1) (8 + p * 4 + k)) (A 13 (g * 4 + k)) (A 12 g) (A (o + 2) 3) (A (o + 1) (32 + p * 8 + g)) (A (o + 2) 5) (A (o + 2) 6)))), ⟨fun x x1 x2 x3 => ?_, ?_, fun h hh => ?_⟩, fun n => ?_⟩
      · rw [u1_eq, if_neg x2, u1_eq, if_neg x3, u1_eq, if_neg x1]
        exact h1 x x1 x2 x3
      · have hd : ¬ (o + 2 = o + 3) := by omega
        have hd2 : ¬ (o + 2 = ro + 3) := by omega
        rw [u1_eq, if_neg hd, u1_eq, if_neg hd2, u1_eq, if_pos rfl]
        exact ⟨g2, g3, g4, g5, g6⟩
      · rw [u1_eq, if_pos rfl]
        unfold upd
        by_cases e : h = k
        · subst e
          rw [if_pos rfl, h3 h hh, if_pos (Nat.le_refl _), if_neg (by omega), if_neg hpl, Int32.add_zero]
        · rw [if_neg e, h3 h hh]
          by_cases e2 : k ≤ h
          · rw [if_pos e2, if_pos (show k + 1 ≤ h by omega)]
          · rw [if_neg e2, if_neg (show ¬ k + 1 ≤ h by omega)]
      · simp (disch := first | omega | (simp (disch := omega) only [iN_lit, iN_add, iN_mul, iN_pred, iN_pred', iN_lt, iN_le, iN_eq, iN_nat, nlt_t, nlt_f, nle_t, nle_f, neq_t, neq_f, List.length_nil, List.length_cons, or_false, false_or, or_self, not_false_eq_true, not_true_eq_false, ↓reduceIte, if_true, if_false, Bool.false_eq_true, Nat.reduceAdd])) only [fX8_pushBy_L29, fX8_pushBy_J92_29, ↓zR_0 ho, ↓zR_2 ho, ↓zR_3 ho, ↓zK ho, ↓zrK hro, ↓zA_3 ho, ↓zS_2 ho, ↓zS_3 ho, ↓bK_11, ↓hb_of e1, ↓hb_of (e2 _), ↓hb_of e3, ↓letE_eq, hpl', u1_eq, u1_u1, iN_lit, iN_add, iN_mul, iN_pred, iN_pred', iN_lt, iN_le, iN_eq, iN_nat, nlt_t, nlt_f, nle_t, nle_f, neq_t, neq_f, List.length_nil, List.length_cons, or_false, false_or, or_self, not_false_eq_true, not_true_eq_false, ↓reduceIte, if_true, if_false, Bool.false_eq_true, Nat.reduceAdd]
  · intro B hi n
    simp (disch := first | omega | (simp (disch := omega) only [iN_lit, iN_add, iN_mul, iN_pred, iN_pred', iN_lt, iN_le, iN_eq, iN_nat, nlt_t, nlt_f, nle_t, nle_f, neq_t, neq_f, List.length_nil, List.length_cons, or_false, false_or, or_self, not_false_eq_true, not_true_eq_false, ↓reduceIte, if_true, if_false, Bool.false_eq_true, Nat.reduceAdd])) only [fX8_pushBy_L29, iN_lit, iN_add, iN_mul, iN_pred, iN_pred', iN_lt, iN_le, iN_eq, iN_nat, nlt_t, nlt_f, nle_t, nle_f, neq_t, neq_f, List.length_nil, List.length_cons, or_false, false_or, or_self, not_false_eq_true, not_true_eq_false, ↓reduceIte, if_true, if_false, Bool.false_eq_true, Nat.reduceAdd]
  · refine ⟨fun x x1 x2 x3 => ?_, ?_, fun h hh => ?_⟩
    · rw [u1_eq, if_neg x1]
    · rw [u1_eq, if_pos rfl]
      exact ⟨rfl, rfl, rfl, rfl, rfl⟩
    · rw [u1_eq, if_neg (by omega), if_pos (by omega), Int32.add_zero]

theorem c_fill4 (ho : o = 27 ∨ o = 31) : ∃ F, (∀ h, h < 4 → F h = 0) ∧ fJ7_fill_53178 (o + 3) 0 (encC I A L pr ot T) = some ((), encC I (u1 A (o + 3) F) L pr ot T) := by
  have key := lp_up (fun n k (F : Nat → Int32) => fJ7_fill_53178_L5 (o + 3) 0 4 (fun h2 => some ((), h2)) n (iN k) (encC I (u1 A (o + 3) F) L pr ot T)) (fun F => some ((), encC I (u1 A (o + 3) F) L pr ot T))
    (fun k F => ∀ h, h < k → F h = 0) 4 ?_ ?_ 4 0 (A (o + 3)) (by omega) (fun h hh => absurd hh (Nat.not_lt_zero _))
  · obtain ⟨F, h1, h2⟩ := key
    refine ⟨F, h1, ?_⟩
    have h3 := h2 FU (by unfold FU; omega)
    rw [u1_self] at h3
    unfold fJ7_fill_53178
    rw [zN_3 ho]
    exact h3
  · intro k F hk hi
    refine ⟨upd F k 0, fun h hh => ?_, fun n => ?_⟩
    · unfold upd
      by_cases e : h = k
      · rw [if_pos e]
      · rw [if_neg e]; exact hi h (by omega)
    · simp (disch := first | omega | (simp (disch := omega) only [iN_lit, iN_add, iN_mul, iN_pred, iN_pred', iN_lt, iN_le, iN_eq, iN_nat, nlt_t, nlt_f, nle_t, nle_f, neq_t, neq_f, List.length_nil, List.length_cons, or_false, false_or, or_self, not_false_eq_true, not_true_eq_false, ↓reduceIte, if_true, if_false, Bool.false_eq_true, Nat.reduceAdd])) only [fJ7_fill_53178_L5, ↓zS_3 ho, ↓letE_eq, u1_eq, u1_u1, iN_lit, iN_add, iN_mul, iN_pred, iN_pred', iN_lt, iN_le, iN_eq, iN_nat, nlt_t, nlt_f, nle_t, nle_f, neq_t, neq_f, List.length_nil, List.length_cons, or_false, false_or, or_self, not_false_eq_true, not_true_eq_false, ↓reduceIte, if_true, if_false, Bool.false_eq_true, Nat.reduceAdd]
  · intro F hi n
    simp (disch := first | omega | (simp (disch := omega) only [iN_lit, iN_add, iN_mul, iN_pred, iN_pred', iN_lt, iN_le, iN_eq, iN_nat, nlt_t, nlt_f, nle_t, nle_f, neq_t, neq_f, List.length_nil, List.length_cons, or_false, false_or, or_self, not_false_eq_true, not_true_eq_false, ↓reduceIte, if_true, if_false, Bool.false_eq_true, Nat.reduceAdd])) only [fJ7_fill_53178_L5, iN_lit, iN_add, iN_mul, iN_pred, iN_pred', iN_lt, iN_le, iN_eq, iN_nat, nlt_t, nlt_f, nle_t, nle_f, neq_t, neq_f, List.length_nil, List.length_cons, or_false, false_or, or_self, not_false_eq_true, not_true_eq_false, ↓reduceIte, if_true, if_false, Bool.false_eq_true, Nat.reduceAdd]
end LV
/-- how the humour h of p is moved in a day -/
def mvS (A : Nat → Nat → Int32) (Z : Nat → Int32) (pu : (Nat → Int32) → Int32) (G p : Nat) (N : Int32) (h : Nat) : Nat → Int32 :=
  sm (fun g => if hdB Z p g = true ∧ ¬ A 13 (g * 4 + h) = -1 then pu (fcS (Z (8 + p * 4 + h)) (A 13 (g * 4 + h)) (A 12 g) (bc (gsS Z G p)) (Z (32 + p * 8 + g)) (A 14 p) N) else 0)
def cl9 (v : Int32) : Int32 := if 0 ≤ v then (if v ≤ 9 then v else 9) else 0
def mn99 (v : Int32) : Int32 := if v < 99 then v else 99
def dy7 (Z : Nat → Int32) : Int32 := Z 80 - Z 80 / 7 * 7
/-- a day of p -/
def lvZ (A : Nat → Nat → Int32) (pu : (Nat → Int32) → Int32) (G p : Nat) (Z : Nat → Int32) : Nat → Int32 := fun k =>
  if 8 + p * 4 ≤ k ∧ k < 8 + p * 4 + 4 then cl9 (Z k + mvS A Z pu G p (dy7 Z) (k - (8 + p * 4)) G)
  else if 32 + p * 8 ≤ k ∧ k < 32 + p * 8 + G ∧ ¬ Z k = -1 then mn99 (Z k + 1) else Z k
