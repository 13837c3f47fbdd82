/-! SHARES: the class's most (4): GROUND by GROUND -/
section MT
variable {I A E I' A' : Nat → Nat → Int32} {L L' : Nat → Int64} {pr ot s : Nat} {T : PH} {ga : Nat → Nat → Nat} {g q v w n p r f G P W K X Y st acc j R M : Nat} {lf : Nat → Nat} {S : Nat → Bool}
theorem mo70 (hg : g < 8) (hga : ∀ q g, ga q g ≤ 100) (hst : lf g < 1000) (h42 : A' 42 g = iN (lf g)) (hM : M ≤ 64) (hs : ∀ Y, Y < M → A' 44 Y = iN (swM ga g Y)) :
    ∀ n X (Z : Nat → Int32), X < n → X < M → (∀ Y, Y ≤ X → exV ga g lf Y (Z Y)) → (∀ Y, X < Y → Y < M → exV ga (g + 1) lf Y (Z Y)) → ∃ Z2, (∀ (kx : PH → Option (Int32 × PH)) (i1 i2 : Int32), fX4_mostGained_L70 35 i1 i2 (iN g) kx n (iN X) (encC I (u1 A' 43 Z) L pr ot T) = kx (encC I (u1 A' 43 Z2) L pr ot T)) ∧ ∀ Y, Y < M → exV ga (g + 1) lf Y (Z2 Y) := by
  intro n
  induction n with
  | zero => intro X Z h; exact absurd h (Nat.not_lt_zero _)
  | succ n ih =>
    intro X Z hn hX ha hb
    by_cases h0 : X = 0
    · subst h0
      refine ⟨Z, fun kx i1 i2 => ?_, fun Y hY => ?_⟩
      · simp (disch := first | omega | assumption | (simp (disch := omega) only [iN_lit, iN_add, iN_mul, iN_pred, iN_pred', iN_lt, iN_le, iN_eq, iN_nat, nlt_t, nlt_f, nle_t, nle_f, neq_t, neq_f, List.length_nil, List.length_cons, or_false, false_or, or_self, not_false_eq_true, not_true_eq_false, ↓reduceIte, if_true, if_false, Bool.false_eq_true, Nat.reduceAdd])) only [fX4_mostGained_L70, ↓bK_35, ↓bR_35_11, ↓bA_43, ↓bS_43, ↓bN_43, ↓bR_35_10, ↓bA_42, ↓bS_42, ↓bN_42, ↓hb_some, ↓bd_some, ↓letE_eq, h_z0, h_z1, h_zi0, h_zi1, iN_lit, iN_add, iN_mul, iN_pred, iN_pred', iN_lt, iN_le, iN_eq, iN_nat, nlt_t, nlt_f, nle_t, nle_f, neq_t, neq_f, List.length_nil, List.length_cons, or_false, false_or, or_self, not_false_eq_true, not_true_eq_false, ↓reduceIte, if_true, if_false, Bool.false_eq_true, Nat.reduceAdd]
      · by_cases e : Y = 0
        · obtain ⟨v, h1, h2⟩ := ha 0 (Nat.le_refl _)
          subst e
          have z : ∀ q, tb 0 q = false := fun q => Nat.zero_testBit q
          have := Ach_none z h2.1
          exact ⟨v, h1, h2.1.up, fun w hw => by rw [Ach_none z hw]; exact Nat.zero_le _⟩
        · exact hb Y (by omega) hY
    · have hz : u1 A' 43 Z 43 = Z := by rw [u1_eq, if_pos rfl]
      have h44 : u1 A' 43 Z 44 = A' 44 := by rw [u1_eq, if_neg (by decide)]
      have h42' : u1 A' 43 Z 42 = A' 42 := by rw [u1_eq, if_neg (by decide)]
      obtain ⟨x, f1, f2⟩ := bw_C (I := I) (L := L) (pr := pr) (ot := ot) (T := T) (A := u1 A' 43 Z) (X := X) hga (by omega) (by omega) hst (fun Y hY => by rw [h44]; exact hs Y (by omega)) (fun Y hY => by rw [hz]; exact ha Y hY)
      have h1 : (iN X ≤ iN 0) = False := eq_false (by rw [iN_le (by omega) (by omega)]; omega)
      have hpr : iN X + -iN 1 = iN (X - 1) := by
        obtain ⟨Y, rfl⟩ : ∃ Y, X = Y + 1 := ⟨X - 1, by omega⟩
        exact iN_pred'
      obtain ⟨Z2, g1, g2⟩ := ih (X - 1) (upd Z X x) (by omega) (by omega) (fun Y hY => by rw [upd_if, if_neg (by omega)]; exact ha Y (by omega)) (fun Y h1 h2 => by
        rw [upd_if]
        by_cases e : Y = X
        · rw [if_pos e, e]; exact f2
        · rw [if_neg e]; exact hb Y (by omega) h2)
      refine ⟨Z2, fun kx i1 i2 => ?_, g2⟩
      simp (disch := first | omega | assumption | (simp (disch := omega) only [iN_lit, iN_add, iN_mul, iN_pred, iN_pred', iN_lt, iN_le, iN_eq, iN_nat, nlt_t, nlt_f, nle_t, nle_f, neq_t, neq_f, List.length_nil, List.length_cons, or_false, false_or, or_self, not_false_eq_true, not_true_eq_false, ↓reduceIte, if_true, if_false, Bool.false_eq_true, Nat.reduceAdd])) only [fX4_mostGained_L70, ↓bK_35, ↓bR_35_11, ↓bA_43, ↓bS_43, ↓bN_43, ↓bR_35_10, ↓bA_42, ↓bS_42, ↓bN_42, ↓hb_some, ↓bd_some, ↓letE_eq, h_z0, h_z1, h_zi0, h_zi1, ↓hb_of f1, iN_lit, iN_add, iN_mul, iN_pred, iN_pred', iN_lt, iN_le, iN_eq, iN_nat, nlt_t, nlt_f, nle_t, nle_f, neq_t, neq_f, List.length_nil, List.length_cons, or_false, false_or, or_self, not_false_eq_true, not_true_eq_false, ↓reduceIte, if_true, if_false, Bool.false_eq_true, Nat.reduceAdd, h1, hz, h42', h42, u1_u1, hpr]
      exact g1 kx i1 i2
theorem mo18 (hM : M ≤ 64) (kx : PH → Option (Int32 × PH)) (i1 : Int32) : ∃ Z2, fX4_mostGained_L18 35 i1 (iN M) kx FU (iN 0) (encC I A' L pr ot T) = kx (encC I (u1 A' 43 Z2) L pr ot T) ∧ ∀ Y, Y < M → Z2 Y = 0 := by
  have e0 : u1 A' 43 (A' 43) = A' := u1_self
  have key := lp_k (fun (_ : Unit) n' k (Z : Nat → Int32) => fX4_mostGained_L18 35 i1 (iN M) kx n' (iN k) (encC I (u1 A' 43 Z) L pr ot T)) (fun _ Z => kx (encC I (u1 A' 43 Z) L pr ot T)) (fun k Z => ∀ X, X < k → Z X = 0) M
    (fun k Z hk hi => by
      have hz : u1 A' 43 Z 43 = Z := by rw [u1_eq, if_pos rfl]
      refine ⟨upd Z k 0, fun X hX => ?_, fun _ n' => ?_⟩
      · rw [upd_if]
        by_cases e : X = k
        · rw [if_pos e]
        · rw [if_neg e]; exact hi X (by omega)
      · simp (disch := first | omega | assumption | (simp (disch := omega) only [iN_lit, iN_add, iN_mul, iN_pred, iN_pred', iN_lt, iN_le, iN_eq, iN_nat, nlt_t, nlt_f, nle_t, nle_f, neq_t, neq_f, List.length_nil, List.length_cons, or_false, false_or, or_self, not_false_eq_true, not_true_eq_false, ↓reduceIte, if_true, if_false, Bool.false_eq_true, Nat.reduceAdd])) only [fX4_mostGained_L18, ↓bR_35_11, ↓bA_43, ↓bS_43, ↓bN_43, ↓hb_some, ↓bd_some, ↓letE_eq, h_z0, h_z1, h_zi0, h_zi1, iN_lit, iN_add, iN_mul, iN_pred, iN_pred', iN_lt, iN_le, iN_eq, iN_nat, nlt_t, nlt_f, nle_t, nle_f, neq_t, neq_f, List.length_nil, List.length_cons, or_false, false_or, or_self, not_false_eq_true, not_true_eq_false, ↓reduceIte, if_true, if_false, Bool.false_eq_true, Nat.reduceAdd, hz, u1_u1])
    (fun Z hi _ n' => by
      simp (disch := first | omega | assumption | (simp (disch := omega) only [iN_lit, iN_add, iN_mul, iN_pred, iN_pred', iN_lt, iN_le, iN_eq, iN_nat, nlt_t, nlt_f, nle_t, nle_f, neq_t, neq_f, List.length_nil, List.length_cons, or_false, false_or, or_self, not_false_eq_true, not_true_eq_false, ↓reduceIte, if_true, if_false, Bool.false_eq_true, Nat.reduceAdd])) only [fX4_mostGained_L18, ↓bR_35_11, ↓bA_43, ↓bS_43, ↓bN_43, ↓hb_some, ↓bd_some, ↓letE_eq, h_z0, h_z1, h_zi0, h_zi1, iN_lit, iN_add, iN_mul, iN_pred, iN_pred', iN_lt, iN_le, iN_eq, iN_nat, nlt_t, nlt_f, nle_t, nle_f, neq_t, neq_f, List.length_nil, List.length_cons, or_false, false_or, or_self, not_false_eq_true, not_true_eq_false, ↓reduceIte, if_true, if_false, Bool.false_eq_true, Nat.reduceAdd]) M 0 (A' 43) (by omega) (fun X hX => absurd hX (Nat.not_lt_zero _))
  obtain ⟨Z2, k1, k2⟩ := key
  refine ⟨Z2, ?_, k1⟩
  have := k2 () FU (by unfold FU; omega)
  rw [e0] at this
  exact this
def frD (A A' : Nat → Nat → Int32) : Prop := ∀ x, x ≠ 43 → x ≠ 44 → A' x = A x
theorem mo47 (hG : I 11 9 = iN G) (hP : I 11 10 = iN P) (h8 : G ≤ 8) (h6 : P ≤ 6) (hf : f ≤ P) (hga : ∀ q g, ga q g ≤ 100) (hlf : ∀ g, g < G → lf g < 1000) (e41 : ∀ p g, p < P → g < G → A 41 (p * 8 + g) = iN (ga p g)) (e42 : ∀ g, g < G → A 42 g = iN (lf g)) (i1 : frD A A') (i2 : ∀ Y, Y < 2 ^ (P - f) → A' 43 Y = 0) (kx : PH → Option (Int32 × PH)) :
    ∃ A2, fX4_mostGained_L47 35 (iN f) (iN (2 ^ (P - f))) kx FU (iN 0) (encC I A' L pr ot T) = kx (encC I A2 L pr ot T) ∧ frD A A2 ∧ ∀ Y, Y < 2 ^ (P - f) → exV (gaF ga f) G lf Y (A2 43 Y) := by
  have hRR := pw2 (j := P - f) (by omega)
  obtain ⟨M, hM⟩ : ∃ M, M = 2 ^ (P - f) := ⟨_, rfl⟩
  have key := lp_k (fun (_ : Unit) n' k (A1 : Nat → Nat → Int32) => fX4_mostGained_L47 35 (iN f) (iN M) kx n' (iN k) (encC I A1 L pr ot T)) (fun _ A1 => kx (encC I A1 L pr ot T)) (fun k A1 => frD A A1 ∧ ∀ Y, Y < M → exV (gaF ga f) k lf Y (A1 43 Y)) G
    (fun k A1 hk hi => by
      obtain ⟨j1, j2⟩ := hi
      obtain ⟨X2, f1, f2⟩ := su_C (I := I) (L := L) (pr := pr) (ot := ot) (T := T) (ga := ga) (A' := A1) (g := k) hP h6 (by omega) hf hga (fun p hp => by rw [j1 41 (by decide) (by decide)]; exact e41 p k hp hk)
      have e0 : u1 (u1 A1 44 X2) 43 (A1 43) = u1 A1 44 X2 := u1_same (u1_o (by decide))
      obtain ⟨Z2, g1, g2⟩ := mo70 (I := I) (L := L) (pr := pr) (ot := ot) (T := T) (A' := u1 A1 44 X2) (g := k) (ga := gaF ga f) (lf := lf) (M := M) (by omega) (fun q g => hga (f + q) g) (hlf k hk) (by rw [u1_o (by decide), j1 42 (by decide) (by decide)]; exact e42 k hk) (by omega) (fun Y hY => by rw [u1_at]; exact f2 Y (by rw [← hM]; exact hY)) FU (M - 1) (A1 43) (by unfold FU; omega) (by omega) (fun Y hY => j2 Y (by omega)) (fun Y h1 h2 => absurd h1 (by omega))
      rw [e0] at g1
      rw [← hM] at f1
      have hpr : iN M - iN 1 = iN (M - 1) := iN_sub (by omega)
      refine ⟨u1 (u1 A1 44 X2) 43 Z2, ⟨fun x h1 h2 => by rw [u1_o h1, u1_o h2]; exact j1 x h1 h2, fun Y hY => by rw [u1_at]; exact g2 Y hY⟩, fun _ n' => ?_⟩
      simp (disch := first | omega | assumption | (simp (disch := omega) only [iN_lit, iN_add, iN_mul, iN_pred, iN_pred', iN_lt, iN_le, iN_eq, iN_nat, nlt_t, nlt_f, nle_t, nle_f, neq_t, neq_f, List.length_nil, List.length_cons, or_false, false_or, or_self, not_false_eq_true, not_true_eq_false, ↓reduceIte, if_true, if_false, Bool.false_eq_true, Nat.reduceAdd])) only [fX4_mostGained_L47, ↓bK_11, ↓bK_35, ↓bR_35_0, ↓hb_of (c_groundSize), ↓hb_some, ↓bd_some, ↓letE_eq, h_z0, h_z1, h_zi0, h_zi1, ↓hb_of f1, iN_lit, iN_add, iN_mul, iN_pred, iN_pred', iN_lt, iN_le, iN_eq, iN_nat, nlt_t, nlt_f, nle_t, nle_f, neq_t, neq_f, List.length_nil, List.length_cons, or_false, false_or, or_self, not_false_eq_true, not_true_eq_false, ↓reduceIte, if_true, if_false, Bool.false_eq_true, Nat.reduceAdd, hG, hpr, g1])
    (fun A1 hi _ n' => by
      simp (disch := first | omega | assumption | (simp (disch := omega) only [iN_lit, iN_add, iN_mul, iN_pred, iN_pred', iN_lt, iN_le, iN_eq, iN_nat, nlt_t, nlt_f, nle_t, nle_f, neq_t, neq_f, List.length_nil, List.length_cons, or_false, false_or, or_self, not_false_eq_true, not_true_eq_false, ↓reduceIte, if_true, if_false, Bool.false_eq_true, Nat.reduceAdd])) only [fX4_mostGained_L47, ↓bK_11, ↓bK_35, ↓bR_35_0, ↓hb_of (c_groundSize), ↓hb_some, ↓bd_some, ↓letE_eq, h_z0, h_z1, h_zi0, h_zi1, iN_lit, iN_add, iN_mul, iN_pred, iN_pred', iN_lt, iN_le, iN_eq, iN_nat, nlt_t, nlt_f, nle_t, nle_f, neq_t, neq_f, List.length_nil, List.length_cons, or_false, false_or, or_self, not_false_eq_true, not_true_eq_false, ↓reduceIte, if_true, if_false, Bool.false_eq_true, Nat.reduceAdd, hG]) G 0 A' (by omega) ⟨i1, fun Y hY => ⟨0, i2 Y (by rw [← hM]; exact hY), rfl, fun w hw => by rw [show w = 0 from hw]; exact Nat.le_refl _⟩⟩
  obtain ⟨A2, ⟨k1, k2⟩, k3⟩ := key
  rw [← hM]
  exact ⟨A2, k3 () FU (by unfold FU; omega), k1, k2⟩
/-- the class's most is the most -/
theorem mo_C (hG : I 11 9 = iN G) (hP : I 11 10 = iN P) (h8 : G ≤ 8) (h6 : P ≤ 6) (hf : f ≤ P) (hga : ∀ q g, ga q g ≤ 100) (hlf : ∀ g, g < G → lf g < 1000) (e41 : ∀ p g, p < P → g < G → A 41 (p * 8 + g) = iN (ga p g)) (e42 : ∀ g, g < G → A 42 g = iN (lf g)) :
    ∃ A2, fX4_mostGained 35 (iN f) (encC I A L pr ot T) = some (iN (optR ga G (P - f) f lf), (encC I A2 L pr ot T)) ∧ frD A A2 := by
  have hRR := pw2 (j := P - f) (by omega)
  have h1 : (iN 1 <<< ((if iN 0 < iN (P - f) then iN (P - f) else iN 0) &&& iN 31)) = iN (2 ^ (P - f)) := by
    have e : (if iN 0 < iN (P - f) then iN (P - f) else iN 0) = iN (P - f) := by
      by_cases h : iN 0 < iN (P - f)
      · rw [if_pos h]
      · rw [if_neg h]
        rw [iN_lt (by omega) (by omega)] at h
        rw [show P - f = 0 by omega]
    rw [e]
    exact shl_n ⟨P - f, by omega⟩
  have h1' : (if 0 < P - f then iN (P - f) else iN 0) = iN (P - f) := by
    by_cases h : 0 < P - f
    · rw [if_pos h]
    · rw [if_neg h, show P - f = 0 by omega]
  have h2 : iN 1 <<< (iN (P - f) &&& iN 31) = iN (2 ^ (P - f)) := shl_n ⟨P - f, by omega⟩
  have hsb : iN P - iN f = iN (P - f) := iN_sub hf
  obtain ⟨Z0, z1, z2⟩ := mo18 (I := I) (L := L) (pr := pr) (ot := ot) (T := T) (A' := A) (M := 2 ^ (P - f)) (by omega) (fun h6 => fX4_mostGained_L47 35 (iN f) (iN (2 ^ (P - f))) (fun h7 => (h_gr 3 11 h7 35).bind fun q8 => (h_ald .int h7 q8 (iN (2 ^ (P - f)) - (1 : Int32))).bind fun x9 => some (x9, h7)) FU (0 : Int32) h6) (iN f)
  obtain ⟨A2, k1, k2, k3⟩ := mo47 (I := I) (L := L) (pr := pr) (ot := ot) (T := T) (A' := u1 A 43 Z0) hG hP h8 h6 hf hga hlf e41 e42 (fun x h1 _ => u1_o h1) (fun Y hY => by rw [u1_at]; exact z2 Y hY) (fun h7 => (h_gr 3 11 h7 35).bind fun q8 => (h_ald .int h7 q8 (iN (2 ^ (P - f)) - (1 : Int32))).bind fun x9 => some (x9, h7))
  obtain ⟨v, v1, v2⟩ := k3 (2 ^ (P - f) - 1) (by omega)
  have v3 := opt_max (ga := gaF ga f) (G := G) (P - f) 0 lf (by omega)
  have v4 : tb (2 ^ (P - f) - 1) = ppl 0 (P - f) := by
    funext q
    unfold tb ppl
    rw [Nat.testBit_two_pow_sub_one]
    by_cases h : q < P - f
    · rw [decide_eq_true h, decide_eq_true (by omega)]
    · rw [decide_eq_false h, decide_eq_false (by omega)]
  rw [v4] at v2
  have v5 := v2.uniq v3
  rw [optR_sh, Nat.add_zero] at v5
  rw [← v5]
  refine ⟨A2, ?_, k2⟩
  generalize 2 ^ (P - f) = M at *
  have hpr : iN M - iN 1 = iN (M - 1) := iN_sub (by omega)
  have e2 : ((h_gr 3 11 (encC I A2 L pr ot T) 35).bind fun q8 => (h_ald .int (encC I A2 L pr ot T) q8 (iN M - (1 : Int32))).bind fun x9 => some (x9, (encC I A2 L pr ot T))) = some (iN v, (encC I A2 L pr ot T)) := by
    simp (disch := first | omega | assumption | (simp (disch := omega) only [iN_lit, iN_add, iN_mul, iN_pred, iN_pred', iN_lt, iN_le, iN_eq, iN_nat, nlt_t, nlt_f, nle_t, nle_f, neq_t, neq_f, List.length_nil, List.length_cons, or_false, false_or, or_self, not_false_eq_true, not_true_eq_false, ↓reduceIte, if_true, if_false, Bool.false_eq_true, Nat.reduceAdd])) only [fX4_mostGained, ↓bK_11, ↓bR_35_0, ↓bR_35_11, ↓bA_43, ↓bS_43, ↓bN_43, ↓hb_of (c_personSize), ↓hb_some, ↓bd_some, ↓letE_eq, h_z0, h_z1, h_zi0, h_zi1, iN_lit, iN_add, iN_mul, iN_pred, iN_pred', iN_lt, iN_le, iN_eq, iN_nat, nlt_t, nlt_f, nle_t, nle_f, neq_t, neq_f, List.length_nil, List.length_cons, or_false, false_or, or_self, not_false_eq_true, not_true_eq_false, ↓reduceIte, if_true, if_false, Bool.false_eq_true, Nat.reduceAdd, hpr, v1]
  rw [← e2]
  refine Eq.trans ?_ k1
  refine Eq.trans ?_ z1
  simp (disch := first | omega | assumption | (simp (disch := omega) only [iN_lit, iN_add, iN_mul, iN_pred, iN_pred', iN_lt, iN_le, iN_eq, iN_nat, nlt_t, nlt_f, nle_t, nle_f, neq_t, neq_f, List.length_nil, List.length_cons, or_false, false_or, or_self, not_false_eq_true, not_true_eq_false, ↓reduceIte, if_true, if_false, Bool.false_eq_true, Nat.reduceAdd])) only [fX4_mostGained, ↓bK_11, ↓bR_35_0, ↓bR_35_11, ↓bA_43, ↓bS_43, ↓bN_43, ↓hb_of (c_personSize), ↓hb_some, ↓bd_some, ↓letE_eq, h_z0, h_z1, h_zi0, h_zi1, iN_lit, iN_add, iN_mul, iN_pred, iN_pred', iN_lt, iN_le, iN_eq, iN_nat, nlt_t, nlt_f, nle_t, nle_f, neq_t, neq_f, List.length_nil, List.length_cons, or_false, false_or, or_self, not_false_eq_true, not_true_eq_false, ↓reduceIte, if_true, if_false, Bool.false_eq_true, Nat.reduceAdd, hP, hsb, h1, h1', h2]
end MT
