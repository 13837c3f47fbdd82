/-! THE CLASS'S SMALL METHODS over its encoded heap -/
section CG
variable {I A : Nat → Nat → Int32} {L : Nat → Int64} {pr ot : Nat} {T : PH} {G P W : Nat}
theorem c_within {a b c : Int32} {h : PH} : fX11_within a b c h = some ((if a < b then 0 else if c < a then 0 else 1), h) := by
  unfold fX11_within
  split
  · rw [h_z0]
  · split
    · rw [h_z0]
    · rw [h_z1]
theorem c_clamp {a b c : Int32} {h : PH} : fX11_clamp a b c h = some ((if b ≤ a then (if a ≤ c then a else c) else b), h) := by
  unfold fX11_clamp
  split
  · split <;> rfl
  · rfl
theorem c_isIn {a b : Int32} {h : PH} : fX11_isIn a b h = some ((if ((b >>> (a &&& 31)) &&& (1 : Int32)) = (1 : Int32) then 1 else 0), h) := by
  unfold fX11_isIn
  split
  · rw [h_z1]
  · rw [h_z0]
theorem c_groundSize : fX0_groundSize 11 (encC I A L pr ot T) = some (I 11 9, encC I A L pr ot T) := rfl
theorem c_personSize : fX0_personSize 11 (encC I A L pr ot T) = some (I 11 10, encC I A L pr ot T) := rfl
theorem c_wantSize : fX0_wantSize 11 (encC I A L pr ot T) = some (I 11 11, encC I A L pr ot T) := rfl
theorem c_allWants : fX0_allWants 11 (encC I A L pr ot T) = some ((((1 : Int32) <<< (I 11 11 &&& 31)) - 1), encC I A L pr ot T) := rfl
theorem c_presentRule : fX0_presentRule 11 (encC I A L pr ot T) = some (pr, encC I A L pr ot T) := rfl
theorem c_otherRule : fX0_otherRule 11 (encC I A L pr ot T) = some (ot, encC I A L pr ot T) := rfl
theorem c_takeOtherRule : fX0_takeOtherRule 11 (encC I A L pr ot T) = some ((), encC I A L ot pr T) := rfl
theorem c_hasGround (hG : I 11 9 = iN G) {g : Nat} (h : g < G) (h8 : G ≤ 8) : fX0_hasGround 11 (iN g) (encC I A L pr ot T) = some (1, encC I A L pr ot T) := by
  simp (disch := omega) only [fX0_hasGround, ↓bG_11_9, ↓hb_some, ↓bd_some, ↓letE_eq, h_z0, h_z1, h_zi0, h_zi1, hG, iN_lit, iN_add, iN_mul, iN_pred, iN_pred', iN_lt, iN_le, iN_eq, iN_nat, nlt_t, nlt_f, nle_t, nle_f, neq_t, neq_f, List.length_nil, List.length_cons, or_false, false_or, or_self, not_false_eq_true, not_true_eq_false, ↓reduceIte, if_true, if_false, Bool.false_eq_true, Nat.reduceAdd]
theorem c_hasGround0 {x : Int32} (h : ¬ (0 ≤ x ∧ x < I 11 9)) : fX0_hasGround 11 x (encC I A L pr ot T) = some (0, encC I A L pr ot T) := by
  unfold fX0_hasGround
  split
  · rw [h_z0]
  · rename_i h1
    rw [eG_11_9, Option.bind_some]
    rw [if_pos, h_z0]
    rw [Int32.le_iff_toInt_le] at *
    rw [Int32.lt_iff_toInt_lt] at *
    omega
theorem c_hasPerson (hP : I 11 10 = iN P) {g : Nat} (h : g < P) (h8 : P ≤ 6) : fX0_hasPerson 11 (iN g) (encC I A L pr ot T) = some (1, encC I A L pr ot T) := by
  simp (disch := omega) only [fX0_hasPerson, ↓bG_11_10, ↓hb_some, ↓bd_some, ↓letE_eq, h_z0, h_z1, h_zi0, h_zi1, hP, iN_lit, iN_add, iN_mul, iN_pred, iN_pred', iN_lt, iN_le, iN_eq, iN_nat, nlt_t, nlt_f, nle_t, nle_f, neq_t, neq_f, List.length_nil, List.length_cons, or_false, false_or, or_self, not_false_eq_true, not_true_eq_false, ↓reduceIte, if_true, if_false, Bool.false_eq_true, Nat.reduceAdd]
theorem c_hasPerson0 {x : Int32} (h : ¬ (0 ≤ x ∧ x < I 11 10)) : fX0_hasPerson 11 x (encC I A L pr ot T) = some (0, encC I A L pr ot T) := by
  unfold fX0_hasPerson
  split
  · rw [h_z0]
  · rename_i h1
    rw [eG_11_10, Option.bind_some]
    rw [if_pos, h_z0]
    rw [Int32.le_iff_toInt_le] at *
    rw [Int32.lt_iff_toInt_lt] at *
    omega
theorem c_hasWant (hP : I 11 11 = iN W) {g : Nat} (h : g < W) (h8 : W ≤ 6) : fX0_hasWant 11 (iN g) (encC I A L pr ot T) = some (1, encC I A L pr ot T) := by
  simp (disch := omega) only [fX0_hasWant, ↓bG_11_11, ↓hb_some, ↓bd_some, ↓letE_eq, h_z0, h_z1, h_zi0, h_zi1, hP, iN_lit, iN_add, iN_mul, iN_pred, iN_pred', iN_lt, iN_le, iN_eq, iN_nat, nlt_t, nlt_f, nle_t, nle_f, neq_t, neq_f, List.length_nil, List.length_cons, or_false, false_or, or_self, not_false_eq_true, not_true_eq_false, ↓reduceIte, if_true, if_false, Bool.false_eq_true, Nat.reduceAdd]
theorem c_hasWant0 {x : Int32} (h : ¬ (0 ≤ x ∧ x < I 11 11)) : fX0_hasWant 11 x (encC I A L pr ot T) = some (0, encC I A L pr ot T) := by
  unfold fX0_hasWant
  split
  · rw [h_z0]
  · rename_i h1
    rw [eG_11_11, Option.bind_some]
    rw [if_pos, h_z0]
    rw [Int32.le_iff_toInt_le] at *
    rw [Int32.lt_iff_toInt_lt] at *
    omega
theorem c_gradeOf (hG : I 11 9 = iN G) (h8 : G ≤ 8) {g : Nat} (h : g < G) : fX0_gradeOf 11 (iN g) (encC I A L pr ot T) = some (A 12 g, encC I A L pr ot T) := by
  simp (disch := omega) only [fX0_gradeOf, ↓bK_11, ↓bR_11_0, ↓bA_12, ↓bS_12, ↓bN_12, ↓hb_some, ↓bd_some, ↓letE_eq, h_z0, h_z1, h_zi0, h_zi1, c_hasGround hG h h8, eA_12, iN_lit, iN_add, iN_mul, iN_pred, iN_pred', iN_lt, iN_le, iN_eq, iN_nat, nlt_t, nlt_f, nle_t, nle_f, neq_t, neq_f, List.length_nil, List.length_cons, or_false, false_or, or_self, not_false_eq_true, not_true_eq_false, ↓reduceIte, if_true, if_false, Bool.false_eq_true, Nat.reduceAdd]
theorem c_pullOf (hG : I 11 9 = iN G) (h8 : G ≤ 8) {g k : Nat} (h : g < G) (hk : k < 4) : fX0_pullOf 11 (iN g) (iN k) (encC I A L pr ot T) = some (A 13 (g * 4 + k), encC I A L pr ot T) := by
  simp (disch := omega) only [fX0_pullOf, ↓bK_11, ↓bR_11_1, ↓bA_13, ↓bS_13, ↓bN_13, ↓hb_some, ↓bd_some, ↓letE_eq, h_z0, h_z1, h_zi0, h_zi1, c_hasGround hG h h8, eA_13, iN_lit, iN_add, iN_mul, iN_pred, iN_pred', iN_lt, iN_le, iN_eq, iN_nat, nlt_t, nlt_f, nle_t, nle_f, neq_t, neq_f, List.length_nil, List.length_cons, or_false, false_or, or_self, not_false_eq_true, not_true_eq_false, ↓reduceIte, if_true, if_false, Bool.false_eq_true, Nat.reduceAdd]
theorem c_strengthOf (hP : I 11 10 = iN P) (h8 : P ≤ 6) {p : Nat} (h : p < P) : fX0_strengthOf 11 (iN p) (encC I A L pr ot T) = some (A 14 p, encC I A L pr ot T) := by
  simp (disch := omega) only [fX0_strengthOf, ↓bK_11, ↓bR_11_2, ↓bA_14, ↓bS_14, ↓bN_14, ↓hb_some, ↓bd_some, ↓letE_eq, h_z0, h_z1, h_zi0, h_zi1, c_hasPerson hP h h8, eA_14, iN_lit, iN_add, iN_mul, iN_pred, iN_pred', iN_lt, iN_le, iN_eq, iN_nat, nlt_t, nlt_f, nle_t, nle_f, neq_t, neq_f, List.length_nil, List.length_cons, or_false, false_or, or_self, not_false_eq_true, not_true_eq_false, ↓reduceIte, if_true, if_false, Bool.false_eq_true, Nat.reduceAdd]
theorem c_termsOf (hP : I 11 11 = iN W) (h8 : W ≤ 6) {w : Nat} (h : w < W) : fX0_termsOf 11 (iN w) (encC I A L pr ot T) = some (A 15 w, encC I A L pr ot T) := by
  simp (disch := omega) only [fX0_termsOf, ↓bK_11, ↓bR_11_3, ↓bA_15, ↓bS_15, ↓bN_15, ↓hb_some, ↓bd_some, ↓letE_eq, h_z0, h_z1, h_zi0, h_zi1, c_hasWant hP h h8, eA_15, iN_lit, iN_add, iN_mul, iN_pred, iN_pred', iN_lt, iN_le, iN_eq, iN_nat, nlt_t, nlt_f, nle_t, nle_f, neq_t, neq_f, List.length_nil, List.length_cons, or_false, false_or, or_self, not_false_eq_true, not_true_eq_false, ↓reduceIte, if_true, if_false, Bool.false_eq_true, Nat.reduceAdd]
theorem c_humourOfTerm (hP : I 11 11 = iN W) (h8 : W ≤ 6) {w t : Nat} (h : w < W) (ht : t < 3) : fX0_humourOfTerm 11 (iN w) (iN t) (encC I A L pr ot T) = some (A 16 (w * 3 + t), encC I A L pr ot T) := by
  simp (disch := omega) only [fX0_humourOfTerm, ↓bK_11, ↓bR_11_4, ↓bA_16, ↓bS_16, ↓bN_16, ↓hb_some, ↓bd_some, ↓letE_eq, h_z0, h_z1, h_zi0, h_zi1, c_hasWant hP h h8, eA_16, iN_lit, iN_add, iN_mul, iN_pred, iN_pred', iN_lt, iN_le, iN_eq, iN_nat, nlt_t, nlt_f, nle_t, nle_f, neq_t, neq_f, List.length_nil, List.length_cons, or_false, false_or, or_self, not_false_eq_true, not_true_eq_false, ↓reduceIte, if_true, if_false, Bool.false_eq_true, Nat.reduceAdd]
/-- by how much a humour is off a term -/
def ofB (A : Nat → Nat → Int32) (w t : Nat) (v : Int32) : Int32 := if A 17 (w * 3 + t) = 60 then (if 0 < v - A 18 (w * 3 + t) + 1 then v - A 18 (w * 3 + t) + 1 else 0) else (if 0 < 1 - (v - A 18 (w * 3 + t)) then 1 - (v - A 18 (w * 3 + t)) else 0)
theorem c_offBy (hP : I 11 11 = iN W) (h8 : W ≤ 6) {w t : Nat} {v : Int32} (h : w < W) (ht : t < 3) : fX0_offBy 11 (iN w) (iN t) v (encC I A L pr ot T) = some (ofB A w t v, encC I A L pr ot T) := by
  unfold ofB
  simp (disch := omega) only [fX0_offBy, ↓bK_11, ↓bR_11_6, ↓bA_18, ↓bS_18, ↓bN_18, ↓bR_11_5, ↓bA_17, ↓bS_17, ↓bN_17, fX0_offBy_J61, ↓hb_some, ↓bd_some, ↓letE_eq, h_z0, h_z1, h_zi0, h_zi1, c_hasWant hP h h8, eA_17, eA_18, iN_lit, iN_add, iN_mul, iN_pred, iN_pred', iN_lt, iN_le, iN_eq, iN_nat, nlt_t, nlt_f, nle_t, nle_f, neq_t, neq_f, List.length_nil, List.length_cons, or_false, false_or, or_self, not_false_eq_true, not_true_eq_false, ↓reduceIte, if_true, if_false, Bool.false_eq_true, Nat.reduceAdd]
  split <;> rfl
theorem c_stockOf {o g : Nat} (ho : o = 27 ∨ o = 31) (h : g < 8) : fX8_stockOf o (iN g) (encC I A L pr ot T) = some (A (o + 1) g, encC I A L pr ot T) := by
  rcases ho with rfl | rfl <;> simp (disch := omega) only [fX8_stockOf, ↓bR_27_1, ↓bA_28, ↓bS_28, ↓bN_28, ↓bR_31_1, ↓bA_32, ↓bS_32, ↓bN_32, ↓hb_some, ↓bd_some, ↓letE_eq, h_z0, h_z1, h_zi0, h_zi1, eA_28, eA_32, iN_lit, iN_add, iN_mul, iN_pred, iN_pred', iN_lt, iN_le, iN_eq, iN_nat, nlt_t, nlt_f, nle_t, nle_f, neq_t, neq_f, List.length_nil, List.length_cons, or_false, false_or, or_self, not_false_eq_true, not_true_eq_false, ↓reduceIte, if_true, if_false, Bool.false_eq_true, Nat.reduceAdd]
theorem c_putStock {o g : Nat} {v : Int32} (ho : o = 27 ∨ o = 31) (h : g < 8) : fX8_putStock o (iN g) v (encC I A L pr ot T) = some ((), encC I (u1 A (o + 1) (upd (A (o + 1)) g v)) L pr ot T) := by
  rcases ho with rfl | rfl <;> simp (disch := omega) only [fX8_putStock, ↓bR_27_1, ↓bA_28, ↓bS_28, ↓bN_28, ↓bR_31_1, ↓bA_32, ↓bS_32, ↓bN_32, ↓hb_some, ↓bd_some, ↓letE_eq, h_z0, h_z1, h_zi0, h_zi1, eS_28, eS_32, iN_lit, iN_add, iN_mul, iN_pred, iN_pred', iN_lt, iN_le, iN_eq, iN_nat, nlt_t, nlt_f, nle_t, nle_f, neq_t, neq_f, List.length_nil, List.length_cons, or_false, false_or, or_self, not_false_eq_true, not_true_eq_false, ↓reduceIte, if_true, if_false, Bool.false_eq_true, Nat.reduceAdd]
theorem c_humourOf {o p k : Nat} (ho : o = 27 ∨ o = 31) (h : p < 6) (hk : k < 4) : fX8_humourOf o (iN p) (iN k) (encC I A L pr ot T) = some (A (o + 1) (8 + p * 4 + k), encC I A L pr ot T) := by
  rcases ho with rfl | rfl <;> simp (disch := omega) only [fX8_humourOf, fX8_humourOf_J24, ↓bR_27_1, ↓bA_28, ↓bS_28, ↓bN_28, ↓bR_31_1, ↓bA_32, ↓bS_32, ↓bN_32, fX8_humourOf_J23, ↓hb_some, ↓bd_some, ↓letE_eq, h_z0, h_z1, h_zi0, h_zi1, eA_28, eA_32, iN_lit, iN_add, iN_mul, iN_pred, iN_pred', iN_lt, iN_le, iN_eq, iN_nat, nlt_t, nlt_f, nle_t, nle_f, neq_t, neq_f, List.length_nil, List.length_cons, or_false, false_or, or_self, not_false_eq_true, not_true_eq_false, ↓reduceIte, if_true, if_false, Bool.false_eq_true, Nat.reduceAdd]
theorem c_putHumour {o p k : Nat} {v : Int32} (ho : o = 27 ∨ o = 31) (h : p < 6) (hk : k < 4) : fX8_putHumour o (iN p) (iN k) v (encC I A L pr ot T) = some ((), encC I (u1 A (o + 1) (upd (A (o + 1)) (8 + p * 4 + k) v)) L pr ot T) := by
  rcases ho with rfl | rfl <;> simp (disch := omega) only [fX8_putHumour, ↓bR_27_1, ↓bA_28, ↓bS_28, ↓bN_28, ↓bR_31_1, ↓bA_32, ↓bS_32, ↓bN_32, ↓hb_some, ↓bd_some, ↓letE_eq, h_z0, h_z1, h_zi0, h_zi1, eS_28, eS_32, iN_lit, iN_add, iN_mul, iN_pred, iN_pred', iN_lt, iN_le, iN_eq, iN_nat, nlt_t, nlt_f, nle_t, nle_f, neq_t, neq_f, List.length_nil, List.length_cons, or_false, false_or, or_self, not_false_eq_true, not_true_eq_false, ↓reduceIte, if_true, if_false, Bool.false_eq_true, Nat.reduceAdd]
theorem c_daysHeld {o p g : Nat} (ho : o = 27 ∨ o = 31) (h : p < 6) (hg : g < 8) : fX8_daysHeld o (iN p) (iN g) (encC I A L pr ot T) = some (A (o + 1) (32 + p * 8 + g), encC I A L pr ot T) := by
  rcases ho with rfl | rfl <;> simp (disch := omega) only [fX8_daysHeld, fX8_daysHeld_J25, ↓bR_27_1, ↓bA_28, ↓bS_28, ↓bN_28, ↓bR_31_1, ↓bA_32, ↓bS_32, ↓bN_32, fX8_daysHeld_J24, ↓hb_some, ↓bd_some, ↓letE_eq, h_z0, h_z1, h_zi0, h_zi1, eA_28, eA_32, iN_lit, iN_add, iN_mul, iN_pred, iN_pred', iN_lt, iN_le, iN_eq, iN_nat, nlt_t, nlt_f, nle_t, nle_f, neq_t, neq_f, List.length_nil, List.length_cons, or_false, false_or, or_self, not_false_eq_true, not_true_eq_false, ↓reduceIte, if_true, if_false, Bool.false_eq_true, Nat.reduceAdd]
theorem c_putDaysHeld {o p g : Nat} {v : Int32} (ho : o = 27 ∨ o = 31) (h : p < 6) (hg : g < 8) : fX8_putDaysHeld o (iN p) (iN g) v (encC I A L pr ot T) = some ((), encC I (u1 A (o + 1) (upd (A (o + 1)) (32 + p * 8 + g) v)) L pr ot T) := by
  rcases ho with rfl | rfl <;> simp (disch := omega) only [fX8_putDaysHeld, ↓bR_27_1, ↓bA_28, ↓bS_28, ↓bN_28, ↓bR_31_1, ↓bA_32, ↓bS_32, ↓bN_32, ↓hb_some, ↓bd_some, ↓letE_eq, h_z0, h_z1, h_zi0, h_zi1, eS_28, eS_32, iN_lit, iN_add, iN_mul, iN_pred, iN_pred', iN_lt, iN_le, iN_eq, iN_nat, nlt_t, nlt_f, nle_t, nle_f, neq_t, neq_f, List.length_nil, List.length_cons, or_false, false_or, or_self, not_false_eq_true, not_true_eq_false, ↓reduceIte, if_true, if_false, Bool.false_eq_true, Nat.reduceAdd]
/-- what is held -/
def hdB (Z : Nat → Int32) (p g : Nat) : Bool := !(Z (32 + p * 8 + g) == -1)
theorem c_holds {o p g : Nat} (ho : o = 27 ∨ o = 31) (h : p < 6) (hg : g < 8) : fX8_holds o (iN p) (iN g) (encC I A L pr ot T) = some ((if hdB (A (o + 1)) p g then 1 else 0), encC I A L pr ot T) := by
  unfold fX8_holds
  rw [c_daysHeld ho h hg]
  unfold hdB
  rcases ho with rfl | rfl
  all_goals
    simp only [eK_27, eK_31, Option.bind_some, hb_some, h_z0, h_z1]
    split
    · rename_i h1; rw [h1]; rfl
    · rename_i h1; rw [if_pos (by simpa using h1)]
end CG
