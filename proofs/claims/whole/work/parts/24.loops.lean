/-! THE CLASS'S LOOPS that change nothing -/
/-- bits that are set -/
def bc (x : Int32) : Int32 := (match fJ6_bitCount_0f7a4 x [] with | some q => q.1 | none => 0)
theorem c_bitCount {x : Int32} {h : PH} : fJ6_bitCount_0f7a4 x h = some (bc x, h) := rfl
/-- the counts of GROUNDS, PEOPLE, WANTS -/
def FS (I : Nat → Nat → Int32) (G P W : Nat) : Prop := I 11 9 = iN G ∧ I 11 10 = iN P ∧ I 11 11 = iN W ∧ G ≤ 8 ∧ P ≤ 6 ∧ W ≤ 6
/-- what WANTS hold: as many TERMS, each of one HUMOUR -/
def TS (A : Nat → Nat → Int32) (W : Nat) : Prop := ∀ w, w < W → ∃ n, n ≤ 3 ∧ A 15 w = iN n ∧ ∀ t, t < n → ∃ k, k < 4 ∧ A 16 (w * 3 + t) = iN k
def gsS (Z : Nat → Int32) (G p : Nat) : Int32 := bt (hdB Z p) G
def hoS (Z : Nat → Int32) (P g : Nat) : Int32 := bt (fun p => hdB Z p g) P
/-- if a TERM holds; if a WANT is had -/
def tmB (A : Nat → Nat → Int32) (Z : Nat → Int32) (p w t : Nat) : Bool := decide (ofB A w t (Z (8 + p * 4 + (A 16 (w * 3 + t)).toNatClampNeg)) ≤ 0)
def hwB (A : Nat → Nat → Int32) (Z : Nat → Int32) (p w : Nat) : Bool := allB (tmB A Z p w) (A 15 w).toNatClampNeg
def waS (A : Nat → Nat → Int32) (Z : Nat → Int32) (W p : Nat) : Int32 := bt (hwB A Z p) W
def htS (Z : Nat → Int32) (p : Nat) : Nat → Int32
  | 0 => 0
  | k + 1 => htS Z p k * 10 + Z (8 + p * 4 + k)
def huS (Z : Nat → Int32) (P : Nat) : Int32 := sm (fun k => Z (8 + k)) (P * 4)
section CL
variable {I A : Nat → Nat → Int32} {L : Nat → Int64} {pr ot : Nat} {T : PH} {G P W o p g : Nat}
theorem c_groundsOf (hF : FS I G P W) (ho : o = 27 ∨ o = 31) (hp : p < 6) : fX8_groundsOf o (iN p) (encC I A L pr ot T) = some (gsS (A (o + 1)) G p, encC I A L pr ot T) := by
  obtain ⟨hG, hP, hW, h8, h6, h7⟩ := hF
  refine lp_det (fun n k s => fX8_groundsOf_L4 o (iN p) (fun x1 h2 => some (x1, h2)) n s (iN k) (encC I A L pr ot T)) (fun s => some (s, encC I A L pr ot T)) (bt (hdB (A (o + 1)) p)) G ?_ ?_ FU (by unfold FU; omega)
  · intro k hk n
    have e1 := c_daysHeld (I := I) (A := A) (L := L) (pr := pr) (ot := ot) (T := T) ho hp (show k < 8 by omega)
    have e2 : bt (hdB (A (o + 1)) p) (k + 1) = bt (hdB (A (o + 1)) p) k ||| (if hdB (A (o + 1)) p k then (1 : Int32) <<< (iN k &&& 31) else 0) := rfl
    rcases ho with rfl | rfl
    all_goals
      rw [e2]
      unfold hdB
      simp (disch := omega) only [fX8_groundsOf_L4, ↓bK_11, ↓bK_27, ↓bK_31, ↓bR_27_0, ↓bR_31_0, fX8_groundsOf_J33_4, ↓hb_some, ↓bd_some, ↓letE_eq, h_z0, h_z1, h_zi0, h_zi1, c_groundSize, e1, hG, iN_lit, iN_add, iN_mul, iN_pred, iN_pred', iN_lt, iN_le, iN_eq, iN_nat, nlt_t, nlt_f, nle_t, nle_f, neq_t, neq_f, List.length_nil, List.length_cons, or_false, false_or, or_self, not_false_eq_true, not_true_eq_false, ↓reduceIte, if_true, if_false, Bool.false_eq_true, Nat.reduceAdd]
      simp only [Nat.reduceAdd] at *
      split
      · rename_i h1; rw [h1]; rfl
      · rename_i h1; rw [if_pos (by simpa using h1)]
  · intro n
    rcases ho with rfl | rfl
    all_goals
      simp (disch := omega) only [fX8_groundsOf_L4, ↓bK_11, ↓bK_27, ↓bK_31, ↓bR_27_0, ↓bR_31_0, fX8_groundsOf_J33_4, ↓hb_some, ↓bd_some, ↓letE_eq, h_z0, h_z1, h_zi0, h_zi1, c_groundSize, hG, iN_lit, iN_add, iN_mul, iN_pred, iN_pred', iN_lt, iN_le, iN_eq, iN_nat, nlt_t, nlt_f, nle_t, nle_f, neq_t, neq_f, List.length_nil, List.length_cons, or_false, false_or, or_self, not_false_eq_true, not_true_eq_false, ↓reduceIte, if_true, if_false, Bool.false_eq_true, Nat.reduceAdd]
theorem c_holdersOf (hF : FS I G P W) (ho : o = 27 ∨ o = 31) (hg : g < 8) : fX8_holdersOf o (iN g) (encC I A L pr ot T) = some (hoS (A (o + 1)) P g, encC I A L pr ot T) := by
  obtain ⟨hG, hP, hW, h8, h6, h7⟩ := hF
  refine lp_det (fun n k s => fX8_holdersOf_L4 o (iN g) (fun x1 h2 => some (x1, h2)) n s (iN k) (encC I A L pr ot T)) (fun s => some (s, encC I A L pr ot T)) (bt (fun p => hdB (A (o + 1)) p g)) P ?_ ?_ FU (by unfold FU; omega)
  · intro k hk n
    have e1 := c_holds (I := I) (A := A) (L := L) (pr := pr) (ot := ot) (T := T) ho (show k < 6 by omega) hg
    have e2 : bt (fun p => hdB (A (o + 1)) p g) (k + 1) = bt (fun p => hdB (A (o + 1)) p g) k ||| (if hdB (A (o + 1)) k g then (1 : Int32) <<< (iN k &&& 31) else 0) := rfl
    cases hb : hdB (A (o + 1)) k g
    all_goals
      rw [hb] at e1 e2
      rw [e2]
      rcases ho with rfl | rfl
      all_goals
        simp (disch := omega) only [fX8_holdersOf_L4, ↓bK_11, ↓bK_27, ↓bK_31, ↓bR_27_0, ↓bR_31_0, fX8_holdersOf_J32_4, ↓hb_some, ↓bd_some, ↓letE_eq, h_z0, h_z1, h_zi0, h_zi1, c_personSize, e1, hP, iN_lit, iN_add, iN_mul, iN_pred, iN_pred', iN_lt, iN_le, iN_eq, iN_nat, nlt_t, nlt_f, nle_t, nle_f, neq_t, neq_f, List.length_nil, List.length_cons, or_false, false_or, or_self, not_false_eq_true, not_true_eq_false, ↓reduceIte, if_true, if_false, Bool.false_eq_true, Nat.reduceAdd]
  · intro n
    rcases ho with rfl | rfl
    all_goals
      simp (disch := omega) only [fX8_holdersOf_L4, ↓bK_11, ↓bK_27, ↓bK_31, ↓bR_27_0, ↓bR_31_0, fX8_holdersOf_J32_4, ↓hb_some, ↓bd_some, ↓letE_eq, h_z0, h_z1, h_zi0, h_zi1, c_personSize, hP, iN_lit, iN_add, iN_mul, iN_pred, iN_pred', iN_lt, iN_le, iN_eq, iN_nat, nlt_t, nlt_f, nle_t, nle_f, neq_t, neq_f, List.length_nil, List.length_cons, or_false, false_or, or_self, not_false_eq_true, not_true_eq_false, ↓reduceIte, if_true, if_false, Bool.false_eq_true, Nat.reduceAdd]
theorem c_hasWant8 (hF : FS I G P W) (hT : TS A W) (ho : o = 27 ∨ o = 31) (hp : p < 6) {w : Nat} (hw : w < W) : fX8_hasWant o (iN p) (iN w) (encC I A L pr ot T) = some ((if hwB A (A (o + 1)) p w then 1 else 0), encC I A L pr ot T) := by
  obtain ⟨hG, hP, hW, h8, h6, h7⟩ := hF
  obtain ⟨n0, hn3, hn, hk4⟩ := hT w hw
  have en : (A 15 w).toNatClampNeg = n0 := by rw [hn, iN_nat (by omega)]
  have key2 := lp_br (fun n k (_ : Unit) => fX8_hasWant_L2 o (iN p) (iN w) (fun h1 => h_z (1 : Int32) (some ((1 : Int32), h1))) n (iN k) (encC I A L pr ot T)) (fun k _ => allB (tmB A (A (o + 1)) p w) k = true) (fun z => z = some ((if hwB A (A (o + 1)) p w then 1 else 0), encC I A L pr ot T)) n0 ?_ ?_ n0 0 () (by omega) rfl
  · obtain ⟨z, hz, hz2⟩ := key2
    rw [← hz]; exact hz2 FU (by unfold FU; omega)
  · intro k _ hk hi
    obtain ⟨kh, hkh, ekh⟩ := hk4 k hk
    have e1 := c_humourOf (I := I) (A := A) (L := L) (pr := pr) (ot := ot) (T := T) ho hp hkh
    have e2 := fun v => c_offBy (I := I) (A := A) (L := L) (pr := pr) (ot := ot) (T := T) (v := v) hW h7 hw (show k < 3 by omega)
    have e3 := c_humourOfTerm (I := I) (A := A) (L := L) (pr := pr) (ot := ot) (T := T) hW h7 hw (show k < 3 by omega)
    have e4 := c_termsOf (I := I) (A := A) (L := L) (pr := pr) (ot := ot) (T := T) hW h7 hw
    have e5 : tmB A (A (o + 1)) p w k = decide (ofB A w k (A (o + 1) (8 + p * 4 + kh)) ≤ 0) := by
      unfold tmB; rw [ekh, iN_nat (by omega)]
    have key : ∀ n, fX8_hasWant_L2 o (iN p) (iN w) (fun h1 => h_z (1 : Int32) (some ((1 : Int32), h1))) (n + 1) (iN k) (encC I A L pr ot T) = if ofB A w k (A (o + 1) (8 + p * 4 + kh)) ≤ 0 then fX8_hasWant_L2 o (iN p) (iN w) (fun h1 => h_z (1 : Int32) (some ((1 : Int32), h1))) n (iN (k + 1)) (encC I A L pr ot T) else some ((0 : Int32), encC I A L pr ot T) := by
      intro n
      rcases ho with rfl | rfl
      all_goals
        simp (disch := omega) only [fX8_hasWant_L2, ↓bK_11, ↓bK_27, ↓bK_31, ↓bR_27_0, ↓bR_31_0, ↓hb_some, ↓bd_some, ↓letE_eq, h_z0, h_z1, h_zi0, h_zi1, e4, e3, hn, ekh, e1, e2, iN_lit, iN_add, iN_mul, iN_pred, iN_pred', iN_lt, iN_le, iN_eq, iN_nat, nlt_t, nlt_f, nle_t, nle_f, neq_t, neq_f, List.length_nil, List.length_cons, or_false, false_or, or_self, not_false_eq_true, not_true_eq_false, ↓reduceIte, if_true, if_false, Bool.false_eq_true, Nat.reduceAdd]
    by_cases hc : ofB A w k (A (o + 1) (8 + p * 4 + kh)) ≤ 0
    · right
      refine ⟨(), ?_, fun n => ?_⟩
      · show (allB (tmB A (A (o + 1)) p w) k && tmB A (A (o + 1)) p w k) = true
        rw [hi, e5, decide_eq_true hc]; rfl
      · rw [key n, if_pos hc]
    · left
      refine ⟨_, rfl, fun n => ?_⟩
      rw [key n, if_neg hc]
      have : hwB A (A (o + 1)) p w = false := by
        unfold hwB; rw [en]
        exact allB_lt hk (by rw [e5, decide_eq_false hc])
      rw [this]; rfl
  · intro _ hi
    refine ⟨_, rfl, fun n => ?_⟩
    have e4 := c_termsOf (I := I) (A := A) (L := L) (pr := pr) (ot := ot) (T := T) hW h7 hw
    have : hwB A (A (o + 1)) p w = true := by unfold hwB; rw [en]; exact hi
    rw [this]
    rcases ho with rfl | rfl
    all_goals
      simp (disch := omega) only [fX8_hasWant_L2, ↓bK_11, ↓bK_27, ↓bK_31, ↓bR_27_0, ↓bR_31_0, ↓hb_some, ↓bd_some, ↓letE_eq, h_z0, h_z1, h_zi0, h_zi1, e4, hn, iN_lit, iN_add, iN_mul, iN_pred, iN_pred', iN_lt, iN_le, iN_eq, iN_nat, nlt_t, nlt_f, nle_t, nle_f, neq_t, neq_f, List.length_nil, List.length_cons, or_false, false_or, or_self, not_false_eq_true, not_true_eq_false, ↓reduceIte, if_true, if_false, Bool.false_eq_true, Nat.reduceAdd]
theorem c_wantsOf (hF : FS I G P W) (hT : TS A W) (ho : o = 27 ∨ o = 31) (hp : p < 6) : fX8_wantsOf o (iN p) (encC I A L pr ot T) = some (waS A (A (o + 1)) W p, encC I A L pr ot T) := by
  have hF' := hF
  obtain ⟨hG, hP, hW, h8, h6, h7⟩ := hF
  refine lp_det (fun n k s => fX8_wantsOf_L4 o (iN p) (fun x1 h2 => some (x1, h2)) n s (iN k) (encC I A L pr ot T)) (fun s => some (s, encC I A L pr ot T)) (bt (hwB A (A (o + 1)) p)) W ?_ ?_ FU (by unfold FU; omega)
  · intro k hk n
    have e1 := c_hasWant8 (L := L) (pr := pr) (ot := ot) (T := T) hF' hT ho hp hk
    have e2 : bt (hwB A (A (o + 1)) p) (k + 1) = bt (hwB A (A (o + 1)) p) k ||| (if hwB A (A (o + 1)) p k then (1 : Int32) <<< (iN k &&& 31) else 0) := rfl
    cases hb : hwB A (A (o + 1)) p k
    all_goals
      rw [hb] at e1 e2
      rw [e2]
      rcases ho with rfl | rfl
      all_goals
        simp (disch := omega) only [fX8_wantsOf_L4, ↓bK_11, ↓bK_27, ↓bK_31, ↓bR_27_0, ↓bR_31_0, fX8_wantsOf_J32_4, ↓hb_some, ↓bd_some, ↓letE_eq, h_z0, h_z1, h_zi0, h_zi1, c_wantSize, e1, hW, iN_lit, iN_add, iN_mul, iN_pred, iN_pred', iN_lt, iN_le, iN_eq, iN_nat, nlt_t, nlt_f, nle_t, nle_f, neq_t, neq_f, List.length_nil, List.length_cons, or_false, false_or, or_self, not_false_eq_true, not_true_eq_false, ↓reduceIte, if_true, if_false, Bool.false_eq_true, Nat.reduceAdd]
  · intro n
    rcases ho with rfl | rfl
    all_goals
      simp (disch := omega) only [fX8_wantsOf_L4, ↓bK_11, ↓bK_27, ↓bK_31, ↓bR_27_0, ↓bR_31_0, fX8_wantsOf_J32_4, ↓hb_some, ↓bd_some, ↓letE_eq, h_z0, h_z1, h_zi0, h_zi1, c_wantSize, hW, iN_lit, iN_add, iN_mul, iN_pred, iN_pred', iN_lt, iN_le, iN_eq, iN_nat, nlt_t, nlt_f, nle_t, nle_f, neq_t, neq_f, List.length_nil, List.length_cons, or_false, false_or, or_self, not_false_eq_true, not_true_eq_false, ↓reduceIte, if_true, if_false, Bool.false_eq_true, Nat.reduceAdd]
theorem c_humoursTogether (ho : o = 27 ∨ o = 31) (hp : p < 6) : fX8_humoursTogether o (iN p) (encC I A L pr ot T) = some (htS (A (o + 1)) p 4, encC I A L pr ot T) := by
  refine lp_det (fun n k s => fX8_humoursTogether_L4 o (iN p) (fun x1 h2 => some (x1, h2)) n s (iN k) (encC I A L pr ot T)) (fun s => some (s, encC I A L pr ot T)) (htS (A (o + 1)) p) 4 ?_ ?_ FU (by unfold FU; omega)
  · intro k hk n
    have e1 := c_humourOf (I := I) (A := A) (L := L) (pr := pr) (ot := ot) (T := T) ho hp hk
    have e2 : htS (A (o + 1)) p (k + 1) = htS (A (o + 1)) p k * 10 + A (o + 1) (8 + p * 4 + k) := rfl
    rcases ho with rfl | rfl
    all_goals
      rw [e2]
      simp only [Nat.reduceAdd] at e1
      simp (disch := omega) only [fX8_humoursTogether_L4, ↓bK_27, ↓bK_31, ↓hb_some, ↓bd_some, ↓letE_eq, h_z0, h_z1, h_zi0, h_zi1, e1, iN_lit, iN_add, iN_mul, iN_pred, iN_pred', iN_lt, iN_le, iN_eq, iN_nat, nlt_t, nlt_f, nle_t, nle_f, neq_t, neq_f, List.length_nil, List.length_cons, or_false, false_or, or_self, not_false_eq_true, not_true_eq_false, ↓reduceIte, if_true, if_false, Bool.false_eq_true, Nat.reduceAdd]
  · intro n
    rcases ho with rfl | rfl
    all_goals
      simp (disch := omega) only [fX8_humoursTogether_L4, ↓bK_27, ↓bK_31, ↓hb_some, ↓bd_some, ↓letE_eq, h_z0, h_z1, h_zi0, h_zi1, iN_lit, iN_add, iN_mul, iN_pred, iN_pred', iN_lt, iN_le, iN_eq, iN_nat, nlt_t, nlt_f, nle_t, nle_f, neq_t, neq_f, List.length_nil, List.length_cons, or_false, false_or, or_self, not_false_eq_true, not_true_eq_false, ↓reduceIte, if_true, if_false, Bool.false_eq_true, Nat.reduceAdd]
theorem c_stockOfAll (hF : FS I G P W) (ho : o = 27 ∨ o = 31) : fX8_stockOfAll o (encC I A L pr ot T) = some (sm (A (o + 1)) G, encC I A L pr ot T) := by
  obtain ⟨hG, hP, hW, h8, h6, h7⟩ := hF
  refine lp_det (fun n k s => fX8_stockOfAll_L4 o (fun x1 h2 => some (x1, h2)) n s (iN k) (encC I A L pr ot T)) (fun s => some (s, encC I A L pr ot T)) (sm (A (o + 1))) G ?_ ?_ FU (by unfold FU; omega)
  · intro k hk n
    have e1 := c_stockOf (I := I) (A := A) (L := L) (pr := pr) (ot := ot) (T := T) ho (show k < 8 by omega)
    have e2 : sm (A (o + 1)) (k + 1) = sm (A (o + 1)) k + A (o + 1) k := rfl
    rcases ho with rfl | rfl
    all_goals
      rw [e2]
      simp only [Nat.reduceAdd] at e1
      simp (disch := omega) only [fX8_stockOfAll_L4, ↓bK_11, ↓bK_27, ↓bK_31, ↓bR_27_0, ↓bR_31_0, ↓hb_some, ↓bd_some, ↓letE_eq, h_z0, h_z1, h_zi0, h_zi1, c_groundSize, hG, e1, iN_lit, iN_add, iN_mul, iN_pred, iN_pred', iN_lt, iN_le, iN_eq, iN_nat, nlt_t, nlt_f, nle_t, nle_f, neq_t, neq_f, List.length_nil, List.length_cons, or_false, false_or, or_self, not_false_eq_true, not_true_eq_false, ↓reduceIte, if_true, if_false, Bool.false_eq_true, Nat.reduceAdd]
  · intro n
    rcases ho with rfl | rfl
    all_goals
      simp (disch := omega) only [fX8_stockOfAll_L4, ↓bK_11, ↓bK_27, ↓bK_31, ↓bR_27_0, ↓bR_31_0, ↓hb_some, ↓bd_some, ↓letE_eq, h_z0, h_z1, h_zi0, h_zi1, c_groundSize, hG, iN_lit, iN_add, iN_mul, iN_pred, iN_pred', iN_lt, iN_le, iN_eq, iN_nat, nlt_t, nlt_f, nle_t, nle_f, neq_t, neq_f, List.length_nil, List.length_cons, or_false, false_or, or_self, not_false_eq_true, not_true_eq_false, ↓reduceIte, if_true, if_false, Bool.false_eq_true, Nat.reduceAdd]
theorem c_groundsOfAll (hF : FS I G P W) (ho : o = 27 ∨ o = 31) : fX8_groundsOfAll o (encC I A L pr ot T) = some (sm (fun p => bc (gsS (A (o + 1)) G p)) P, encC I A L pr ot T) := by
  have hF' := hF
  obtain ⟨hG, hP, hW, h8, h6, h7⟩ := hF
  refine lp_det (fun n k s => fX8_groundsOfAll_L4 o (fun x1 h2 => some (x1, h2)) n s (iN k) (encC I A L pr ot T)) (fun s => some (s, encC I A L pr ot T)) (sm (fun p => bc (gsS (A (o + 1)) G p))) P ?_ ?_ FU (by unfold FU; omega)
  · intro k hk n
    have e1 := c_groundsOf (A := A) (L := L) (pr := pr) (ot := ot) (T := T) hF' ho (show k < 6 by omega)
    have e2 : sm (fun p => bc (gsS (A (o + 1)) G p)) (k + 1) = sm (fun p => bc (gsS (A (o + 1)) G p)) k + bc (gsS (A (o + 1)) G k) := rfl
    rcases ho with rfl | rfl
    all_goals
      rw [e2]
      simp only [Nat.reduceAdd] at e1
      simp (disch := omega) only [fX8_groundsOfAll_L4, ↓bK_11, ↓bK_27, ↓bK_31, ↓bR_27_0, ↓bR_31_0, ↓hb_some, ↓bd_some, ↓letE_eq, h_z0, h_z1, h_zi0, h_zi1, c_personSize, hP, e1, c_bitCount, iN_lit, iN_add, iN_mul, iN_pred, iN_pred', iN_lt, iN_le, iN_eq, iN_nat, nlt_t, nlt_f, nle_t, nle_f, neq_t, neq_f, List.length_nil, List.length_cons, or_false, false_or, or_self, not_false_eq_true, not_true_eq_false, ↓reduceIte, if_true, if_false, Bool.false_eq_true, Nat.reduceAdd]
  · intro n
    rcases ho with rfl | rfl
    all_goals
      simp (disch := omega) only [fX8_groundsOfAll_L4, ↓bK_11, ↓bK_27, ↓bK_31, ↓bR_27_0, ↓bR_31_0, ↓hb_some, ↓bd_some, ↓letE_eq, h_z0, h_z1, h_zi0, h_zi1, c_personSize, hP, iN_lit, iN_add, iN_mul, iN_pred, iN_pred', iN_lt, iN_le, iN_eq, iN_nat, nlt_t, nlt_f, nle_t, nle_f, neq_t, neq_f, List.length_nil, List.length_cons, or_false, false_or, or_self, not_false_eq_true, not_true_eq_false, ↓reduceIte, if_true, if_false, Bool.false_eq_true, Nat.reduceAdd]
theorem c_wantsOfAll (hF : FS I G P W) (hT : TS A W) (ho : o = 27 ∨ o = 31) : fX8_wantsOfAll o (encC I A L pr ot T) = some (sm (fun p => bc (waS A (A (o + 1)) W p)) P, encC I A L pr ot T) := by
  have hF' := hF
  obtain ⟨hG, hP, hW, h8, h6, h7⟩ := hF
  refine lp_det (fun n k s => fX8_wantsOfAll_L4 o (fun x1 h2 => some (x1, h2)) n s (iN k) (encC I A L pr ot T)) (fun s => some (s, encC I A L pr ot T)) (sm (fun p => bc (waS A (A (o + 1)) W p))) P ?_ ?_ FU (by unfold FU; omega)
  · intro k hk n
    have e1 := c_wantsOf (L := L) (pr := pr) (ot := ot) (T := T) hF' hT ho (show k < 6 by omega)
    have e2 : sm (fun p => bc (waS A (A (o + 1)) W p)) (k + 1) = sm (fun p => bc (waS A (A (o + 1)) W p)) k + bc (waS A (A (o + 1)) W k) := rfl
    rcases ho with rfl | rfl
    all_goals
      rw [e2]
      simp only [Nat.reduceAdd] at e1
      simp (disch := omega) only [fX8_wantsOfAll_L4, ↓bK_11, ↓bK_27, ↓bK_31, ↓bR_27_0, ↓bR_31_0, ↓hb_some, ↓bd_some, ↓letE_eq, h_z0, h_z1, h_zi0, h_zi1, c_personSize, hP, e1, c_bitCount, iN_lit, iN_add, iN_mul, iN_pred, iN_pred', iN_lt, iN_le, iN_eq, iN_nat, nlt_t, nlt_f, nle_t, nle_f, neq_t, neq_f, List.length_nil, List.length_cons, or_false, false_or, or_self, not_false_eq_true, not_true_eq_false, ↓reduceIte, if_true, if_false, Bool.false_eq_true, Nat.reduceAdd]
  · intro n
    rcases ho with rfl | rfl
    all_goals
      simp (disch := omega) only [fX8_wantsOfAll_L4, ↓bK_11, ↓bK_27, ↓bK_31, ↓bR_27_0, ↓bR_31_0, ↓hb_some, ↓bd_some, ↓letE_eq, h_z0, h_z1, h_zi0, h_zi1, c_personSize, hP, iN_lit, iN_add, iN_mul, iN_pred, iN_pred', iN_lt, iN_le, iN_eq, iN_nat, nlt_t, nlt_f, nle_t, nle_f, neq_t, neq_f, List.length_nil, List.length_cons, or_false, false_or, or_self, not_false_eq_true, not_true_eq_false, ↓reduceIte, if_true, if_false, Bool.false_eq_true, Nat.reduceAdd]
theorem c_humoursOfAll (hF : FS I G P W) (ho : o = 27 ∨ o = 31) : fX8_humoursOfAll o (encC I A L pr ot T) = some (huS (A (o + 1)) P, encC I A L pr ot T) := by
  obtain ⟨hG, hP, hW, h8, h6, h7⟩ := hF
  refine lp_det (fun n k s => fX8_humoursOfAll_L4 o (fun x1 h2 => some (x1, h2)) n s (iN k) (encC I A L pr ot T)) (fun s => some (s, encC I A L pr ot T)) (fun p => huS (A (o + 1)) p) P ?_ ?_ FU (by unfold FU; omega)
  · intro k hk n
    have inner : ∀ (kx : Int32 → PH → Option (Int32 × PH)), fX8_humoursOfAll_L17 o (iN k) kx FU (huS (A (o + 1)) k) (iN 0) (encC I A L pr ot T) = kx (huS (A (o + 1)) (k + 1)) (encC I A L pr ot T) := by
      intro kx
      have := lp_det (fun n j s => fX8_humoursOfAll_L17 o (iN k) kx n s (iN j) (encC I A L pr ot T)) (fun s => kx s (encC I A L pr ot T)) (fun j => sm (fun i => A (o + 1) (8 + i)) (k * 4 + j)) 4 ?_ ?_ FU (by unfold FU; omega)
      · rw [show huS (A (o + 1)) (k + 1) = sm (fun i => A (o + 1) (8 + i)) (k * 4 + 4) by unfold huS; rw [show (k + 1) * 4 = k * 4 + 4 by omega]]
        exact this
      · intro j hj n
        have e1 := c_humourOf (I := I) (A := A) (L := L) (pr := pr) (ot := ot) (T := T) ho (show k < 6 by omega) hj
        have e2 : sm (fun i => A (o + 1) (8 + i)) (k * 4 + (j + 1)) = sm (fun i => A (o + 1) (8 + i)) (k * 4 + j) + A (o + 1) (8 + k * 4 + j) := by rw [Nat.add_assoc 8]; rfl
        rcases ho with rfl | rfl
        all_goals
          simp only [Nat.reduceAdd] at e1 e2
          simp (disch := omega) only [fX8_humoursOfAll_L17, ↓bK_27, ↓bK_31, ↓hb_some, ↓bd_some, ↓letE_eq, h_z0, h_z1, h_zi0, h_zi1, e1, e2, iN_lit, iN_add, iN_mul, iN_pred, iN_pred', iN_lt, iN_le, iN_eq, iN_nat, nlt_t, nlt_f, nle_t, nle_f, neq_t, neq_f, List.length_nil, List.length_cons, or_false, false_or, or_self, not_false_eq_true, not_true_eq_false, ↓reduceIte, if_true, if_false, Bool.false_eq_true, Nat.reduceAdd]
      · intro n
        rcases ho with rfl | rfl
        all_goals
          simp (disch := omega) only [fX8_humoursOfAll_L17, ↓bK_27, ↓bK_31, ↓hb_some, ↓bd_some, ↓letE_eq, h_z0, h_z1, h_zi0, h_zi1, iN_lit, iN_add, iN_mul, iN_pred, iN_pred', iN_lt, iN_le, iN_eq, iN_nat, nlt_t, nlt_f, nle_t, nle_f, neq_t, neq_f, List.length_nil, List.length_cons, or_false, false_or, or_self, not_false_eq_true, not_true_eq_false, ↓reduceIte, if_true, if_false, Bool.false_eq_true, Nat.reduceAdd]
    rcases ho with rfl | rfl
    all_goals
      simp (disch := omega) only [fX8_humoursOfAll_L4, ↓bK_11, ↓bR_27_0, ↓bR_31_0, ↓hb_some, ↓bd_some, ↓letE_eq, h_z0, h_z1, h_zi0, h_zi1, c_personSize, hP, iN_lit, iN_add, iN_mul, iN_pred, iN_pred', iN_lt, iN_le, iN_eq, iN_nat, nlt_t, nlt_f, nle_t, nle_f, neq_t, neq_f, List.length_nil, List.length_cons, or_false, false_or, or_self, not_false_eq_true, not_true_eq_false, ↓reduceIte, if_true, if_false, Bool.false_eq_true, Nat.reduceAdd]
      simp only [Nat.reduceAdd] at inner
      rw [inner]
  · intro n
    rcases ho with rfl | rfl
    all_goals
      simp (disch := omega) only [fX8_humoursOfAll_L4, ↓bK_11, ↓bR_27_0, ↓bR_31_0, ↓hb_some, ↓bd_some, ↓letE_eq, h_z0, h_z1, h_zi0, h_zi1, c_personSize, hP, iN_lit, iN_add, iN_mul, iN_pred, iN_pred', iN_lt, iN_le, iN_eq, iN_nat, nlt_t, nlt_f, nle_t, nle_f, neq_t, neq_f, List.length_nil, List.length_cons, or_false, false_or, or_self, not_false_eq_true, not_true_eq_false, ↓reduceIte, if_true, if_false, Bool.false_eq_true, Nat.reduceAdd]
end CL
