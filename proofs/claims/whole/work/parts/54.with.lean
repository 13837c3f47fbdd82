/-! WITH SOME GROUNDS MORE: days of one -/
def ldF (Z : Nat → Int32) (p : Nat) (m : Int32) : Nat → Nat → Int32
  | 0 => Z
  | g + 1 => if hasB m g then upd (ldF Z p m g) (32 + p * 8 + g) 0 else ldF Z p m g
def wwS (A : Nat → Nat → Int32) (pu : (Nat → Int32) → Int32) (G W p : Nat) (m : Int32) (n : Nat) (Z : Nat → Int32) : Int32 := waS A (psZ A pu G p (ldF Z p m G) n) W p
def frS (Z : Nat → Int32) (G p : Nat) : Int32 := bt (fun g => decide (0 < Z g) && !hdB Z p g) G
def grS (A : Nat → Nat → Int32) (G : Nat) (m : Int32) : Int32 := sm (fun g => if hasB m g then A 12 g else 0) G
theorem nle_pos {x : Int32} : (x ≤ 0) = ¬ (0 < x) := by
  apply propext
  rw [Int32.le_iff_toInt_le, Int32.lt_iff_toInt_lt]; omega
section WI
variable {I A E I' A' : Nat → Nat → Int32} {L L' : Nat → Int64} {pr ot s : Nat} {J J' : Nat → Int32} {B B' : Nat → Nat → Int32} {M M' : Nat → Int64} {rdv rdv' : Value} {ru : Nat} {T : PH} {G P W p q g n nr sz ro oa w t : Nat} {Z Z' R X a : Nat → Int32} {x y z i2 m : Int32} {out : Nat → Int64} {pu : (Nat → Int32) → Int32}
theorem OK.ld (hz : OK G P Z) (h8 : G ≤ 8) (h6 : P ≤ 6) (hp : p < P) : ∀ k, k ≤ G → OK G P (ldF Z p m k)
  | 0, _ => hz
  | k + 1, hk => by
    unfold ldF
    split
    · exact (OK.ld hz h8 h6 hp k (by omega)).he (by omega) (by omega) hp (by omega) (Or.inr ⟨by decide, by decide⟩)
    · exact OK.ld hz h8 h6 hp k (by omega)
theorem CK.with_ (c : CK I A G P W pr pu) (i1 : frQ A A') (hp : p < P) (hn : n < 2000) : ∃ A2, fX4_wantsWith 35 (iN p) m (iN n) (encC I A' L pr ot T) = some (wwS A pu G W p m n (A 28), (encC I A2 L pr ot T)) ∧ frQ A A2 ∧ A2 32 = psZ A pu G p (ldF (A 28) p m G) n := by
  have hF := c.1
  have h8 := hF.2.2.2.1
  have h6 := hF.2.2.2.2.1
  have hG := hF.1
  obtain ⟨e1, e2⟩ := c.copyQ (L := L) (pr := pr) (ot := ot) (T := T) i1
  have hz := c.2.2.2.2.1
  have hzk := fun k (hk : k ≤ G) => hz.ld (m := m) h8 h6 hp k hk
  have e3 : frQ A (u1 A' 32 (ldF (A 28) p m G)) := ⟨fun x hx => by rw [u1_eq, if_neg (by omega)]; exact i1.1 x hx, fun _ => by rw [u1_eq, if_pos rfl]; exact (hzk G (Nat.le_refl _)).1⟩
  obtain ⟨A2, f1, f2, f3⟩ := c.pass (L := L) (pr := pr) (ot := ot) (T := T) (n := n) e3 rfl (hzk G (Nat.le_refl _)) hp hn
  have f4 := c.wants (L := L) (pr := pr) (ot := ot) (T := T) f2 f3 hp
  refine ⟨A2, ?_, f2, f3⟩
  have key := fun kx => lp_det (fun n' k (a : Nat → Int32) => fX4_wantsWith_L14 35 (iN p) m (iN n) kx n' (iN k) (encC I (u1 A' 32 a) L pr ot T)) (fun a => kx (encC I (u1 A' 32 a) L pr ot T)) (fun k => ldF (A 28) p m k) G
    (fun k hk n' => by
      cases hb : hasB m k with
      | true =>
        have e4 : ldF (A 28) p m (k + 1) = upd (ldF (A 28) p m k) (32 + p * 8 + k) 0 := if_pos hb
        have e5 := c_lend (I := I) (A := u1 A' 32 (ldF (A 28) p m k)) (L := L) (pr := pr) (ot := ot) (T := T) (o := 31) (p := p) (g := k) (Or.inr rfl) (by omega) (by omega)
        have e6 : (u1 A' 32 (ldF (A 28) p m k)) (31 + 1) = ldF (A 28) p m k := by rw [u1_eq, if_pos rfl]
        rw [e6, show 31 + 1 = 32 from rfl, u1_u1] at e5
        rw [e4]
        simp (disch := first | omega | assumption | (simp (disch := omega) only [iN_lit, iN_add, iN_mul, iN_pred, iN_pred', iN_lt, iN_le, iN_eq, iN_nat, nlt_t, nlt_f, nle_t, nle_f, neq_t, neq_f, List.length_nil, List.length_cons, or_false, false_or, or_self, not_false_eq_true, not_true_eq_false, ↓reduceIte, if_true, if_false, Bool.false_eq_true, Nat.reduceAdd])) only [fX4_wantsWith_L14, ↓bK_11, ↓zK _, ↓bR_35_0, ↓bR_35_2, fX4_wantsWith_J45_14, ↓hb_of (c_groundSize), ↓hb_some, ↓bd_some, ↓letE_eq, h_z0, h_z1, h_zi0, h_zi1, ↓hb_of e5, ↓hb_of (isIn_y hb), iN_lit, iN_add, iN_mul, iN_pred, iN_pred', iN_lt, iN_le, iN_eq, iN_nat, nlt_t, nlt_f, nle_t, nle_f, neq_t, neq_f, List.length_nil, List.length_cons, or_false, false_or, or_self, not_false_eq_true, not_true_eq_false, ↓reduceIte, if_true, if_false, Bool.false_eq_true, Nat.reduceAdd, hG]
      | false =>
        have e4 : ldF (A 28) p m (k + 1) = ldF (A 28) p m k := if_neg (by rw [hb]; decide)
        rw [e4]
        simp (disch := first | omega | assumption | (simp (disch := omega) only [iN_lit, iN_add, iN_mul, iN_pred, iN_pred', iN_lt, iN_le, iN_eq, iN_nat, nlt_t, nlt_f, nle_t, nle_f, neq_t, neq_f, List.length_nil, List.length_cons, or_false, false_or, or_self, not_false_eq_true, not_true_eq_false, ↓reduceIte, if_true, if_false, Bool.false_eq_true, Nat.reduceAdd])) only [fX4_wantsWith_L14, ↓bK_11, ↓zK _, ↓bR_35_0, ↓bR_35_2, fX4_wantsWith_J45_14, ↓hb_of (c_groundSize), ↓hb_some, ↓bd_some, ↓letE_eq, h_z0, h_z1, h_zi0, h_zi1, ↓hb_of (isIn_n hb), iN_lit, iN_add, iN_mul, iN_pred, iN_pred', iN_lt, iN_le, iN_eq, iN_nat, nlt_t, nlt_f, nle_t, nle_f, neq_t, neq_f, List.length_nil, List.length_cons, or_false, false_or, or_self, not_false_eq_true, not_true_eq_false, ↓reduceIte, if_true, if_false, Bool.false_eq_true, Nat.reduceAdd, hG])
    (fun n' => by simp (disch := first | omega | assumption | (simp (disch := omega) only [iN_lit, iN_add, iN_mul, iN_pred, iN_pred', iN_lt, iN_le, iN_eq, iN_nat, nlt_t, nlt_f, nle_t, nle_f, neq_t, neq_f, List.length_nil, List.length_cons, or_false, false_or, or_self, not_false_eq_true, not_true_eq_false, ↓reduceIte, if_true, if_false, Bool.false_eq_true, Nat.reduceAdd])) only [fX4_wantsWith_L14, ↓bK_11, ↓zK _, ↓bR_35_0, ↓bR_35_2, fX4_wantsWith_J45_14, ↓hb_of (c_groundSize), ↓hb_of (isIn_y _), ↓hb_of (isIn_n _), ↓hb_of (c_isIn_gs _ _), ↓hb_of (c_lend _ _ _), ↓hb_some, ↓bd_some, ↓letE_eq, h_z0, h_z1, h_zi0, h_zi1, iN_lit, iN_add, iN_mul, iN_pred, iN_pred', iN_lt, iN_le, iN_eq, iN_nat, nlt_t, nlt_f, nle_t, nle_f, neq_t, neq_f, List.length_nil, List.length_cons, or_false, false_or, or_self, not_false_eq_true, not_true_eq_false, ↓reduceIte, if_true, if_false, Bool.false_eq_true, Nat.reduceAdd, hG]) FU (by unfold FU; omega)
  have e7 : ldF (A 28) p m 0 = A 28 := rfl
  rw [e7] at key
  unfold fX4_wantsWith
  simp only [iN_lit] at key ⊢
  rw [bR_35_2, bR_35_1, bK_31, hb_of e1, key]
  simp (disch := first | omega | assumption | (simp (disch := omega) only [iN_lit, iN_add, iN_mul, iN_pred, iN_pred', iN_lt, iN_le, iN_eq, iN_nat, nlt_t, nlt_f, nle_t, nle_f, neq_t, neq_f, List.length_nil, List.length_cons, or_false, false_or, or_self, not_false_eq_true, not_true_eq_false, ↓reduceIte, if_true, if_false, Bool.false_eq_true, Nat.reduceAdd])) only [fX4_wantsWith, ↓zK _, ↓bK_11, ↓bR_35_2, ↓bR_35_1, ↓bR_35_0, ↓hb_of (c_presentRule), ↓hb_some, ↓bd_some, ↓letE_eq, h_z0, h_z1, h_zi0, h_zi1, ↓hb_of f1, ↓hb_of f4, iN_lit, iN_add, iN_mul, iN_pred, iN_pred', iN_lt, iN_le, iN_eq, iN_nat, nlt_t, nlt_f, nle_t, nle_f, neq_t, neq_f, List.length_nil, List.length_cons, or_false, false_or, or_self, not_false_eq_true, not_true_eq_false, ↓reduceIte, if_true, if_false, Bool.false_eq_true, Nat.reduceAdd]
  rfl
theorem CK.bare (c : CK I A G P W pr pu) (i1 : frQ A A') (hp : p < P) (hg : g < G) (hn : n < 2000) : ∃ A2, fX4_wantsBare 35 (iN p) (iN g) (iN n) (encC I A' L pr ot T) = some (waS A (psZ A pu G p (upd (A 28) (32 + p * 8 + g) (-1)) n) W p, (encC I A2 L pr ot T)) ∧ frQ A A2 := by
  have hF := c.1
  have h8 := hF.2.2.2.1
  have h6 := hF.2.2.2.2.1
  obtain ⟨e1, e2⟩ := c.copyQ (L := L) (pr := pr) (ot := ot) (T := T) i1
  have hz := c.2.2.2.2.1
  have hzk : OK G P (upd (A 28) (32 + p * 8 + g) (-1)) := hz.he (by omega) (by omega) hp hg (Or.inl rfl)
  have e3 : frQ A (u1 A' 32 (upd (A 28) (32 + p * 8 + g) (-1))) := ⟨fun x hx => by rw [u1_eq, if_neg (by omega)]; exact i1.1 x hx, fun _ => by rw [u1_eq, if_pos rfl]; exact hzk.1⟩
  obtain ⟨A2, f1, f2, f3⟩ := c.pass (L := L) (pr := pr) (ot := ot) (T := T) (n := n) e3 rfl hzk hp hn
  have f4 := c.wants (L := L) (pr := pr) (ot := ot) (T := T) f2 f3 hp
  have e5 := c_strip (I := I) (A := u1 A' 32 (A 28)) (L := L) (pr := pr) (ot := ot) (T := T) (o := 31) (p := p) (g := g) (Or.inr rfl) (by omega) (by omega)
  have e6 : (u1 A' 32 (A 28)) (31 + 1) = A 28 := by rw [u1_eq, if_pos rfl]
  rw [e6, show 31 + 1 = 32 from rfl, u1_u1] at e5
  refine ⟨A2, ?_, f2⟩
  simp only [iN_lit] at f1 f4
  simp (disch := first | omega | assumption | (simp (disch := omega) only [iN_lit, iN_add, iN_mul, iN_pred, iN_pred', iN_lt, iN_le, iN_eq, iN_nat, nlt_t, nlt_f, nle_t, nle_f, neq_t, neq_f, List.length_nil, List.length_cons, or_false, false_or, or_self, not_false_eq_true, not_true_eq_false, ↓reduceIte, if_true, if_false, Bool.false_eq_true, Nat.reduceAdd])) only [fX4_wantsBare, ↓zK _, ↓bK_11, ↓bR_35_2, ↓bR_35_1, ↓bR_35_0, ↓hb_of (c_presentRule), ↓hb_some, ↓bd_some, ↓letE_eq, h_z0, h_z1, h_zi0, h_zi1, ↓hb_of e1, ↓hb_of e5, ↓hb_of f1, ↓hb_of f4, iN_lit, iN_add, iN_mul, iN_pred, iN_pred', iN_lt, iN_le, iN_eq, iN_nat, nlt_t, nlt_f, nle_t, nle_f, neq_t, neq_f, List.length_nil, List.length_cons, or_false, false_or, or_self, not_false_eq_true, not_true_eq_false, ↓reduceIte, if_true, if_false, Bool.false_eq_true, Nat.reduceAdd, u1_eq]
theorem CK.free (c : CK I A G P W ro pu) (i1 : frQ A A') (hp : p < P) : fX4_free 35 (iN p) (encC I A' L pr ot T) = some (frS (A 28) G p, (encC I A' L pr ot T)) := by
  have hF := c.1
  have h8 := hF.2.2.2.1
  have h6 := hF.2.2.2.2.1
  have hG := hF.1
  have e28 : A' (27 + 1) = A 28 := i1.1 28 (by omega)
  refine lp_det (fun n k s => fX4_free_L4 35 (iN p) (fun x1 h2 => some (x1, h2)) n s (iN k) (encC I A' L pr ot T)) (fun s => some (s, (encC I A' L pr ot T))) (bt (fun g => decide (0 < A 28 g) && !hdB (A 28) p g)) G ?_ ?_ FU (by unfold FU; omega)
  · intro k hk n
    have e2 : bt (fun g => decide (0 < A 28 g) && !hdB (A 28) p g) (k + 1) = bt (fun g => decide (0 < A 28 g) && !hdB (A 28) p g) k ||| (if (decide (0 < A 28 k) && !hdB (A 28) p k) = true then (1 : Int32) <<< (iN k &&& 31) else 0) := rfl
    have f1 := c_stockOf (I := I) (A := A') (L := L) (pr := pr) (ot := ot) (T := T) (o := 27) (g := k) (Or.inl rfl) (by omega)
    have f2 := c_holds (I := I) (A := A') (L := L) (pr := pr) (ot := ot) (T := T) (o := 27) (p := p) (g := k) (Or.inl rfl) (by omega) (by omega)
    rw [e28] at f1 f2
    rw [e2]
    by_cases hs : 0 < A 28 k
    · have hs' : ¬ A 28 k ≤ iN 0 := by
        show ¬ A 28 k ≤ 0
        rw [nle_pos]; exact not_not_intro hs
      rw [decide_eq_true hs]
      cases hb : hdB (A 28) p k
      · rw [hb] at f2
        simp only [iN_lit, Bool.false_eq_true, if_false] at f2
        simp (disch := first | omega | assumption | (simp (disch := omega) only [iN_lit, iN_add, iN_mul, iN_pred, iN_pred', iN_lt, iN_le, iN_eq, iN_nat, nlt_t, nlt_f, nle_t, nle_f, neq_t, neq_f, List.length_nil, List.length_cons, or_false, false_or, or_self, not_false_eq_true, not_true_eq_false, ↓reduceIte, if_true, if_false, Bool.false_eq_true, Nat.reduceAdd])) only [fX4_free_L4, ↓bK_11, ↓zK _, ↓bR_35_0, ↓bR_35_1, fX4_free_J46_4, fX4_free_J45_4, ↓hb_of (c_groundSize), ↓hb_some, ↓bd_some, ↓letE_eq, h_z0, h_z1, h_zi0, h_zi1, ↓hb_of f1, ↓hb_of f2, iN_lit, iN_add, iN_mul, iN_pred, iN_pred', iN_lt, iN_le, iN_eq, iN_nat, nlt_t, nlt_f, nle_t, nle_f, neq_t, neq_f, List.length_nil, List.length_cons, or_false, false_or, or_self, not_false_eq_true, not_true_eq_false, ↓reduceIte, if_true, if_false, Bool.false_eq_true, Nat.reduceAdd, hG, hs', Bool.not_false, Bool.and_self]
      · rw [hb] at f2
        simp only [iN_lit, if_true] at f2
        simp (disch := first | omega | assumption | (simp (disch := omega) only [iN_lit, iN_add, iN_mul, iN_pred, iN_pred', iN_lt, iN_le, iN_eq, iN_nat, nlt_t, nlt_f, nle_t, nle_f, neq_t, neq_f, List.length_nil, List.length_cons, or_false, false_or, or_self, not_false_eq_true, not_true_eq_false, ↓reduceIte, if_true, if_false, Bool.false_eq_true, Nat.reduceAdd])) only [fX4_free_L4, ↓bK_11, ↓zK _, ↓bR_35_0, ↓bR_35_1, fX4_free_J46_4, fX4_free_J45_4, ↓hb_of (c_groundSize), ↓hb_some, ↓bd_some, ↓letE_eq, h_z0, h_z1, h_zi0, h_zi1, ↓hb_of f1, ↓hb_of f2, iN_lit, iN_add, iN_mul, iN_pred, iN_pred', iN_lt, iN_le, iN_eq, iN_nat, nlt_t, nlt_f, nle_t, nle_f, neq_t, neq_f, List.length_nil, List.length_cons, or_false, false_or, or_self, not_false_eq_true, not_true_eq_false, ↓reduceIte, if_true, if_false, Bool.false_eq_true, Nat.reduceAdd, hG, hs', Bool.not_true, Bool.and_false]
    · have hs' : A 28 k ≤ iN 0 := by
        show A 28 k ≤ 0
        rw [nle_pos]; exact hs
      rw [decide_eq_false hs]
      simp (disch := first | omega | assumption | (simp (disch := omega) only [iN_lit, iN_add, iN_mul, iN_pred, iN_pred', iN_lt, iN_le, iN_eq, iN_nat, nlt_t, nlt_f, nle_t, nle_f, neq_t, neq_f, List.length_nil, List.length_cons, or_false, false_or, or_self, not_false_eq_true, not_true_eq_false, ↓reduceIte, if_true, if_false, Bool.false_eq_true, Nat.reduceAdd])) only [fX4_free_L4, ↓bK_11, ↓zK _, ↓bR_35_0, ↓bR_35_1, fX4_free_J46_4, fX4_free_J45_4, ↓hb_of (c_groundSize), ↓hb_some, ↓bd_some, ↓letE_eq, h_z0, h_z1, h_zi0, h_zi1, ↓hb_of f1, iN_lit, iN_add, iN_mul, iN_pred, iN_pred', iN_lt, iN_le, iN_eq, iN_nat, nlt_t, nlt_f, nle_t, nle_f, neq_t, neq_f, List.length_nil, List.length_cons, or_false, false_or, or_self, not_false_eq_true, not_true_eq_false, ↓reduceIte, if_true, if_false, Bool.false_eq_true, Nat.reduceAdd, hG, hs', Bool.false_and]
  · intro n
    simp (disch := first | omega | assumption | (simp (disch := omega) only [iN_lit, iN_add, iN_mul, iN_pred, iN_pred', iN_lt, iN_le, iN_eq, iN_nat, nlt_t, nlt_f, nle_t, nle_f, neq_t, neq_f, List.length_nil, List.length_cons, or_false, false_or, or_self, not_false_eq_true, not_true_eq_false, ↓reduceIte, if_true, if_false, Bool.false_eq_true, Nat.reduceAdd])) only [fX4_free_L4, ↓bK_11, ↓zK _, ↓bR_35_0, ↓bR_35_1, fX4_free_J46_4, fX4_free_J45_4, ↓hb_of (c_groundSize), ↓hb_of (c_stockOf _ _), ↓hb_of (holds_y _ _ _ _), ↓hb_of (holds_n _ _ _ _), ↓hb_some, ↓bd_some, ↓letE_eq, h_z0, h_z1, h_zi0, h_zi1, iN_lit, iN_add, iN_mul, iN_pred, iN_pred', iN_lt, iN_le, iN_eq, iN_nat, nlt_t, nlt_f, nle_t, nle_f, neq_t, neq_f, List.length_nil, List.length_cons, or_false, false_or, or_self, not_false_eq_true, not_true_eq_false, ↓reduceIte, if_true, if_false, Bool.false_eq_true, Nat.reduceAdd, hG]
theorem CK.grades (c : CK I A G P W ro pu) (i1 : frQ A A') : fX4_gradesOf 35 m (encC I A' L pr ot T) = some (grS A G m, (encC I A' L pr ot T)) := by
  have hF := c.1
  have h8 := hF.2.2.2.1
  have hG := hF.1
  have e12 : A' 12 = A 12 := i1.1 12 (by omega)
  refine lp_det (fun n k s => fX4_gradesOf_L4 35 m (fun x1 h2 => some (x1, h2)) n s (iN k) (encC I A' L pr ot T)) (fun s => some (s, (encC I A' L pr ot T))) (sm (fun g => if hasB m g then A 12 g else 0)) G ?_ ?_ FU (by unfold FU; omega)
  · intro k hk n
    have e2 : sm (fun g => if hasB m g then A 12 g else 0) (k + 1) = sm (fun g => if hasB m g then A 12 g else 0) k + (if hasB m k then A 12 k else 0) := rfl
    have f1 := c_gradeOf (I := I) (A := A') (L := L) (pr := pr) (ot := ot) (T := T) (g := k) hG h8 hk
    rw [e12] at f1
    rw [e2]
    cases hb : hasB m k
    · simp (disch := first | omega | assumption | (simp (disch := omega) only [iN_lit, iN_add, iN_mul, iN_pred, iN_pred', iN_lt, iN_le, iN_eq, iN_nat, nlt_t, nlt_f, nle_t, nle_f, neq_t, neq_f, List.length_nil, List.length_cons, or_false, false_or, or_self, not_false_eq_true, not_true_eq_false, ↓reduceIte, if_true, if_false, Bool.false_eq_true, Nat.reduceAdd])) only [fX4_gradesOf_L4, ↓bK_11, ↓bR_35_0, fX4_gradesOf_J36_4, ↓hb_of (c_groundSize), ↓hb_some, ↓bd_some, ↓letE_eq, h_z0, h_z1, h_zi0, h_zi1, ↓hb_of (isIn_n hb), iN_lit, iN_add, iN_mul, iN_pred, iN_pred', iN_lt, iN_le, iN_eq, iN_nat, nlt_t, nlt_f, nle_t, nle_f, neq_t, neq_f, List.length_nil, List.length_cons, or_false, false_or, or_self, not_false_eq_true, not_true_eq_false, ↓reduceIte, if_true, if_false, Bool.false_eq_true, Nat.reduceAdd, hG]
    · simp (disch := first | omega | assumption | (simp (disch := omega) only [iN_lit, iN_add, iN_mul, iN_pred, iN_pred', iN_lt, iN_le, iN_eq, iN_nat, nlt_t, nlt_f, nle_t, nle_f, neq_t, neq_f, List.length_nil, List.length_cons, or_false, false_or, or_self, not_false_eq_true, not_true_eq_false, ↓reduceIte, if_true, if_false, Bool.false_eq_true, Nat.reduceAdd])) only [fX4_gradesOf_L4, ↓bK_11, ↓bR_35_0, fX4_gradesOf_J36_4, ↓hb_of (c_groundSize), ↓hb_some, ↓bd_some, ↓letE_eq, h_z0, h_z1, h_zi0, h_zi1, ↓hb_of (isIn_y hb), ↓hb_of f1, iN_lit, iN_add, iN_mul, iN_pred, iN_pred', iN_lt, iN_le, iN_eq, iN_nat, nlt_t, nlt_f, nle_t, nle_f, neq_t, neq_f, List.length_nil, List.length_cons, or_false, false_or, or_self, not_false_eq_true, not_true_eq_false, ↓reduceIte, if_true, if_false, Bool.false_eq_true, Nat.reduceAdd, hG]
  · intro n
    simp (disch := first | omega | assumption | (simp (disch := omega) only [iN_lit, iN_add, iN_mul, iN_pred, iN_pred', iN_lt, iN_le, iN_eq, iN_nat, nlt_t, nlt_f, nle_t, nle_f, neq_t, neq_f, List.length_nil, List.length_cons, or_false, false_or, or_self, not_false_eq_true, not_true_eq_false, ↓reduceIte, if_true, if_false, Bool.false_eq_true, Nat.reduceAdd])) only [fX4_gradesOf_L4, ↓bK_11, ↓bR_35_0, fX4_gradesOf_J36_4, ↓hb_of (c_groundSize), ↓hb_of (isIn_y _), ↓hb_of (isIn_n _), ↓hb_of (c_isIn_gs _ _), ↓hb_of (c_gradeOf _ _ _), ↓hb_some, ↓bd_some, ↓letE_eq, h_z0, h_z1, h_zi0, h_zi1, iN_lit, iN_add, iN_mul, iN_pred, iN_pred', iN_lt, iN_le, iN_eq, iN_nat, nlt_t, nlt_f, nle_t, nle_f, neq_t, neq_f, List.length_nil, List.length_cons, or_false, false_or, or_self, not_false_eq_true, not_true_eq_false, ↓reduceIte, if_true, if_false, Bool.false_eq_true, Nat.reduceAdd, hG]
/-! the model -/
theorem frJ.rj (h : frJ J J') : frRJ J J' := h.k.r
theorem MKK.alones (mk : MKK A J B G P W ru pu) (i1 : frJ J J') (i2 : frRB B B') (i3 : CP Z (B' 29)) (hz : OK G P Z) (hp : p < P) (hn : n < 2000) : ∃ J2 B2 rdv2, (∀ kx : PH → Option (Int32 × PH), ∀ i3 i4 i5, fX12_burdens_L88 45 (iN p) (iN n) i3 i4 i5 kx FU (iN 0) (encC I E L pr ot (encR J' B' M rdv' ru T)) = kx (encC I E L pr ot (encR J2 B2 M rdv2 ru T))) ∧ (∀ kx : PH → Option (Unit × PH), fX12_goWith_L52 45 (iN p) (iN n) kx FU (iN 0) (encC I E L pr ot (encR J' B' M rdv' ru T)) = kx (encC I E L pr ot (encR J2 B2 M rdv2 ru T))) ∧ frJ J J2 ∧ frRB B B2 ∧ CP (psZ A pu G p Z n) (B2 29) := by
  have h8 := mk.1.2.2.2.1
  have h6 := mk.1.2.2.2.2.1
  have key := lp_k (fun (c : (PH → Option (Int32 × PH)) × Int32 × Int32 × Int32 × (PH → Option (Unit × PH))) n' k (q : (Nat → Int32) × (Nat → Nat → Int32) × Value) => (some (fX12_burdens_L88 45 (iN p) (iN n) c.2.1 c.2.2.1 c.2.2.2.1 c.1 n' (iN k) (encC I E L pr ot (encR (q.1) (q.2.1) M (q.2.2) ru T)), fX12_goWith_L52 45 (iN p) (iN n) c.2.2.2.2 n' (iN k) (encC I E L pr ot (encR (q.1) (q.2.1) M (q.2.2) ru T))) : Option (Option (Int32 × PH) × Option (Unit × PH)))) (fun c q => some (c.1 (encC I E L pr ot (encR (q.1) (q.2.1) M (q.2.2) ru T)), c.2.2.2.2 (encC I E L pr ot (encR (q.1) (q.2.1) M (q.2.2) ru T)))) (fun k q => frJ J q.1 ∧ frRB B q.2.1 ∧ CP (psZ A pu G p Z k) (q.2.1 29)) n
    (fun k q hk hi => by
      obtain ⟨J1, B1, rdv1⟩ := q
      obtain ⟨k1, k2, k3⟩ := hi
      obtain ⟨J2, B2, rdv2, d1, d2, d3, d4⟩ := mk.alone (I := I) (E := E) (L := L) (pr := pr) (ot := ot) (M := M) (T := T) (rdv' := rdv1) k1 k2 k3 (hz.ps h8 (by omega) k) hp
      refine ⟨(J2, B2, rdv2), ⟨d2, d3, d4⟩, fun c n' => ?_⟩
      dsimp only
      congr 1
      simp (disch := first | omega | assumption | (simp (disch := omega) only [iN_lit, iN_add, iN_mul, iN_pred, iN_pred', iN_lt, iN_le, iN_eq, iN_nat, nlt_t, nlt_f, nle_t, nle_f, neq_t, neq_f, List.length_nil, List.length_cons, or_false, false_or, or_self, not_false_eq_true, not_true_eq_false, ↓reduceIte, if_true, if_false, Bool.false_eq_true, Nat.reduceAdd])) only [fX12_burdens_L88, ↓brK, fX12_burdens_J145_34, fX12_burdens_J138_34, fX12_goWith_L52, fX12_goWith_J43_15, ↓hb_some, ↓bd_some, ↓letE_eq, h_z0, h_z1, h_zi0, h_zi1, ↓hb_of d1, iN_lit, iN_add, iN_mul, iN_pred, iN_pred', iN_lt, iN_le, iN_eq, iN_nat, nlt_t, nlt_f, nle_t, nle_f, neq_t, neq_f, List.length_nil, List.length_cons, or_false, false_or, or_self, not_false_eq_true, not_true_eq_false, ↓reduceIte, if_true, if_false, Bool.false_eq_true, Nat.reduceAdd])
    (fun q hi c n' => by
      simp (disch := first | omega | assumption | (simp (disch := omega) only [iN_lit, iN_add, iN_mul, iN_pred, iN_pred', iN_lt, iN_le, iN_eq, iN_nat, nlt_t, nlt_f, nle_t, nle_f, neq_t, neq_f, List.length_nil, List.length_cons, or_false, false_or, or_self, not_false_eq_true, not_true_eq_false, ↓reduceIte, if_true, if_false, Bool.false_eq_true, Nat.reduceAdd])) only [fX12_burdens_L88, ↓brK, fX12_burdens_J145_34, fX12_burdens_J138_34, fX12_goWith_L52, fX12_goWith_J43_15, ↓hb_some, ↓bd_some, ↓letE_eq, h_z0, h_z1, h_zi0, h_zi1, iN_lit, iN_add, iN_mul, iN_pred, iN_pred', iN_lt, iN_le, iN_eq, iN_nat, nlt_t, nlt_f, nle_t, nle_f, neq_t, neq_f, List.length_nil, List.length_cons, or_false, false_or, or_self, not_false_eq_true, not_true_eq_false, ↓reduceIte, if_true, if_false, Bool.false_eq_true, Nat.reduceAdd]) n 0 (J', B', rdv') (by omega) ⟨i1, i2, i3⟩
  obtain ⟨⟨J2, B2, rdv2⟩, ⟨k1, k2, k3⟩, k4⟩ := key
  refine ⟨J2, B2, rdv2, fun kx i3 i4 i5 => ?_, fun kx => ?_, k1, k2, k3⟩
  · have := k4 (kx, i3, i4, i5, fun h => some ((), h)) FU (by unfold FU; omega)
    dsimp only at this
    injection this with this
    exact (Prod.mk.inj this).1
  · have := k4 (fun h => some (0, h), 0, 0, 0, kx) FU (by unfold FU; omega)
    dsimp only at this
    injection this with this
    exact (Prod.mk.inj this).2
theorem MKK.go (mk : MKK A J B G P W ru pu) (i1 : frJ J J') (i2 : frRB B B') (hp : p < P) (hn : n < 2000) : ∃ J2 B2 rdv2, fX12_goWith 45 (iN p) m (iN n) (encC I E L pr ot (encR J' B' M rdv' ru T)) = some ((), (encC I E L pr ot (encR J2 B2 M rdv2 ru T))) ∧ frJ J J2 ∧ frRB B B2 ∧ CP (psZ A pu G p (ldF (A 28) p m G) n) (B2 29) := by
  have h8 := mk.1.2.2.2.1
  have h6 := mk.1.2.2.2.2.1
  have hz := mk.2.2.2.1
  obtain ⟨X, l1, l2, l3⟩ := mk.layQ (I := I) (E := E) (L := L) (pr := pr) (ot := ot) (J' := J') (M := M) (rdv' := rdv') (T := T) i2
  have hG : J' 1 = iN G := (i1.rj 1 (by omega)).trans mk.1.1
  have key := lp_k (fun (kx : PH → Option (Unit × PH)) n' k (a : Nat → Int32) => fX12_goWith_L15 45 (iN p) m (iN n) kx n' (iN k) (encC I E L pr ot (encR J' (u1 B' 29 a) M rdv' ru T))) (fun kx a => kx (encC I E L pr ot (encR J' (u1 B' 29 a) M rdv' ru T))) (fun k a => CP (ldF (A 28) p m k) a) G
    (fun k a hk hi => by
      cases hb : hasB m k with
      | true =>
        have e4 : ldF (A 28) p m (k + 1) = upd (ldF (A 28) p m k) (32 + p * 8 + k) 0 := if_pos hb
        have e5 := r_hold (I := I) (E := E) (L := L) (pr := pr) (ot := ot) (J := J') (B := u1 B' 29 a) (M := M) (rdv := rdv') (ru := ru) (T := T) (oa := 61) (p := p) (g := k) (Or.inr rfl) (by omega) (by omega)
        have e6 : (u1 B' 29 a) (fb 61) = a := by rw [fb_61, u1_eq, if_pos rfl]
        rw [e6, fb_61, u1_u1] at e5
        refine ⟨hlA a p k, by rw [e4]; exact hi.hl (by omega) (by omega), fun kx n' => ?_⟩
        simp (disch := first | omega | assumption | (simp (disch := omega) only [iN_lit, iN_add, iN_mul, iN_pred, iN_pred', iN_lt, iN_le, iN_eq, iN_nat, nlt_t, nlt_f, nle_t, nle_f, neq_t, neq_f, List.length_nil, List.length_cons, or_false, false_or, or_self, not_false_eq_true, not_true_eq_false, ↓reduceIte, if_true, if_false, Bool.false_eq_true, Nat.reduceAdd])) only [fX12_goWith_L15, ↓brR_29, ↓brA_29, ↓brS_29, ↓brG_1, fX12_goWith_J43_15, ↓hb_some, ↓bd_some, ↓letE_eq, h_z0, h_z1, h_zi0, h_zi1, ↓hb_of e5, ↓hb_of (has_y hb), iN_lit, iN_add, iN_mul, iN_pred, iN_pred', iN_lt, iN_le, iN_eq, iN_nat, nlt_t, nlt_f, nle_t, nle_f, neq_t, neq_f, List.length_nil, List.length_cons, or_false, false_or, or_self, not_false_eq_true, not_true_eq_false, ↓reduceIte, if_true, if_false, Bool.false_eq_true, Nat.reduceAdd, hG]
      | false =>
        have e4 : ldF (A 28) p m (k + 1) = ldF (A 28) p m k := if_neg (by rw [hb]; decide)
        refine ⟨a, by rw [e4]; exact hi, fun kx n' => ?_⟩
        simp (disch := first | omega | assumption | (simp (disch := omega) only [iN_lit, iN_add, iN_mul, iN_pred, iN_pred', iN_lt, iN_le, iN_eq, iN_nat, nlt_t, nlt_f, nle_t, nle_f, neq_t, neq_f, List.length_nil, List.length_cons, or_false, false_or, or_self, not_false_eq_true, not_true_eq_false, ↓reduceIte, if_true, if_false, Bool.false_eq_true, Nat.reduceAdd])) only [fX12_goWith_L15, ↓brR_29, ↓brA_29, ↓brS_29, ↓brG_1, fX12_goWith_J43_15, ↓hb_some, ↓bd_some, ↓letE_eq, h_z0, h_z1, h_zi0, h_zi1, ↓hb_of (has_n hb), iN_lit, iN_add, iN_mul, iN_pred, iN_pred', iN_lt, iN_le, iN_eq, iN_nat, nlt_t, nlt_f, nle_t, nle_f, neq_t, neq_f, List.length_nil, List.length_cons, or_false, false_or, or_self, not_false_eq_true, not_true_eq_false, ↓reduceIte, if_true, if_false, Bool.false_eq_true, Nat.reduceAdd, hG])
    (fun a hi kx n' => by simp (disch := first | omega | assumption | (simp (disch := omega) only [iN_lit, iN_add, iN_mul, iN_pred, iN_pred', iN_lt, iN_le, iN_eq, iN_nat, nlt_t, nlt_f, nle_t, nle_f, neq_t, neq_f, List.length_nil, List.length_cons, or_false, false_or, or_self, not_false_eq_true, not_true_eq_false, ↓reduceIte, if_true, if_false, Bool.false_eq_true, Nat.reduceAdd])) only [fX12_goWith_L15, ↓brR_29, ↓brA_29, ↓brS_29, ↓brG_1, fX12_goWith_J43_15, ↓hb_of (has_y _), ↓hb_of (has_n _), ↓hb_of (r_hold _ _ _), ↓hb_some, ↓bd_some, ↓letE_eq, h_z0, h_z1, h_zi0, h_zi1, iN_lit, iN_add, iN_mul, iN_pred, iN_pred', iN_lt, iN_le, iN_eq, iN_nat, nlt_t, nlt_f, nle_t, nle_f, neq_t, neq_f, List.length_nil, List.length_cons, or_false, false_or, or_self, not_false_eq_true, not_true_eq_false, ↓reduceIte, if_true, if_false, Bool.false_eq_true, Nat.reduceAdd, hG]) G 0 X (by omega) l2
  obtain ⟨a, k1, k2⟩ := key
  have hzk := hz.ld (m := m) h8 h6 hp G (Nat.le_refl _)
  obtain ⟨J2, B2, rdv2, -, f1, f2, f3, f4⟩ := mk.alones (I := I) (E := E) (L := L) (pr := pr) (ot := ot) (J' := J') (B' := u1 B' 29 a) (M := M) (rdv' := rdv') (T := T) (n := n) i1 (i2.trans frRB.lay) (by rw [u1_eq, if_pos rfl]; exact k1) hzk hp hn
  refine ⟨J2, B2, rdv2, ?_, f2, f3, f4⟩
  have k3 := k2 (fun h4 => fX12_goWith_L52 45 (iN p) (iN n) (fun h5 => some ((), h5)) FU (0 : Int32) h4) FU (by unfold FU; omega)
  unfold fX12_goWith
  simp only [iN_lit] at k3 ⊢
  rw [brR_0, brR_29, hb_of l1, k3, f1]
theorem MKK.with_ (mk : MKK A J B G P W ru pu) (i1 : frJ J J') (i2 : frRB B B') (hp : p < P) (hn : n < 2000) : ∃ J2 B2 rdv2, fX12_hadWith 45 (iN p) m (iN n) (encC I E L pr ot (encR J' B' M rdv' ru T)) = some (wwS A pu G W p m n (A 28), (encC I E L pr ot (encR J2 B2 M rdv2 ru T))) ∧ frJ J J2 ∧ frRB B B2 := by
  have h8 := mk.1.2.2.2.1
  have h6 := mk.1.2.2.2.2.1
  obtain ⟨J2, B2, rdv2, f1, f2, f3, f4⟩ := mk.go (I := I) (E := E) (L := L) (pr := pr) (ot := ot) (M := M) (rdv' := rdv') (T := T) (m := m) (n := n) i1 i2 hp hn
  have g1 := mk.had (I := I) (E := E) (L := L) (pr := pr) (ot := ot) (M := M) (rdv' := rdv2) (T := T) f2.rj f3 f4 ((mk.2.2.2.1.ld (m := m) h8 h6 hp G (Nat.le_refl _)).ps h8 (by omega) n) hp
  refine ⟨J2, B2, rdv2, ?_, f2, f3⟩
  unfold fX12_hadWith
  rw [brK, hb_of f1, brR_29, brK, hb_of g1]
  rfl
theorem MKK.free (mk : MKK A J B G P W ru pu) (i1 : frRJ J J') (i2 : frRB B B') (hp : p < P) : fX12_free 45 (iN p) (encC I E L pr ot (encR J' B' M rdv' ru T)) = some (frS (A 28) G p, (encC I E L pr ot (encR J' B' M rdv' ru T))) := by
  have h8 := mk.1.2.2.2.1
  have h6 := mk.1.2.2.2.2.1
  have hG : J' 1 = iN G := (i1 1 (by omega)).trans mk.1.1
  have hc := mk.2.2.2.2
  have e0 : B' 0 = B 0 := i2 0 (by omega)
  refine lp_det (fun n k s => fX12_free_L4 45 (iN p) (fun x1 h2 => some (x1, h2)) n s (iN k) (encC I E L pr ot (encR J' B' M rdv' ru T))) (fun s => some (s, (encC I E L pr ot (encR J' B' M rdv' ru T)))) (bt (fun g => decide (0 < A 28 g) && !hdB (A 28) p g)) G ?_ ?_ FU (by unfold FU; omega)
  · intro k hk n
    have e2 : bt (fun g => decide (0 < A 28 g) && !hdB (A 28) p g) (k + 1) = bt (fun g => decide (0 < A 28 g) && !hdB (A 28) p g) k ||| (if (decide (0 < A 28 k) && !hdB (A 28) p k) = true then (1 : Int32) <<< (iN k &&& 31) else 0) := rfl
    have f1 : B 0 k = A 28 k := hc.1 k (by omega)
    have f2 := hc.has (show p < 6 by omega) (show k < 8 by omega)
    rw [e2]
    by_cases hs : 0 < A 28 k
    · have hs' : ¬ A 28 k ≤ iN 0 := by
        show ¬ A 28 k ≤ 0
        rw [nle_pos]; exact not_not_intro hs
      rw [decide_eq_true hs]
      cases hb : hdB (A 28) p k
      · rw [hb] at f2
        simp (disch := first | omega | assumption | (simp (disch := omega) only [iN_lit, iN_add, iN_mul, iN_pred, iN_pred', iN_lt, iN_le, iN_eq, iN_nat, nlt_t, nlt_f, nle_t, nle_f, neq_t, neq_f, List.length_nil, List.length_cons, or_false, false_or, or_self, not_false_eq_true, not_true_eq_false, ↓reduceIte, if_true, if_false, Bool.false_eq_true, Nat.reduceAdd])) only [fX12_free_L4, ↓brR_0, ↓brA_0, ↓brS_0, ↓brG_1, fX12_free_J45_4, fX12_free_J44_4, ↓hb_of (has_y _), ↓hb_of (has_n _), ↓hb_some, ↓bd_some, ↓letE_eq, h_z0, h_z1, h_zi0, h_zi1, iN_lit, iN_add, iN_mul, iN_pred, iN_pred', iN_lt, iN_le, iN_eq, iN_nat, nlt_t, nlt_f, nle_t, nle_f, neq_t, neq_f, List.length_nil, List.length_cons, or_false, false_or, or_self, not_false_eq_true, not_true_eq_false, ↓reduceIte, if_true, if_false, Bool.false_eq_true, Nat.reduceAdd, hG, e0, f1, hs', Bool.not_false, Bool.and_self]
      · rw [hb] at f2
        simp (disch := first | omega | assumption | (simp (disch := omega) only [iN_lit, iN_add, iN_mul, iN_pred, iN_pred', iN_lt, iN_le, iN_eq, iN_nat, nlt_t, nlt_f, nle_t, nle_f, neq_t, neq_f, List.length_nil, List.length_cons, or_false, false_or, or_self, not_false_eq_true, not_true_eq_false, ↓reduceIte, if_true, if_false, Bool.false_eq_true, Nat.reduceAdd])) only [fX12_free_L4, ↓brR_0, ↓brA_0, ↓brS_0, ↓brG_1, fX12_free_J45_4, fX12_free_J44_4, ↓hb_of (has_y _), ↓hb_of (has_n _), ↓hb_some, ↓bd_some, ↓letE_eq, h_z0, h_z1, h_zi0, h_zi1, iN_lit, iN_add, iN_mul, iN_pred, iN_pred', iN_lt, iN_le, iN_eq, iN_nat, nlt_t, nlt_f, nle_t, nle_f, neq_t, neq_f, List.length_nil, List.length_cons, or_false, false_or, or_self, not_false_eq_true, not_true_eq_false, ↓reduceIte, if_true, if_false, Bool.false_eq_true, Nat.reduceAdd, hG, e0, f1, hs', Bool.not_true, Bool.and_false]
    · have hs' : A 28 k ≤ iN 0 := by
        show A 28 k ≤ 0
        rw [nle_pos]; exact hs
      rw [decide_eq_false hs]
      simp (disch := first | omega | assumption | (simp (disch := omega) only [iN_lit, iN_add, iN_mul, iN_pred, iN_pred', iN_lt, iN_le, iN_eq, iN_nat, nlt_t, nlt_f, nle_t, nle_f, neq_t, neq_f, List.length_nil, List.length_cons, or_false, false_or, or_self, not_false_eq_true, not_true_eq_false, ↓reduceIte, if_true, if_false, Bool.false_eq_true, Nat.reduceAdd])) only [fX12_free_L4, ↓brR_0, ↓brA_0, ↓brS_0, ↓brG_1, fX12_free_J45_4, fX12_free_J44_4, ↓hb_of (has_y _), ↓hb_of (has_n _), ↓hb_some, ↓bd_some, ↓letE_eq, h_z0, h_z1, h_zi0, h_zi1, iN_lit, iN_add, iN_mul, iN_pred, iN_pred', iN_lt, iN_le, iN_eq, iN_nat, nlt_t, nlt_f, nle_t, nle_f, neq_t, neq_f, List.length_nil, List.length_cons, or_false, false_or, or_self, not_false_eq_true, not_true_eq_false, ↓reduceIte, if_true, if_false, Bool.false_eq_true, Nat.reduceAdd, hG, e0, f1, hs', Bool.false_and]
  · intro n
    simp (disch := first | omega | assumption | (simp (disch := omega) only [iN_lit, iN_add, iN_mul, iN_pred, iN_pred', iN_lt, iN_le, iN_eq, iN_nat, nlt_t, nlt_f, nle_t, nle_f, neq_t, neq_f, List.length_nil, List.length_cons, or_false, false_or, or_self, not_false_eq_true, not_true_eq_false, ↓reduceIte, if_true, if_false, Bool.false_eq_true, Nat.reduceAdd])) only [fX12_free_L4, ↓brR_0, ↓brA_0, ↓brS_0, ↓brG_1, fX12_free_J45_4, fX12_free_J44_4, ↓hb_of (has_y _), ↓hb_of (has_n _), ↓hb_some, ↓bd_some, ↓letE_eq, h_z0, h_z1, h_zi0, h_zi1, iN_lit, iN_add, iN_mul, iN_pred, iN_pred', iN_lt, iN_le, iN_eq, iN_nat, nlt_t, nlt_f, nle_t, nle_f, neq_t, neq_f, List.length_nil, List.length_cons, or_false, false_or, or_self, not_false_eq_true, not_true_eq_false, ↓reduceIte, if_true, if_false, Bool.false_eq_true, Nat.reduceAdd, hG]
theorem MKK.grades (mk : MKK A J B G P W ru pu) (i1 : frRJ J J') (i2 : frRB B B') : fX12_gradeOf 45 m (encC I E L pr ot (encR J' B' M rdv' ru T)) = some (grS A G m, (encC I E L pr ot (encR J' B' M rdv' ru T))) := by
  have h8 := mk.1.2.2.2.1
  have hG : J' 1 = iN G := (i1 1 (by omega)).trans mk.1.1
  refine lp_det (fun n k s => fX12_gradeOf_L4 45 m (fun x1 h2 => some (x1, h2)) n s (iN k) (encC I E L pr ot (encR J' B' M rdv' ru T))) (fun s => some (s, (encC I E L pr ot (encR J' B' M rdv' ru T)))) (sm (fun g => if hasB m g then A 12 g else 0)) G ?_ ?_ FU (by unfold FU; omega)
  · intro k hk n
    have e2 : sm (fun g => if hasB m g then A 12 g else 0) (k + 1) = sm (fun g => if hasB m g then A 12 g else 0) k + (if hasB m k then A 12 k else 0) := rfl
    have f1 : B' 4 k = A 12 k := by rw [i2 4 (by omega)]; exact mk.1.2.2.2.2.2.2.1 k hk
    rw [e2]
    cases hb : hasB m k
    · simp (disch := first | omega | assumption | (simp (disch := omega) only [iN_lit, iN_add, iN_mul, iN_pred, iN_pred', iN_lt, iN_le, iN_eq, iN_nat, nlt_t, nlt_f, nle_t, nle_f, neq_t, neq_f, List.length_nil, List.length_cons, or_false, false_or, or_self, not_false_eq_true, not_true_eq_false, ↓reduceIte, if_true, if_false, Bool.false_eq_true, Nat.reduceAdd])) only [fX12_gradeOf_L4, ↓brR_4, ↓brA_4, ↓brS_4, ↓brG_1, fX12_gradeOf_J31_4, ↓hb_some, ↓bd_some, ↓letE_eq, h_z0, h_z1, h_zi0, h_zi1, ↓hb_of (has_n hb), iN_lit, iN_add, iN_mul, iN_pred, iN_pred', iN_lt, iN_le, iN_eq, iN_nat, nlt_t, nlt_f, nle_t, nle_f, neq_t, neq_f, List.length_nil, List.length_cons, or_false, false_or, or_self, not_false_eq_true, not_true_eq_false, ↓reduceIte, if_true, if_false, Bool.false_eq_true, Nat.reduceAdd, hG]
    · simp (disch := first | omega | assumption | (simp (disch := omega) only [iN_lit, iN_add, iN_mul, iN_pred, iN_pred', iN_lt, iN_le, iN_eq, iN_nat, nlt_t, nlt_f, nle_t, nle_f, neq_t, neq_f, List.length_nil, List.length_cons, or_false, false_or, or_self, not_false_eq_true, not_true_eq_false, ↓reduceIte, if_true, if_false, Bool.false_eq_true, Nat.reduceAdd])) only [fX12_gradeOf_L4, ↓brR_4, ↓brA_4, ↓brS_4, ↓brG_1, fX12_gradeOf_J31_4, ↓hb_some, ↓bd_some, ↓letE_eq, h_z0, h_z1, h_zi0, h_zi1, ↓hb_of (has_y hb), iN_lit, iN_add, iN_mul, iN_pred, iN_pred', iN_lt, iN_le, iN_eq, iN_nat, nlt_t, nlt_f, nle_t, nle_f, neq_t, neq_f, List.length_nil, List.length_cons, or_false, false_or, or_self, not_false_eq_true, not_true_eq_false, ↓reduceIte, if_true, if_false, Bool.false_eq_true, Nat.reduceAdd, hG, f1]
  · intro n
    simp (disch := first | omega | assumption | (simp (disch := omega) only [iN_lit, iN_add, iN_mul, iN_pred, iN_pred', iN_lt, iN_le, iN_eq, iN_nat, nlt_t, nlt_f, nle_t, nle_f, neq_t, neq_f, List.length_nil, List.length_cons, or_false, false_or, or_self, not_false_eq_true, not_true_eq_false, ↓reduceIte, if_true, if_false, Bool.false_eq_true, Nat.reduceAdd])) only [fX12_gradeOf_L4, ↓brR_4, ↓brA_4, ↓brS_4, ↓brG_1, fX12_gradeOf_J31_4, ↓hb_of (has_y _), ↓hb_of (has_n _), ↓hb_some, ↓bd_some, ↓letE_eq, h_z0, h_z1, h_zi0, h_zi1, iN_lit, iN_add, iN_mul, iN_pred, iN_pred', iN_lt, iN_le, iN_eq, iN_nat, nlt_t, nlt_f, nle_t, nle_f, neq_t, neq_f, List.length_nil, List.length_cons, or_false, false_or, or_self, not_false_eq_true, not_true_eq_false, ↓reduceIte, if_true, if_false, Bool.false_eq_true, Nat.reduceAdd, hG]
end WI
