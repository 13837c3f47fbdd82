/-! SHARES: the class's line -/
def vL (L : Nat → Int64) (e : Nat → Int32) : Nat → Nat → Int64
  | 0 => L
  | k + 1 => vp_updL (vL L e k) k (e k).toInt64
def rL (e : Nat → Int32) : Nat → List Int64
  | 0 => []
  | k + 1 => rL e k ++ [(e k).toInt64]
theorem rL_len {e : Nat → Int32} : ∀ k, (rL e k).length = k
  | 0 => rfl
  | k + 1 => by
    unfold rL
    rw [List.length_append, rL_len k]; rfl
theorem vL_C {L : Nat → Int64} {e : Nat → Int32} : ∀ k, rowC (iN k) (vL L e k) (rL e k)
  | 0 => row_0
  | k + 1 => row_s (vL_C k) (rL_len k).symm
theorem rL_congr {e e' : Nat → Int32} : ∀ k, (∀ q, q < k → e q = e' q) → rL e k = rL e' k
  | 0, _ => rfl
  | k + 1, h => by unfold rL; rw [rL_congr k (fun q hq => h q (by omega)), h k (by omega)]
def frD2 (A A' : Nat → Nat → Int32) : Prop := ∀ x, x ≠ 42 → x ≠ 43 → x ≠ 44 → A' x = A x
def lfS (ga : Nat → Nat → Nat) (G P : Nat) (lf : Nat → Nat) : Nat → Nat → Nat
  | 0 => lf
  | p + 1 => dcO (lfS ga G P lf p) (chO ga G (P - p - 1) p (lfS ga G P lf p))
def lnS (ga : Nat → Nat → Nat) (G P : Nat) (lf : Nat → Nat) (q : Nat) : Int32 := eO (chO ga G (P - q - 1) q (lfS ga G P lf q))
section GV
variable {I A E I' A' : Nat → Nat → Int32} {L L' : Nat → Int64} {pr ot s : Nat} {T : PH} {ga : Nat → Nat → Nat} {g q v w n p r f G P W K X Y st acc j R M b k t : Nat} {lf : Nat → Nat} {F : Nat → Nat}
theorem lfS_le : ∀ p x, lfS ga G P lf p x ≤ lf x
  | 0, _ => Nat.le_refl _
  | p + 1, x => by
    show dcO (lfS ga G P lf p) (chO ga G (P - p - 1) p (lfS ga G P lf p)) x ≤ lf x
    cases chO ga G (P - p - 1) p (lfS ga G P lf p) with
    | none => exact lfS_le p x
    | some g => exact Nat.le_trans dcL_le (lfS_le p x)
theorem lnR_S : ∀ r p, p + r = P → ∀ q, p ≤ q → q < P → lnR ga G r p (lfS ga G P lf p) q = lnS ga G P lf q
  | 0, p, h, q, h1, h2 => absurd h2 (by omega)
  | r + 1, p, h, q, h1, h2 => by
    show (if q = p then eO (chO ga G r p (lfS ga G P lf p)) else lnR ga G r (p + 1) (dcO (lfS ga G P lf p) (chO ga G r p (lfS ga G P lf p))) q) = _
    have e : P - p - 1 = r := by omega
    by_cases eq : q = p
    · rw [if_pos eq, eq]
      unfold lnS
      rw [e]
    · rw [if_neg eq]
      have := lnR_S r (p + 1) (by omega) q (by omega) h2
      rw [show lfS ga G P lf (p + 1) = dcO (lfS ga G P lf p) (chO ga G (P - p - 1) p (lfS ga G P lf p)) from rfl, e] at this
      exact this
theorem cl_pos : ∀ c g, clC F b c = some g → b < F g ∧ g < c
  | 0, g, h => by cases h
  | c + 1, g, h => by
    have h' : (if mxQ F b c < F c then some c else clC F b c) = some g := h
    by_cases e : mxQ F b c < F c
    · rw [if_pos e] at h'
      have hb := mxQ_b (f := F) (b := b) c
      cases h'
      exact ⟨by omega, by omega⟩
    · rw [if_neg e] at h'
      have := cl_pos c g h'
      exact ⟨this.1, by omega⟩
theorem opt_le (hga : ∀ q g, ga q g ≤ 100) (h8 : G ≤ 8) (h : p + r ≤ 6) : optR ga G r p lf ≤ 4800 := by
  have := Ach_le (K := 100) hga (opt_max (ga := ga) (G := G) r p lf h).1
  have h2 : G * (6 * 100) ≤ 8 * 600 := by omega
  omega
/-- what follows out of the choice -/
theorem ch_val (hp : p < P) : optR ga G (P - p) p lf = (match chO ga G (P - p - 1) p lf with | none => 0 | some g => ga p g) + optR ga G (P - (p + 1)) (p + 1) (dcO lf (chO ga G (P - p - 1) p lf)) ∧ ∀ g, chO ga G (P - p - 1) p lf = some g → g < G := by
  obtain ⟨r, hr⟩ : ∃ r, P - p = r + 1 := ⟨P - p - 1, by omega⟩
  rw [show P - p - 1 = r by omega, show P - (p + 1) = r by omega, hr]
  have e : optR ga G (r + 1) p lf = mxQ (gF ga G r p lf) (optR ga G r (p + 1) lf) G := rfl
  rw [e]
  have hc : chO ga G r p lf = clC (gF ga G r p lf) (optR ga G r (p + 1) lf) G := rfl
  have hp' := cl_pos (F := gF ga G r p lf) (b := optR ga G r (p + 1) lf) G
  rcases cl_or (F := gF ga G r p lf) (b := optR ga G r (p + 1) lf) G with ⟨h1, h2⟩ | ⟨g, h1, h2, h3⟩
  · rw [hc, h1]
    refine ⟨by rw [h2]; exact (Nat.zero_add _).symm, fun g hg => by cases hg⟩
  · rw [hc, h2]
    refine ⟨?_, fun g' hg => by cases hg; exact h1⟩
    have := (hp' g h2).1
    rw [h3]
    show gF ga G r p lf g = ga p g + optR ga G r (p + 1) (dcL lf g)
    by_cases l0 : 0 < lf g
    · exact if_pos l0
    · have z : gF ga G r p lf g = 0 := if_neg l0
      omega
theorem lg_L (hG : I 11 9 = iN G) (hP : I 11 10 = iN P) (h8 : G ≤ 8) (h6 : P ≤ 6) (hp : p < P) (hga : ∀ q g, ga q g ≤ 100) (hlf : ∀ g, g < G → lf g < 1000) (e41 : ∀ p g, p < P → g < G → A 41 (p * 8 + g) = iN (ga p g)) (hF : F = gF ga G (P - (p + 1)) p lf) (hb : b = optR ga G (P - (p + 1)) (p + 1) lf) (ht : t = mxQ F b G) (hbt : b < t) :
    ∀ n k A1, G < n + k → k ≤ G → frD2 A A1 → (∀ g, g < G → A1 42 g = iN (lf g)) → (∀ x, x < k → F x < t) → ∃ A2, fX4_leastGiven_L15 35 (iN p) (iN t) (fun h3 => some ((-1 : Int32), h3)) n (iN k) (encC I A1 L pr ot T) = some (eO (clC F b G), (encC I A2 L pr ot T)) ∧ frD2 A A2 ∧ ∀ g, g < G → A2 42 g = iN (dcO lf (clC F b G) g) := by
  have ht5 : t ≤ 4800 := by
    have := opt_le (G := G) (p := p) (r := P - (p + 1) + 1) (lf := lf) hga h8 (by omega)
    rw [ht, hF, hb]
    exact this
  intro n
  induction n with
  | zero => intro k A1 h1 h2; omega
  | succ n ih =>
    intro k A1 h1 h2 j1 j2 j3
    by_cases e : k = G
    · subst e
      exfalso
      rcases mxQ_or (f := F) (b := b) k with e | ⟨x, e1, e2⟩
      · omega
      · have := j3 x e1; omega
    · have hk : k < G := by omega
      have c41 : A1 41 (p * 8 + k) = iN (ga p k) := by rw [j1 41 (by decide) (by decide) (by decide)]; exact e41 p k hp hk
      have c42 := j2 k hk
      have hgk := hga p k
      have hlk := hlf k hk
      have hod := opt_dc (ga := ga) (G := G) (r := P - (p + 1)) (p := p + 1) (lf := lf) (g := k) (by omega)
      have hfk : F k = if 0 < lf k then ga p k + optR ga G (P - (p + 1)) (p + 1) (dcL lf k) else 0 := by rw [hF]; rfl
      have hfm : F k ≤ t := by rw [ht]; exact mxQ_f G hk
      have next : ∀ A1', frD2 A A1' → (∀ g, g < G → A1' 42 g = iN (lf g)) → F k < t → _ := fun A1' a b c => ih (k + 1) A1' (by omega) (by omega) a b (fun x hx => by
        by_cases ex : x = k
        · rw [ex]; exact c
        · exact j3 x (by omega))
      by_cases g0 : ga p k = 0
      · obtain ⟨A2, f1, f2⟩ := next A1 j1 j2 (by rw [hfk]; split <;> omega)
        refine ⟨A2, ?_, f2⟩
        rw [g0] at c41
        simp (disch := first | omega | assumption | (simp (disch := omega) only [iN_lit, iN_add, iN_mul, iN_pred, iN_pred', iN_lt, iN_le, iN_eq, iN_nat, nlt_t, nlt_f, nle_t, nle_f, neq_t, neq_f, List.length_nil, List.length_cons, or_false, false_or, or_self, not_false_eq_true, not_true_eq_false, ↓reduceIte, if_true, if_false, Bool.false_eq_true, Nat.reduceAdd])) only [fX4_leastGiven_L15, ↓bK_11, ↓bK_35, ↓bR_35_0, ↓bR_35_9, ↓bA_41, ↓bS_41, ↓bN_41, ↓bR_35_10, ↓bA_42, ↓bS_42, ↓bN_42, fX4_leastGiven_J89_15, ↓hb_of (c_groundSize), ↓hb_some, ↓bd_some, ↓letE_eq, h_z0, h_z1, h_zi0, h_zi1, iN_lit, iN_add, iN_mul, iN_pred, iN_pred', iN_lt, iN_le, iN_eq, iN_nat, nlt_t, nlt_f, nle_t, nle_f, neq_t, neq_f, List.length_nil, List.length_cons, or_false, false_or, or_self, not_false_eq_true, not_true_eq_false, ↓reduceIte, if_true, if_false, Bool.false_eq_true, Nat.reduceAdd, hG, c41]
        exact f1
      · have n1 : (iN (ga p k) ≤ iN 0) = False := eq_false (by rw [iN_le (by omega) (by omega)]; omega)
        by_cases l0 : 0 < lf k
        · rw [if_pos l0] at hfk
          have n2 : (iN (lf k) ≤ iN 0) = False := eq_false (by rw [iN_le (by omega) (by omega)]; omega)
          have n3 : iN (lf k) - iN 1 = iN (lf k - 1) := iN_sub (by omega)
          obtain ⟨A3, m1, m2⟩ := mo_C (I := I) (L := L) (pr := pr) (ot := ot) (T := T) (A := u1 A1 42 (upd (A1 42) k (iN (lf k - 1)))) (lf := dcL lf k) (f := p + 1) (ga := ga) hG hP h8 h6 (by omega) hga (fun g hg => Nat.lt_of_le_of_lt dcL_le (hlf g hg)) (fun q g hq hg => by rw [u1_o (by decide), j1 41 (by decide) (by decide) (by decide)]; exact e41 q g hq hg) (fun g hg => by
            rw [u1_at, upd_if]
            unfold dcL
            by_cases eg : g = k
            · rw [if_pos eg, if_pos eg, eg]
            · rw [if_neg eg, if_neg eg]; exact j2 g hg)
          have hol := opt_le (G := G) (p := p + 1) (r := P - (p + 1)) (lf := dcL lf k) hga h8 (by omega)
          generalize hopt : optR ga G (P - (p + 1)) (p + 1) (dcL lf k) = op at m1 hfk hol
          generalize hgn : ga p k = gn at *
          have a42 : ∀ g, A3 42 g = upd (A1 42) k (iN (lf k - 1)) g := fun g => by rw [m2 42 (by decide) (by decide), u1_at]
          by_cases eqt : gn + op = t
          · have hcl := cl_some (F := F) (b := b) (k := k) (G := G) (by rw [← ht]; exact hbt) hk (fun x hx => by rw [← ht]; exact j3 x hx) (by rw [← ht]; omega) G hk (Nat.le_refl _)
            refine ⟨A3, ?_, fun x x1 x2 x3 => by rw [m2 x x2 x3, u1_o x1]; exact j1 x x1 x2 x3, fun g hg => ?_⟩
            · rw [hcl]
              have q1 : (iN (gn + op) = iN t) = True := by rw [eqt]; exact eq_true rfl
              simp (disch := first | omega | assumption | (simp (disch := omega) only [iN_lit, iN_add, iN_mul, iN_pred, iN_pred', iN_lt, iN_le, iN_eq, iN_nat, nlt_t, nlt_f, nle_t, nle_f, neq_t, neq_f, List.length_nil, List.length_cons, or_false, false_or, or_self, not_false_eq_true, not_true_eq_false, ↓reduceIte, if_true, if_false, Bool.false_eq_true, Nat.reduceAdd])) only [fX4_leastGiven_L15, ↓bK_11, ↓bK_35, ↓bR_35_0, ↓bR_35_9, ↓bA_41, ↓bS_41, ↓bN_41, ↓bR_35_10, ↓bA_42, ↓bS_42, ↓bN_42, fX4_leastGiven_J89_15, ↓hb_of (c_groundSize), ↓hb_some, ↓bd_some, ↓letE_eq, h_z0, h_z1, h_zi0, h_zi1, ↓hb_of m1, iN_lit, iN_add, iN_mul, iN_pred, iN_pred', iN_lt, iN_le, iN_eq, iN_nat, nlt_t, nlt_f, nle_t, nle_f, neq_t, neq_f, List.length_nil, List.length_cons, or_false, false_or, or_self, not_false_eq_true, not_true_eq_false, ↓reduceIte, if_true, if_false, Bool.false_eq_true, Nat.reduceAdd, hG, c41, c42, n1, n2, n3, q1]
              rfl
            · rw [a42, hcl, upd_if]
              show _ = iN (dcL lf k g)
              unfold dcL
              by_cases eg : g = k
              · rw [if_pos eg, if_pos eg, eg]
              · rw [if_neg eg, if_neg eg]; exact j2 g hg
          · have q1 : (iN (gn + op) = iN t) = False := eq_false (by rw [iN_eq (by omega) (by omega)]; exact eqt)
            have n4 : iN (lf k - 1) + iN 1 = iN (lf k) := by rw [iN_add]; congr 1; omega
            have b42 : A3 42 k = iN (lf k - 1) := by rw [a42, upd_eq]
            obtain ⟨A2, f1, f2⟩ := next (u1 A3 42 (upd (A3 42) k (iN (lf k)))) (fun x x1 x2 x3 => by rw [u1_o x1, m2 x x2 x3, u1_o x1]; exact j1 x x1 x2 x3) (fun g hg => by
              rw [u1_at, upd_if]
              by_cases eg : g = k
              · rw [if_pos eg, eg]
              · rw [if_neg eg, a42, upd_if, if_neg eg]; exact j2 g hg) (by omega)
            refine ⟨A2, ?_, f2⟩
            simp (disch := first | omega | assumption | (simp (disch := omega) only [iN_lit, iN_add, iN_mul, iN_pred, iN_pred', iN_lt, iN_le, iN_eq, iN_nat, nlt_t, nlt_f, nle_t, nle_f, neq_t, neq_f, List.length_nil, List.length_cons, or_false, false_or, or_self, not_false_eq_true, not_true_eq_false, ↓reduceIte, if_true, if_false, Bool.false_eq_true, Nat.reduceAdd])) only [fX4_leastGiven_L15, ↓bK_11, ↓bK_35, ↓bR_35_0, ↓bR_35_9, ↓bA_41, ↓bS_41, ↓bN_41, ↓bR_35_10, ↓bA_42, ↓bS_42, ↓bN_42, fX4_leastGiven_J89_15, ↓hb_of (c_groundSize), ↓hb_some, ↓bd_some, ↓letE_eq, h_z0, h_z1, h_zi0, h_zi1, ↓hb_of m1, iN_lit, iN_add, iN_mul, iN_pred, iN_pred', iN_lt, iN_le, iN_eq, iN_nat, nlt_t, nlt_f, nle_t, nle_f, neq_t, neq_f, List.length_nil, List.length_cons, or_false, false_or, or_self, not_false_eq_true, not_true_eq_false, ↓reduceIte, if_true, if_false, Bool.false_eq_true, Nat.reduceAdd, hG, c41, c42, n1, n2, n3, q1, b42, n4]
            exact f1
        · rw [if_neg l0] at hfk
          obtain ⟨A2, f1, f2⟩ := next A1 j1 j2 (by omega)
          refine ⟨A2, ?_, f2⟩
          rw [show lf k = 0 by omega] at c42
          simp (disch := first | omega | assumption | (simp (disch := omega) only [iN_lit, iN_add, iN_mul, iN_pred, iN_pred', iN_lt, iN_le, iN_eq, iN_nat, nlt_t, nlt_f, nle_t, nle_f, neq_t, neq_f, List.length_nil, List.length_cons, or_false, false_or, or_self, not_false_eq_true, not_true_eq_false, ↓reduceIte, if_true, if_false, Bool.false_eq_true, Nat.reduceAdd])) only [fX4_leastGiven_L15, ↓bK_11, ↓bK_35, ↓bR_35_0, ↓bR_35_9, ↓bA_41, ↓bS_41, ↓bN_41, ↓bR_35_10, ↓bA_42, ↓bS_42, ↓bN_42, fX4_leastGiven_J89_15, ↓hb_of (c_groundSize), ↓hb_some, ↓bd_some, ↓letE_eq, h_z0, h_z1, h_zi0, h_zi1, iN_lit, iN_add, iN_mul, iN_pred, iN_pred', iN_lt, iN_le, iN_eq, iN_nat, nlt_t, nlt_f, nle_t, nle_f, neq_t, neq_f, List.length_nil, List.length_cons, or_false, false_or, or_self, not_false_eq_true, not_true_eq_false, ↓reduceIte, if_true, if_false, Bool.false_eq_true, Nat.reduceAdd, hG, c41, n1, c42]
          exact f1
theorem lg_C (hG : I 11 9 = iN G) (hP : I 11 10 = iN P) (h8 : G ≤ 8) (h6 : P ≤ 6) (hp : p < P) (hga : ∀ q g, ga q g ≤ 100) (hlf : ∀ g, g < G → lf g < 1000) (e41 : ∀ p g, p < P → g < G → A 41 (p * 8 + g) = iN (ga p g)) (e42 : ∀ g, g < G → A 42 g = iN (lf g)) :
    ∃ A2, fX4_leastGiven 35 (iN p) (iN (optR ga G (P - p) p lf)) (encC I A L pr ot T) = some (eO (chO ga G (P - p - 1) p lf), (encC I A2 L pr ot T)) ∧ frD2 A A2 ∧ ∀ g, g < G → A2 42 g = iN (dcO lf (chO ga G (P - p - 1) p lf) g) := by
  obtain ⟨A1, m1, m2⟩ := mo_C (I := I) (L := L) (pr := pr) (ot := ot) (T := T) (A := A) (lf := lf) (f := p + 1) (ga := ga) hG hP h8 h6 (by omega) hga hlf e41 e42
  have hol := opt_le (G := G) (p := p + 1) (r := P - (p + 1)) (lf := lf) hga h8 (by omega)
  have hol2 := opt_le (G := G) (p := p) (r := P - p) (lf := lf) hga h8 (by omega)
  have e : optR ga G (P - p) p lf = mxQ (gF ga G (P - (p + 1)) p lf) (optR ga G (P - (p + 1)) (p + 1) lf) G := by
    rw [show P - p = (P - (p + 1)) + 1 by omega]; rfl
  rw [show P - p - 1 = P - (p + 1) by omega]
  have hb := mxQ_b (f := gF ga G (P - (p + 1)) p lf) (b := optR ga G (P - (p + 1)) (p + 1) lf) G
  have fr1 : frD2 A A1 := fun x _ x2 x3 => m2 x x2 x3
  have a42 : ∀ g, g < G → A1 42 g = iN (lf g) := fun g hg => by rw [m2 42 (by decide) (by decide)]; exact e42 g hg
  by_cases eb : optR ga G (P - (p + 1)) (p + 1) lf = optR ga G (P - p) p lf
  · have hc : chO ga G (P - (p + 1)) p lf = none := cl_none (by rw [← e]; exact eb.symm) G (Nat.le_refl _)
    rw [hc]
    refine ⟨A1, ?_, fr1, a42⟩
    rw [← eb]
    generalize optR ga G (P - (p + 1)) (p + 1) lf = x at m1
    simp (disch := first | omega | assumption | (simp (disch := omega) only [iN_lit, iN_add, iN_mul, iN_pred, iN_pred', iN_lt, iN_le, iN_eq, iN_nat, nlt_t, nlt_f, nle_t, nle_f, neq_t, neq_f, List.length_nil, List.length_cons, or_false, false_or, or_self, not_false_eq_true, not_true_eq_false, ↓reduceIte, if_true, if_false, Bool.false_eq_true, Nat.reduceAdd])) only [fX4_leastGiven, ↓bK_35, fX4_leastGiven_J89_15, ↓hb_some, ↓bd_some, ↓letE_eq, h_z0, h_z1, h_zi0, h_zi1, ↓hb_of m1, iN_lit, iN_add, iN_mul, iN_pred, iN_pred', iN_lt, iN_le, iN_eq, iN_nat, nlt_t, nlt_f, nle_t, nle_f, neq_t, neq_f, List.length_nil, List.length_cons, or_false, false_or, or_self, not_false_eq_true, not_true_eq_false, ↓reduceIte, if_true, if_false, Bool.false_eq_true, Nat.reduceAdd]
    rfl
  · obtain ⟨A2, f1, f2, f3⟩ := lg_L (I := I) (L := L) (pr := pr) (ot := ot) (T := T) hG hP h8 h6 hp hga hlf e41 rfl rfl e (by omega) FU 0 A1 (by unfold FU; omega) (Nat.zero_le _) fr1 a42 (fun x hx => absurd hx (Nat.not_lt_zero _))
    refine ⟨A2, ?_, f2, f3⟩
    have q1 : (iN (optR ga G (P - (p + 1)) (p + 1) lf) = iN (optR ga G (P - p) p lf)) = False := eq_false (by rw [iN_eq (by omega) (by omega)]; exact eb)
    generalize optR ga G (P - p) p lf = t at *
    generalize optR ga G (P - (p + 1)) (p + 1) lf = x at m1 q1
    simp (disch := first | omega | assumption | (simp (disch := omega) only [iN_lit, iN_add, iN_mul, iN_pred, iN_pred', iN_lt, iN_le, iN_eq, iN_nat, nlt_t, nlt_f, nle_t, nle_f, neq_t, neq_f, List.length_nil, List.length_cons, or_false, false_or, or_self, not_false_eq_true, not_true_eq_false, ↓reduceIte, if_true, if_false, Bool.false_eq_true, Nat.reduceAdd])) only [fX4_leastGiven, ↓bK_35, fX4_leastGiven_J89_15, ↓hb_some, ↓bd_some, ↓letE_eq, h_z0, h_z1, h_zi0, h_zi1, ↓hb_of m1, iN_lit, iN_add, iN_mul, iN_pred, iN_pred', iN_lt, iN_le, iN_eq, iN_nat, nlt_t, nlt_f, nle_t, nle_f, neq_t, neq_f, List.length_nil, List.length_cons, or_false, false_or, or_self, not_false_eq_true, not_true_eq_false, ↓reduceIte, if_true, if_false, Bool.false_eq_true, Nat.reduceAdd, q1]
    exact f1
end GV
