/-! SHARES: the class's share-out and gains -/
section GW
variable {I A E I' A' : Nat → Nat → Int32} {L L' : Nat → Int64} {pr ot s : Nat} {T : PH} {ga : Nat → Nat → Nat} {g q v w n p r f G P W K X Y st acc j R M b k t : Nat} {lf : Nat → Nat} {F : Nat → Nat} {pu : (Nat → Int32) → Int32}
theorem so2 (hG : I 11 9 = iN G) (h8 : G ≤ 8) (kx : PH → Option (Int32 × PH)) : ∃ A2, fX4_shareOut_L2 35 kx FU (iN 0) (encC I A L pr ot T) = kx (encC I A2 L pr ot T) ∧ (∀ x, x ≠ 42 → A2 x = A x) ∧ ∀ g, g < G → A2 42 g = A 28 g := by
  have key := lp_k (fun (_ : Unit) n' k (A1 : Nat → Nat → Int32) => fX4_shareOut_L2 35 kx n' (iN k) (encC I A1 L pr ot T)) (fun _ A1 => kx (encC I A1 L pr ot T)) (fun k A1 => (∀ x, x ≠ 42 → A1 x = A x) ∧ ∀ g, g < k → A1 42 g = A 28 g) G
    (fun k A1 hk hi => by
      obtain ⟨j1, j2⟩ := hi
      have f1 := c_stockOf (I := I) (A := A1) (L := L) (pr := pr) (ot := ot) (T := T) (o := 27) (g := k) (Or.inl rfl) (by omega)
      rw [show A1 (27 + 1) = A 28 from j1 28 (by decide)] at f1
      refine ⟨u1 A1 42 (upd (A1 42) k (A 28 k)), ⟨fun x hx => by rw [u1_o hx]; exact j1 x hx, fun g hg => ?_⟩, fun _ n' => ?_⟩
      · rw [u1_at, upd_if]
        by_cases e : g = k
        · rw [if_pos e, e]
        · rw [if_neg e]; exact j2 g (by omega)
      · simp (disch := first | omega | assumption | (simp (disch := omega) only [iN_lit, iN_add, iN_mul, iN_pred, iN_pred', iN_lt, iN_le, iN_eq, iN_nat, nlt_t, nlt_f, nle_t, nle_f, neq_t, neq_f, List.length_nil, List.length_cons, or_false, false_or, or_self, not_false_eq_true, not_true_eq_false, ↓reduceIte, if_true, if_false, Bool.false_eq_true, Nat.reduceAdd])) only [fX4_shareOut_L2, ↓bK_11, ↓zK _, ↓bR_35_0, ↓bR_35_10, ↓bA_42, ↓bS_42, ↓bN_42, ↓bR_35_1, fX4_shareOut_J91_50, ↓bK_9, ↓bR_35_3, ↓hb_of (c_groundSize), ↓hb_of (c_add _), ↓hb_some, ↓bd_some, ↓letE_eq, h_z0, h_z1, h_zi0, h_zi1, ↓hb_of f1, iN_lit, iN_add, iN_mul, iN_pred, iN_pred', iN_lt, iN_le, iN_eq, iN_nat, nlt_t, nlt_f, nle_t, nle_f, neq_t, neq_f, List.length_nil, List.length_cons, or_false, false_or, or_self, not_false_eq_true, not_true_eq_false, ↓reduceIte, if_true, if_false, Bool.false_eq_true, Nat.reduceAdd, hG])
    (fun A1 hi _ n' => by
      simp (disch := first | omega | assumption | (simp (disch := omega) only [iN_lit, iN_add, iN_mul, iN_pred, iN_pred', iN_lt, iN_le, iN_eq, iN_nat, nlt_t, nlt_f, nle_t, nle_f, neq_t, neq_f, List.length_nil, List.length_cons, or_false, false_or, or_self, not_false_eq_true, not_true_eq_false, ↓reduceIte, if_true, if_false, Bool.false_eq_true, Nat.reduceAdd])) only [fX4_shareOut_L2, ↓bK_11, ↓zK _, ↓bR_35_0, ↓bR_35_10, ↓bA_42, ↓bS_42, ↓bN_42, ↓bR_35_1, fX4_shareOut_J91_50, ↓bK_9, ↓bR_35_3, ↓hb_of (c_groundSize), ↓hb_of (c_add _), ↓hb_some, ↓bd_some, ↓letE_eq, h_z0, h_z1, h_zi0, h_zi1, iN_lit, iN_add, iN_mul, iN_pred, iN_pred', iN_lt, iN_le, iN_eq, iN_nat, nlt_t, nlt_f, nle_t, nle_f, neq_t, neq_f, List.length_nil, List.length_cons, or_false, false_or, or_self, not_false_eq_true, not_true_eq_false, ↓reduceIte, if_true, if_false, Bool.false_eq_true, Nat.reduceAdd, hG]) G 0 A (by omega) ⟨fun _ _ => rfl, fun g hg => absurd hg (Nat.not_lt_zero _)⟩
  obtain ⟨A2, ⟨k1, k2⟩, k3⟩ := key
  exact ⟨A2, k3 () FU (by unfold FU; omega), k1, k2⟩
theorem so50 (hG : I 11 9 = iN G) (hP : I 11 10 = iN P) (h8 : G ≤ 8) (h6 : P ≤ 6) (hga : ∀ q g, ga q g ≤ 100) (hlf : ∀ g, lf g < 1000) (e41 : ∀ p g, p < P → g < G → A 41 (p * 8 + g) = iN (ga p g)) (e42 : ∀ g, g < G → A' 42 g = iN (lf g)) (i1 : frD2 A A') (i2 : Int32) (kx : PH → Option (Int32 × PH)) :
    ∃ A2, fX4_shareOut_L50 35 i2 kx FU (iN (optR ga G P 0 lf)) (iN 0) (encC (u2 I 9 1 (iN 0)) A' L pr ot T) = kx (encC (u2 I 9 1 (iN P)) A2 (vL L (lnS ga G P lf) P) pr ot T) ∧ frD2 A A2 := by
  have key := lp_k (fun (_ : Unit) n' k (A1 : Nat → Nat → Int32) => fX4_shareOut_L50 35 i2 kx n' (iN (optR ga G (P - k) k (lfS ga G P lf k))) (iN k) (encC (u2 I 9 1 (iN k)) A1 (vL L (lnS ga G P lf) k) pr ot T)) (fun _ A1 => kx (encC (u2 I 9 1 (iN P)) A1 (vL L (lnS ga G P lf) P) pr ot T)) (fun k A1 => frD2 A A1 ∧ ∀ g, g < G → A1 42 g = iN (lfS ga G P lf k g)) P
    (fun k A1 hk hi => by
      obtain ⟨j1, j2⟩ := hi
      have c41 : ∀ p g, p < P → g < G → A1 41 (p * 8 + g) = iN (ga p g) := fun p g hp hg => by rw [j1 41 (by decide) (by decide) (by decide)]; exact e41 p g hp hg
      have hG' : u2 I 9 1 (iN k) 11 9 = iN G := by rw [u2_eq, if_neg (by decide)]; exact hG
      have hP' : u2 I 9 1 (iN k) 11 10 = iN P := by rw [u2_eq, if_neg (by decide)]; exact hP
      obtain ⟨A2, f1, f2, f3⟩ := lg_C (I := u2 I 9 1 (iN k)) (L := vL L (lnS ga G P lf) k) (pr := pr) (ot := ot) (T := T) (A := A1) (p := k) (lf := lfS ga G P lf k) hG' hP' h8 h6 hk hga (fun g _ => Nat.lt_of_le_of_lt (lfS_le k g) (hlf g)) c41 j2
      obtain ⟨v1, v2⟩ := ch_val (ga := ga) (G := G) (lf := lfS ga G P lf k) hk
      have hol := opt_le (G := G) (p := k) (r := P - k) (lf := lfS ga G P lf k) hga h8 (by omega)
      have f4 := c_add (I := I) (A := A2) (L := vL L (lnS ga G P lf) k) (pr := pr) (ot := ot) (T := T) (v := (lnS ga G P lf k).toInt64) (n := k) (by omega)
      refine ⟨A2, ⟨fun x x1 x2 x3 => (f2 x x1 x2 x3).trans (j1 x x1 x2 x3), f3⟩, fun _ n' => ?_⟩
      have eS : lfS ga G P lf (k + 1) = dcO (lfS ga G P lf k) (chO ga G (P - k - 1) k (lfS ga G P lf k)) := rfl
      have eV : vL L (lnS ga G P lf) (k + 1) = vp_updL (vL L (lnS ga G P lf) k) k (lnS ga G P lf k).toInt64 := rfl
      have eN : lnS ga G P lf k = eO (chO ga G (P - k - 1) k (lfS ga G P lf k)) := rfl
      rw [eS, eV]
      generalize vp_updL (vL L (lnS ga G P lf) k) k (lnS ga G P lf k).toInt64 = VL at f4 ⊢
      rw [eN] at f4
      generalize vL L (lnS ga G P lf) k = VL0 at f1 f4 ⊢
      generalize hch : chO ga G (P - k - 1) k (lfS ga G P lf k) = ch at *
      generalize optR ga G (P - (k + 1)) (k + 1) (dcO (lfS ga G P lf k) ch) = nx at v1 ⊢
      generalize optR ga G (P - k) k (lfS ga G P lf k) = cu at *
      cases ch with
      | none =>
        have e1 : eO none = -iN 1 := rfl
        rw [e1] at f1 f4
        have e2 : cu = nx := by rw [v1]; exact Nat.zero_add _
        have n1 : (iN 0 ≤ -iN 1) = False := eq_false (by decide)
        have n2 : iN cu - iN 0 = iN cu := iN_sub (Nat.zero_le _)
        rw [← e2]
        simp (disch := first | omega | assumption | (simp (disch := omega) only [iN_lit, iN_add, iN_mul, iN_pred, iN_pred', iN_lt, iN_le, iN_eq, iN_nat, nlt_t, nlt_f, nle_t, nle_f, neq_t, neq_f, List.length_nil, List.length_cons, or_false, false_or, or_self, not_false_eq_true, not_true_eq_false, ↓reduceIte, if_true, if_false, Bool.false_eq_true, Nat.reduceAdd])) only [fX4_shareOut_L50, ↓bK_11, ↓bK_35, ↓bR_35_0, ↓bR_35_9, ↓bA_41, ↓bS_41, ↓bN_41, fX4_shareOut_J91_50, ↓bK_9, ↓bR_35_3, ↓hb_of (c_personSize), ↓hb_some, ↓bd_some, ↓letE_eq, h_z0, h_z1, h_zi0, h_zi1, ↓hb_of f1, ↓hb_of f4, iN_lit, iN_add, iN_mul, iN_pred, iN_pred', iN_lt, iN_le, iN_eq, iN_nat, nlt_t, nlt_f, nle_t, nle_f, neq_t, neq_f, List.length_nil, List.length_cons, or_false, false_or, or_self, not_false_eq_true, not_true_eq_false, ↓reduceIte, if_true, if_false, Bool.false_eq_true, Nat.reduceAdd, hP', n1, n2]
      | some g =>
        have hg := v2 g rfl
        have e1 : eO (some g) = iN g := rfl
        rw [e1] at f1 f4
        have hgg := hga k g
        have e2 : cu = ga k g + nx := v1
        have n2 : iN cu - iN (ga k g) = iN nx := by rw [iN_sub (by omega)]; congr 1; omega
        have d41 : A2 41 (k * 8 + g) = iN (ga k g) := by rw [f2 41 (by decide) (by decide) (by decide)]; exact c41 k g hk hg
        simp (disch := first | omega | assumption | (simp (disch := omega) only [iN_lit, iN_add, iN_mul, iN_pred, iN_pred', iN_lt, iN_le, iN_eq, iN_nat, nlt_t, nlt_f, nle_t, nle_f, neq_t, neq_f, List.length_nil, List.length_cons, or_false, false_or, or_self, not_false_eq_true, not_true_eq_false, ↓reduceIte, if_true, if_false, Bool.false_eq_true, Nat.reduceAdd])) only [fX4_shareOut_L50, ↓bK_11, ↓bK_35, ↓bR_35_0, ↓bR_35_9, ↓bA_41, ↓bS_41, ↓bN_41, fX4_shareOut_J91_50, ↓bK_9, ↓bR_35_3, ↓hb_of (c_personSize), ↓hb_some, ↓bd_some, ↓letE_eq, h_z0, h_z1, h_zi0, h_zi1, ↓hb_of f1, ↓hb_of f4, iN_lit, iN_add, iN_mul, iN_pred, iN_pred', iN_lt, iN_le, iN_eq, iN_nat, nlt_t, nlt_f, nle_t, nle_f, neq_t, neq_f, List.length_nil, List.length_cons, or_false, false_or, or_self, not_false_eq_true, not_true_eq_false, ↓reduceIte, if_true, if_false, Bool.false_eq_true, Nat.reduceAdd, hP', d41, n2])
    (fun A1 hi _ n' => by
      have hP' : u2 I 9 1 (iN P) 11 10 = iN P := by rw [u2_eq, if_neg (by decide)]; exact hP
      generalize optR ga G (P - P) P (lfS ga G P lf P) = x
      generalize vL L (lnS ga G P lf) P = VL0
      simp (disch := first | omega | assumption | (simp (disch := omega) only [iN_lit, iN_add, iN_mul, iN_pred, iN_pred', iN_lt, iN_le, iN_eq, iN_nat, nlt_t, nlt_f, nle_t, nle_f, neq_t, neq_f, List.length_nil, List.length_cons, or_false, false_or, or_self, not_false_eq_true, not_true_eq_false, ↓reduceIte, if_true, if_false, Bool.false_eq_true, Nat.reduceAdd])) only [fX4_shareOut_L50, ↓bK_11, ↓bK_35, ↓bR_35_0, ↓bR_35_9, ↓bA_41, ↓bS_41, ↓bN_41, fX4_shareOut_J91_50, ↓bK_9, ↓bR_35_3, ↓hb_of (c_personSize), ↓hb_some, ↓bd_some, ↓letE_eq, h_z0, h_z1, h_zi0, h_zi1, iN_lit, iN_add, iN_mul, iN_pred, iN_pred', iN_lt, iN_le, iN_eq, iN_nat, nlt_t, nlt_f, nle_t, nle_f, neq_t, neq_f, List.length_nil, List.length_cons, or_false, false_or, or_self, not_false_eq_true, not_true_eq_false, ↓reduceIte, if_true, if_false, Bool.false_eq_true, Nat.reduceAdd, hP']) P 0 A' (by omega) ⟨i1, e42⟩
  obtain ⟨A2, ⟨k1, k2⟩, k3⟩ := key
  exact ⟨A2, k3 () FU (by unfold FU; omega), k1⟩
theorem so_C (hG : I 11 9 = iN G) (hP : I 11 10 = iN P) (h8 : G ≤ 8) (h6 : P ≤ 6) (hga : ∀ q g, ga q g ≤ 100) (hlf : ∀ g, lf g < 1000) (e41 : ∀ p g, p < P → g < G → A 41 (p * 8 + g) = iN (ga p g)) (e28 : ∀ g, g < G → A 28 g = iN (lf g)) :
    ∃ A2, fX4_shareOut 35 (encC I A L pr ot T) = some (iN (optR ga G P 0 lf), (encC (u2 I 9 1 (iN P)) A2 (vL L (lnS ga G P lf) P) pr ot T)) ∧ frD2 A A2 := by
  obtain ⟨A1, g1, g2, g3⟩ := so2 (I := I) (L := L) (pr := pr) (ot := ot) (T := T) (A := A) hG h8 (fun h1 => (h_ck 3 h1 35).bind fun _ => h_bd (fX4_mostGained 35 (0 : Int32) h1) fun x2 h3 => (h_gr 3 3 h3 35).bind fun q4 => (h_ck 2 h3 q4).bind fun _ => h_bd (fX3_start q4 h3) fun _ h5 => fX4_shareOut_L50 35 x2 (fun h6 => some (x2, h6)) FU x2 (0 : Int32) h5)
  obtain ⟨A2, m1, m2⟩ := mo_C (I := I) (L := L) (pr := pr) (ot := ot) (T := T) (A := A1) (lf := lf) (f := 0) (ga := ga) hG hP h8 h6 (by omega) hga (fun g _ => hlf g) (fun p g hp hg => by rw [g2 41 (by decide)]; exact e41 p g hp hg) (fun g hg => by rw [g3 g hg]; exact e28 g hg)
  rw [Nat.sub_zero] at m1
  have fr : frD2 A A2 := fun x x1 x2 x3 => (m2 x x2 x3).trans (g2 x x1)
  obtain ⟨A3, s1, s2⟩ := so50 (I := I) (L := L) (pr := pr) (ot := ot) (T := T) (A := A) (A' := A2) hG hP h8 h6 hga hlf e41 (fun g hg => by rw [m2 42 (by decide) (by decide), g3 g hg]; exact e28 g hg) fr (iN (optR ga G P 0 lf)) (fun h6 => some (iN (optR ga G P 0 lf), h6))
  refine ⟨A3, ?_, s2⟩
  refine g1.trans ?_
  generalize optR ga G P 0 lf = x at *
  refine Eq.trans ?_ s1
  have m1' : fX4_mostGained 35 (iN 0) (encC I A1 L pr ot T) = some (iN x, (encC I A2 L pr ot T)) := m1
  simp (disch := first | omega | assumption | (simp (disch := omega) only [iN_lit, iN_add, iN_mul, iN_pred, iN_pred', iN_lt, iN_le, iN_eq, iN_nat, nlt_t, nlt_f, nle_t, nle_f, neq_t, neq_f, List.length_nil, List.length_cons, or_false, false_or, or_self, not_false_eq_true, not_true_eq_false, ↓reduceIte, if_true, if_false, Bool.false_eq_true, Nat.reduceAdd])) only [fX4_shareOut, ↓bK_35, ↓bK_9, ↓bR_35_3, ↓hb_of (c_start), ↓hb_some, ↓bd_some, ↓letE_eq, h_z0, h_z1, h_zi0, h_zi1, ↓hb_of m1', ↓hb_of c_start, iN_lit, iN_add, iN_mul, iN_pred, iN_pred', iN_lt, iN_le, iN_eq, iN_nat, nlt_t, nlt_f, nle_t, nle_f, neq_t, neq_f, List.length_nil, List.length_cons, or_false, false_or, or_self, not_false_eq_true, not_true_eq_false, ↓reduceIte, if_true, if_false, Bool.false_eq_true, Nat.reduceAdd]
/-- so many of the first n -/
def pcN (f : Nat → Bool) (n : Nat) : Nat := cnT (fun k => decide (k < n) && f k) 6
theorem bc_pcN {f : Nat → Bool} (hn : n ≤ 6) : bc (bt f n) = iN (pcN f n) := by
  have key : ∀ a0 a1 a2 a3 a4 a5 : Bool, ∀ n : Fin 7, bc (bt (b8 a0 a1 a2 a3 a4 a5 false false) n.val) = iN (cnT (fun k => decide (k < n.val) && b8 a0 a1 a2 a3 a4 a5 false false k) 6) := by decide +kernel
  have h := key (f 0) (f 1) (f 2) (f 3) (f 4) (f 5) ⟨n, by omega⟩
  dsimp only at h
  have e1 : ∀ k, k < n → b8 (f 0) (f 1) (f 2) (f 3) (f 4) (f 5) false false k = f k := fun k hk => by
    rcases (show k = 0 ∨ k = 1 ∨ k = 2 ∨ k = 3 ∨ k = 4 ∨ k = 5 by omega) with e | e | e | e | e | e <;> subst e <;> rfl
  rw [bt_congr e1] at h
  rw [h]
  unfold pcN
  congr 2
  funext k
  by_cases hk : k < n
  · rw [e1 k hk]
  · rw [decide_eq_false hk]; rfl
theorem pcN_le {f : Nat → Bool} : pcN f n ≤ n := by
  unfold pcN
  have key : ∀ m, cnT (fun k => decide (k < n) && f k) m ≤ n ∧ cnT (fun k => decide (k < n) && f k) m ≤ m := by
    intro m
    induction m with
    | zero => exact ⟨Nat.zero_le _, Nat.le_refl _⟩
    | succ m ih =>
      show cnT (fun k => decide (k < n) && f k) m + (if (decide (m < n) && f m) = true then 1 else 0) ≤ n ∧ cnT (fun k => decide (k < n) && f k) m + (if (decide (m < n) && f m) = true then 1 else 0) ≤ m + 1
      by_cases e : m < n
      · split <;> omega
      · rw [decide_eq_false e, Bool.false_and, if_neg (by decide)]; omega
  exact (key 6).1
end GW
