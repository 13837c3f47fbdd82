/-! CALLS: covers (2) -/
section CX
variable {I A E I' A' : Nat → Nat → Int32} {L L' : Nat → Int64} {pr ot s : Nat} {J J' : Nat → Int32} {B B' : Nat → Nat → Int32} {M M' : Nat → Int64} {rdv rdv' : Value} {ru : Nat} {T : PH} {G P W p q g n nr sz ro oa w t k N : Nat} {Z Z' R X a : Nat → Int32} {x y z i2 m acc : Int32} {out : Nat → Int64} {pu : (Nat → Int32) → Int32}
theorem frRB.w40 {X : Nat → Int32} (h : frRB B B') : frRB B (u1 B' 40 X) := fun x hx => by rw [u1_eq, if_neg (by omega)]; exact h x hx
theorem cov12_M (mk : MKK A J B G P W ru pu) (hp : p < P) (hn : n ≤ 20) (i1 : frJ J J') (i2 : frRB B B') :
    ∃ J2 B2 rdv2, (∀ kx : PH → Option (Unit × PH), fX12_layServed_L12 45 (iN n) (iN p) kx FU (iN 0) (encC I E L pr ot (encR J' B' M rdv' ru T)) = kx (encC I E L pr ot (encR J2 B2 M rdv2 ru T))) ∧ frJ J J2 ∧ frRB B B2 ∧ (∀ x, x < 9 * p → B2 40 x = B' 40 x) ∧ ∀ g, g < G → B2 40 (9 * p + g) = svT A pu G W n p g := by
  have h8 := mk.1.2.2.2.1
  have h6 := mk.1.2.2.2.2.1
  have key := lp_k (fun (kx : PH → Option (Unit × PH)) n' k (q : (Nat → Int32) × (Nat → Nat → Int32) × Value) => fX12_layServed_L12 45 (iN n) (iN p) kx n' (iN k) (encC I E L pr ot (encR (q.1) (q.2.1) M (q.2.2) ru T))) (fun kx q => kx (encC I E L pr ot (encR (q.1) (q.2.1) M (q.2.2) ru T))) (fun k q => frJ J q.1 ∧ frRB B q.2.1 ∧ (∀ x, x < 9 * p → q.2.1 40 x = B' 40 x) ∧ ∀ g, g < k → q.2.1 40 (9 * p + g) = svT A pu G W n p g) G
    (fun k q hk hi => by
      obtain ⟨J1, B1, rdv1⟩ := q
      obtain ⟨j1, j2, j3, j4⟩ := hi
      dsimp only at j1 j2 j3 j4
      have hG : J1 1 = iN G := (j1.rj 1 (by omega)).trans mk.1.1
      have hh : hasB (B1 0 (32 + p)) k = hdB (A 28) p k := by
        rw [j2 0 (by omega)]
        exact mk.2.2.2.2.has (show p < 6 by omega) (show k < 8 by omega)
      cases hb : hdB (A 28) p k with
      | true =>
        rw [hb] at hh
        have e2 : svT A pu G W n p k = 0 := by unfold svT; rw [hb]; rfl
        refine ⟨(J1, u1 B1 40 (upd (B1 40) (9 * p + k) 0), rdv1), ⟨j1, j2.w40, fun x hx => ?_, fun g hg => ?_⟩, fun kx n' => ?_⟩
        · dsimp only
          rw [u1_eq, if_pos rfl, upd_if, if_neg (by omega)]; exact j3 x hx
        · dsimp only
          rw [u1_eq, if_pos rfl, upd_if]
          by_cases h : g = k
          · rw [h, if_pos rfl, e2]
          · rw [if_neg (by omega)]; exact j4 g (by omega)
        · dsimp only
          simp (disch := first | omega | assumption | (simp (disch := omega) only [iN_lit, iN_add, iN_mul, iN_pred, iN_pred', iN_lt, iN_le, iN_eq, iN_nat, nlt_t, nlt_f, nle_t, nle_f, neq_t, neq_f, List.length_nil, List.length_cons, or_false, false_or, or_self, not_false_eq_true, not_true_eq_false, ↓reduceIte, if_true, if_false, Bool.false_eq_true, Nat.reduceAdd])) only [fX12_layServed_L12, ↓brK, ↓brR_40, ↓brA_40, ↓brS_40, ↓brR_0, ↓brA_0, ↓brS_0, ↓brG_1, fX12_layServed_J59_12, ↓hb_some, ↓bd_some, ↓letE_eq, h_z0, h_z1, h_zi0, h_zi1, ↓hb_of (has_y hh), iN_lit, iN_add, iN_mul, iN_pred, iN_pred', iN_lt, iN_le, iN_eq, iN_nat, nlt_t, nlt_f, nle_t, nle_f, neq_t, neq_f, List.length_nil, List.length_cons, or_false, false_or, or_self, not_false_eq_true, not_true_eq_false, ↓reduceIte, if_true, if_false, Bool.false_eq_true, Nat.reduceAdd, hG]
      | false =>
        rw [hb] at hh
        have e2 : svT A pu G W n p k = wwS A pu G W p ((1 : Int32) <<< (iN k &&& 31)) n (A 28) := by unfold svT; rw [hb]; rfl
        obtain ⟨J2, B2, rdv2, f1, f2, f3, f4⟩ := mk.with2 (I := I) (E := E) (L := L) (pr := pr) (ot := ot) (M := M) (rdv' := rdv1) (T := T) (m := (1 : Int32) <<< (iN k &&& 31)) (n := n) j1 j2 hp (by omega)
        have e40 : B2 40 = B1 40 := f4 40 (by decide) (by decide) (by decide)
        refine ⟨(J2, u1 B2 40 (upd (B2 40) (9 * p + k) (svT A pu G W n p k)), rdv2), ⟨f2, f3.w40, fun x hx => ?_, fun g hg => ?_⟩, fun kx n' => ?_⟩
        · dsimp only
          rw [u1_eq, if_pos rfl, upd_if, if_neg (by omega), e40]; exact j3 x hx
        · dsimp only
          rw [u1_eq, if_pos rfl, upd_if]
          by_cases h : g = k
          · rw [h, if_pos rfl]
          · rw [if_neg (by omega), e40]; exact j4 g (by omega)
        · dsimp only
          rw [e2]
          simp only [iN_lit] at f1
          simp (disch := first | omega | assumption | (simp (disch := omega) only [iN_lit, iN_add, iN_mul, iN_pred, iN_pred', iN_lt, iN_le, iN_eq, iN_nat, nlt_t, nlt_f, nle_t, nle_f, neq_t, neq_f, List.length_nil, List.length_cons, or_false, false_or, or_self, not_false_eq_true, not_true_eq_false, ↓reduceIte, if_true, if_false, Bool.false_eq_true, Nat.reduceAdd])) only [fX12_layServed_L12, ↓brK, ↓brR_40, ↓brA_40, ↓brS_40, ↓brR_0, ↓brA_0, ↓brS_0, ↓brG_1, fX12_layServed_J59_12, ↓hb_some, ↓bd_some, ↓letE_eq, h_z0, h_z1, h_zi0, h_zi1, ↓hb_of (has_n hh), ↓hb_of f1, iN_lit, iN_add, iN_mul, iN_pred, iN_pred', iN_lt, iN_le, iN_eq, iN_nat, nlt_t, nlt_f, nle_t, nle_f, neq_t, neq_f, List.length_nil, List.length_cons, or_false, false_or, or_self, not_false_eq_true, not_true_eq_false, ↓reduceIte, if_true, if_false, Bool.false_eq_true, Nat.reduceAdd, hG])
    (fun q hi kx n' => by
      obtain ⟨J1, B1, rdv1⟩ := q
      have hG : J1 1 = iN G := (hi.1.rj 1 (by omega)).trans mk.1.1
      dsimp only
      simp (disch := first | omega | assumption | (simp (disch := omega) only [iN_lit, iN_add, iN_mul, iN_pred, iN_pred', iN_lt, iN_le, iN_eq, iN_nat, nlt_t, nlt_f, nle_t, nle_f, neq_t, neq_f, List.length_nil, List.length_cons, or_false, false_or, or_self, not_false_eq_true, not_true_eq_false, ↓reduceIte, if_true, if_false, Bool.false_eq_true, Nat.reduceAdd])) only [fX12_layServed_L12, ↓brK, ↓brR_40, ↓brA_40, ↓brS_40, ↓brR_0, ↓brA_0, ↓brS_0, ↓brG_1, fX12_layServed_J59_12, ↓hb_of (has_y _), ↓hb_of (has_n _), ↓hb_some, ↓bd_some, ↓letE_eq, h_z0, h_z1, h_zi0, h_zi1, iN_lit, iN_add, iN_mul, iN_pred, iN_pred', iN_lt, iN_le, iN_eq, iN_nat, nlt_t, nlt_f, nle_t, nle_f, neq_t, neq_f, List.length_nil, List.length_cons, or_false, false_or, or_self, not_false_eq_true, not_true_eq_false, ↓reduceIte, if_true, if_false, Bool.false_eq_true, Nat.reduceAdd, hG]) G 0 (J', B', rdv') (by omega) ⟨i1, i2, fun _ _ => rfl, fun g hg => absurd hg (Nat.not_lt_zero _)⟩
  obtain ⟨⟨J2, B2, rdv2⟩, ⟨k1, k2, k3, k5⟩, k4⟩ := key
  exact ⟨J2, B2, rdv2, fun kx => k4 kx FU (by unfold FU; omega), k1, k2, k3, k5⟩
theorem cov2_M (mk : MKK A J B G P W ru pu) (hn : n ≤ 20) (i1 : frJ J J') (i2 : frRB B B') :
    ∃ J2 B2 rdv2, fX12_layServed 45 (iN n) (encC I E L pr ot (encR J' B' M rdv' ru T)) = some ((), (encC I E L pr ot (encR J2 B2 M rdv2 ru T))) ∧ frJ J J2 ∧ frRB B B2 ∧ ∀ p g, p < P → g < G → B2 40 (9 * p + g) = svT A pu G W n p g := by
  have h8 := mk.1.2.2.2.1
  have h6 := mk.1.2.2.2.2.1
  have key := lp_k (fun (_ : Unit) n' k (q : (Nat → Int32) × (Nat → Nat → Int32) × Value) => fX12_layServed_L2 45 (iN n) (fun h1 => some ((), h1)) n' (iN k) (encC I E L pr ot (encR (q.1) (q.2.1) M (q.2.2) ru T))) (fun _ q => some ((), (encC I E L pr ot (encR (q.1) (q.2.1) M (q.2.2) ru T)))) (fun k q => frJ J q.1 ∧ frRB B q.2.1 ∧ ∀ p g, p < k → g < G → q.2.1 40 (9 * p + g) = svT A pu G W n p g) P
    (fun k q hk hi => by
      obtain ⟨J1, B1, rdv1⟩ := q
      obtain ⟨j1, j2, j3⟩ := hi
      dsimp only at j1 j2 j3
      have hP : J1 2 = iN P := (j1.rj 2 (by omega)).trans mk.1.2.1
      obtain ⟨J2, B2, rdv2, f1, f2, f3, f4, f5⟩ := cov12_M (I := I) (E := E) (L := L) (pr := pr) (ot := ot) (M := M) (rdv' := rdv1) (T := T) (n := n) mk hk hn j1 j2
      obtain ⟨J3, B3, rdv3, g1, g2, g3, g4⟩ := mk.with2 (I := I) (E := E) (L := L) (pr := pr) (ot := ot) (M := M) (rdv' := rdv2) (T := T) (m := 0) (n := n) f2 f3 hk (by omega)
      have e40 : B3 40 = B2 40 := g4 40 (by decide) (by decide) (by decide)
      refine ⟨(J3, u1 B3 40 (upd (B3 40) (9 * k + 8) (wwS A pu G W k 0 n (A 28))), rdv3), ⟨g2, g3.w40, fun p g hp hg => ?_⟩, fun _ n' => ?_⟩
      · dsimp only
        rw [u1_eq, if_pos rfl, upd_if, if_neg (by omega), e40]
        by_cases h : p = k
        · rw [h]; exact f5 g hg
        · rw [f4 _ (by omega)]; exact j3 p g (by omega) hg
      · dsimp only
        simp only [iN_lit] at f1 g1
        simp (disch := first | omega | assumption | (simp (disch := omega) only [iN_lit, iN_add, iN_mul, iN_pred, iN_pred', iN_lt, iN_le, iN_eq, iN_nat, nlt_t, nlt_f, nle_t, nle_f, neq_t, neq_f, List.length_nil, List.length_cons, or_false, false_or, or_self, not_false_eq_true, not_true_eq_false, ↓reduceIte, if_true, if_false, Bool.false_eq_true, Nat.reduceAdd])) only [fX12_layServed_L2, ↓brK, ↓brR_40, ↓brA_40, ↓brS_40, ↓brG_2, fX12_layServed_J59_12, ↓hb_some, ↓bd_some, ↓letE_eq, h_z0, h_z1, h_zi0, h_zi1, ↓hb_of g1, iN_lit, iN_add, iN_mul, iN_pred, iN_pred', iN_lt, iN_le, iN_eq, iN_nat, nlt_t, nlt_f, nle_t, nle_f, neq_t, neq_f, List.length_nil, List.length_cons, or_false, false_or, or_self, not_false_eq_true, not_true_eq_false, ↓reduceIte, if_true, if_false, Bool.false_eq_true, Nat.reduceAdd, hP, f1])
    (fun q hi _ n' => by
      obtain ⟨J1, B1, rdv1⟩ := q
      have hP : J1 2 = iN P := (hi.1.rj 2 (by omega)).trans mk.1.2.1
      dsimp only
      simp (disch := first | omega | assumption | (simp (disch := omega) only [iN_lit, iN_add, iN_mul, iN_pred, iN_pred', iN_lt, iN_le, iN_eq, iN_nat, nlt_t, nlt_f, nle_t, nle_f, neq_t, neq_f, List.length_nil, List.length_cons, or_false, false_or, or_self, not_false_eq_true, not_true_eq_false, ↓reduceIte, if_true, if_false, Bool.false_eq_true, Nat.reduceAdd])) only [fX12_layServed_L2, ↓brK, ↓brR_40, ↓brA_40, ↓brS_40, ↓brG_2, fX12_layServed_J59_12, ↓hb_some, ↓bd_some, ↓letE_eq, h_z0, h_z1, h_zi0, h_zi1, iN_lit, iN_add, iN_mul, iN_pred, iN_pred', iN_lt, iN_le, iN_eq, iN_nat, nlt_t, nlt_f, nle_t, nle_f, neq_t, neq_f, List.length_nil, List.length_cons, or_false, false_or, or_self, not_false_eq_true, not_true_eq_false, ↓reduceIte, if_true, if_false, Bool.false_eq_true, Nat.reduceAdd, hP]) P 0 (J', B', rdv') (by omega) ⟨i1, i2, fun p g hp _ => absurd hp (Nat.not_lt_zero _)⟩
  obtain ⟨⟨J2, B2, rdv2⟩, ⟨k1, k2, k3⟩, k4⟩ := key
  exact ⟨J2, B2, rdv2, k4 () FU (by unfold FU; omega), k1, k2, k3⟩
theorem cov71_M (hG : J 1 = iN G) (h8 : G ≤ 8) (h6 : P ≤ 6) (hp : p < P) (ht : ∀ g, g < G → B 40 (9 * p + g) = svT A pu G W n p g) (kx : Int32 → PH → Option (Int32 × PH)) : fX12_covers_L71 45 y (iN k) (iN p) kx FU acc (iN 0) (encC I E L pr ot (encR J B M rdv ru T)) = kx (acc ||| orF (fun g => if hasB (iN k) g then svT A pu G W n p g else 0) G) (encC I E L pr ot (encR J B M rdv ru T)) := by
  rw [← orA_eq]
  exact lp_det (fun n' j (q : Int32) => fX12_covers_L71 45 y (iN k) (iN p) kx n' q (iN j) (encC I E L pr ot (encR J B M rdv ru T))) (fun q => kx q (encC I E L pr ot (encR J B M rdv ru T))) (orA (fun g => if hasB (iN k) g then svT A pu G W n p g else 0) acc) G
    (fun j hj n' => by
      have e1 : orA (fun g => if hasB (iN k) g then svT A pu G W n p g else 0) acc (j + 1) = orA (fun g => if hasB (iN k) g then svT A pu G W n p g else 0) acc j ||| (if hasB (iN k) j then svT A pu G W n p j else 0) := rfl
      rw [e1]
      generalize orA (fun g => if hasB (iN k) g then svT A pu G W n p g else 0) acc j = ac
      cases hb : hasB (iN k) j with
      | true =>
        rw [if_pos rfl, ← ht j hj]
        simp (disch := first | omega | assumption | (simp (disch := omega) only [iN_lit, iN_add, iN_mul, iN_pred, iN_pred', iN_lt, iN_le, iN_eq, iN_nat, nlt_t, nlt_f, nle_t, nle_f, neq_t, neq_f, List.length_nil, List.length_cons, or_false, false_or, or_self, not_false_eq_true, not_true_eq_false, ↓reduceIte, if_true, if_false, Bool.false_eq_true, Nat.reduceAdd])) only [fX12_covers_L71, ↓brR_40, ↓brA_40, ↓brS_40, ↓brG_1, fX12_covers_J108_71, fX12_covers_J138_26, fX12_covers_J53_26, ↓brG_3, ↓hb_some, ↓bd_some, ↓letE_eq, h_z0, h_z1, h_zi0, h_zi1, ↓hb_of (has_y hb), iN_lit, iN_add, iN_mul, iN_pred, iN_pred', iN_lt, iN_le, iN_eq, iN_nat, nlt_t, nlt_f, nle_t, nle_f, neq_t, neq_f, List.length_nil, List.length_cons, or_false, false_or, or_self, not_false_eq_true, not_true_eq_false, ↓reduceIte, if_true, if_false, Bool.false_eq_true, Nat.reduceAdd, hG]
      | false =>
        rw [if_neg (by decide)]
        simp (disch := first | omega | assumption | (simp (disch := omega) only [iN_lit, iN_add, iN_mul, iN_pred, iN_pred', iN_lt, iN_le, iN_eq, iN_nat, nlt_t, nlt_f, nle_t, nle_f, neq_t, neq_f, List.length_nil, List.length_cons, or_false, false_or, or_self, not_false_eq_true, not_true_eq_false, ↓reduceIte, if_true, if_false, Bool.false_eq_true, Nat.reduceAdd])) only [fX12_covers_L71, ↓brR_40, ↓brA_40, ↓brS_40, ↓brG_1, fX12_covers_J108_71, fX12_covers_J138_26, fX12_covers_J53_26, ↓brG_3, ↓hb_some, ↓bd_some, ↓letE_eq, h_z0, h_z1, h_zi0, h_zi1, ↓hb_of (has_n hb), iN_lit, iN_add, iN_mul, iN_pred, iN_pred', iN_lt, iN_le, iN_eq, iN_nat, nlt_t, nlt_f, nle_t, nle_f, neq_t, neq_f, List.length_nil, List.length_cons, or_false, false_or, or_self, not_false_eq_true, not_true_eq_false, ↓reduceIte, if_true, if_false, Bool.false_eq_true, Nat.reduceAdd, hG])
    (fun n' => by simp (disch := first | omega | assumption | (simp (disch := omega) only [iN_lit, iN_add, iN_mul, iN_pred, iN_pred', iN_lt, iN_le, iN_eq, iN_nat, nlt_t, nlt_f, nle_t, nle_f, neq_t, neq_f, List.length_nil, List.length_cons, or_false, false_or, or_self, not_false_eq_true, not_true_eq_false, ↓reduceIte, if_true, if_false, Bool.false_eq_true, Nat.reduceAdd])) only [fX12_covers_L71, ↓brR_40, ↓brA_40, ↓brS_40, ↓brG_1, fX12_covers_J108_71, fX12_covers_J138_26, fX12_covers_J53_26, ↓brG_3, ↓hb_some, ↓bd_some, ↓letE_eq, h_z0, h_z1, h_zi0, h_zi1, iN_lit, iN_add, iN_mul, iN_pred, iN_pred', iN_lt, iN_le, iN_eq, iN_nat, nlt_t, nlt_f, nle_t, nle_f, neq_t, neq_f, List.length_nil, List.length_cons, or_false, false_or, or_self, not_false_eq_true, not_true_eq_false, ↓reduceIte, if_true, if_false, Bool.false_eq_true, Nat.reduceAdd, hG]) FU (by unfold FU; omega)
theorem cov59_M (hG : J 1 = iN G) (hP : J 2 = iN P) (h8 : G ≤ 8) (h6 : P ≤ 6) (ht : ∀ p g, p < P → g < G → B 40 (9 * p + g) = svT A pu G W n p g) (kx : Int32 → PH → Option (Int32 × PH)) : fX12_covers_L59 45 y (iN k) kx FU (iN 0) (iN 0) (encC I E L pr ot (encR J B M rdv ru T)) = kx (svK A pu G P W n k) (encC I E L pr ot (encR J B M rdv ru T)) := by
  rw [← svK_M]
  exact lp_det (fun n' j (q : Int32) => fX12_covers_L59 45 y (iN k) kx n' q (iN j) (encC I E L pr ot (encR J B M rdv ru T))) (fun q => kx q (encC I E L pr ot (encR J B M rdv ru T))) (orF (fun p => orF (fun g => if hasB (iN k) g then svT A pu G W n p g else 0) G)) P
    (fun j hj n' => by
      have f1 := fun acc kx => cov71_M (I := I) (E := E) (L := L) (pr := pr) (ot := ot) (M := M) (rdv := rdv) (ru := ru) (T := T) (y := y) (k := k) (acc := acc) hG h8 h6 hj (fun g hg => ht j g hj hg) kx
      have e1 : orF (fun p => orF (fun g => if hasB (iN k) g then svT A pu G W n p g else 0) G) (j + 1) = orF (fun p => orF (fun g => if hasB (iN k) g then svT A pu G W n p g else 0) G) j ||| orF (fun g => if hasB (iN k) g then svT A pu G W n j g else 0) G := rfl
      rw [e1]
      generalize orF (fun p => orF (fun g => if hasB (iN k) g then svT A pu G W n p g else 0) G) j = ac
      generalize orF (fun g => if hasB (iN k) g then svT A pu G W n j g else 0) G = a2 at f1 ⊢
      simp (disch := first | omega | assumption | (simp (disch := omega) only [iN_lit, iN_add, iN_mul, iN_pred, iN_pred', iN_lt, iN_le, iN_eq, iN_nat, nlt_t, nlt_f, nle_t, nle_f, neq_t, neq_f, List.length_nil, List.length_cons, or_false, false_or, or_self, not_false_eq_true, not_true_eq_false, ↓reduceIte, if_true, if_false, Bool.false_eq_true, Nat.reduceAdd])) only [fX12_covers_L59, ↓brG_2, fX12_covers_J108_71, fX12_covers_J138_26, fX12_covers_J53_26, ↓brG_3, ↓hb_some, ↓bd_some, ↓letE_eq, h_z0, h_z1, h_zi0, h_zi1, iN_lit, iN_add, iN_mul, iN_pred, iN_pred', iN_lt, iN_le, iN_eq, iN_nat, nlt_t, nlt_f, nle_t, nle_f, neq_t, neq_f, List.length_nil, List.length_cons, or_false, false_or, or_self, not_false_eq_true, not_true_eq_false, ↓reduceIte, if_true, if_false, Bool.false_eq_true, Nat.reduceAdd, hP, f1])
    (fun n' => by simp (disch := first | omega | assumption | (simp (disch := omega) only [iN_lit, iN_add, iN_mul, iN_pred, iN_pred', iN_lt, iN_le, iN_eq, iN_nat, nlt_t, nlt_f, nle_t, nle_f, neq_t, neq_f, List.length_nil, List.length_cons, or_false, false_or, or_self, not_false_eq_true, not_true_eq_false, ↓reduceIte, if_true, if_false, Bool.false_eq_true, Nat.reduceAdd])) only [fX12_covers_L59, ↓brG_2, fX12_covers_J108_71, fX12_covers_J138_26, fX12_covers_J53_26, ↓brG_3, ↓hb_some, ↓bd_some, ↓letE_eq, h_z0, h_z1, h_zi0, h_zi1, iN_lit, iN_add, iN_mul, iN_pred, iN_pred', iN_lt, iN_le, iN_eq, iN_nat, nlt_t, nlt_f, nle_t, nle_f, neq_t, neq_f, List.length_nil, List.length_cons, or_false, false_or, or_self, not_false_eq_true, not_true_eq_false, ↓reduceIte, if_true, if_false, Bool.false_eq_true, Nat.reduceAdd, hP]) FU (by unfold FU; omega)
theorem cov_M (mk : MKK A (u1 J 13 (iN 0)) B G P W ru pu) (hn : n ≤ 20) {r : Option Nat} (hr : cvF (fun k => decide (svK A pu G P W n k = ((1 : Int32) <<< (iN W &&& 31)) - 1)) (2 ^ G) = r) :
    qM J B M rdv ru (fX12_covers 45 (iN n)) (match r with | none => -2 | some f => bc (iN f)) (r.map (fun f => [(iN f).toInt64])) := by
  intro I E L pr ot T
  have h8 := mk.1.2.2.2.1
  have h6 := mk.1.2.2.2.2.1
  obtain ⟨cc, hcc⟩ : ∃ cc, cc = (fun k => decide (svK A pu G P W n k = ((1 : Int32) <<< (iN W &&& 31)) - 1)) := ⟨_, rfl⟩
  have hcg : ∀ k, decide (svK A pu G P W n k = ((1 : Int32) <<< (iN W &&& 31)) - 1) = cc k := fun g => by rw [hcc]
  rw [← hcc] at hr
  obtain ⟨N, hN⟩ : ∃ N, N = 2 ^ G := ⟨_, rfl⟩
  have hp2 := p2 h8
  have hsh : (1 : Int32) <<< (iN G &&& 31) = iN N := by rw [hN]; exact shl_n ⟨G, by omega⟩
  rw [← hN] at hr hp2
  have hall : iN N - iN 1 = iN (N - 1) := iN_sub (by omega)
  have hsh' : iN 1 <<< (iN G &&& iN 31) = iN N := hsh
  obtain ⟨J2, B2, rdv2, g1, g2, g3, g4⟩ := cov2_M (I := I) (E := E) (L := L) (pr := pr) (ot := ot) (M := M) (rdv' := rdv) (T := T) (n := n) mk hn frJ.refl frRB.refl
  have hJ1 : J2 1 = iN G := (g2.rj 1 (by omega)).trans mk.1.1
  have hJ2 : J2 2 = iN P := (g2.rj 2 (by omega)).trans mk.1.2.1
  have hJ3 : J2 3 = iN W := (g2.rj 3 (by omega)).trans mk.1.2.2.1
  have key := lp_det (fun n' k (q : Int32) => fX12_covers_L26 45 kxCvM n' q (iN k) (encC I E L pr ot (encR J2 B2 M rdv2 ru T))) (fun q => kxCvM q (encC I E L pr ot (encR J2 B2 M rdv2 ru T))) (fun k => eM (cvF cc k)) N
    (fun k hk n' => by
      have f1 := fun y kx => cov59_M (I := I) (E := E) (L := L) (pr := pr) (ot := ot) (M := M) (rdv := rdv2) (ru := ru) (T := T) (y := y) (k := k) hJ1 hJ2 h8 h6 g4 kx
      have e1 : cvF cc (k + 1) = if lsC (cvF cc k) k && cc k then some k else cvF cc k := rfl
      have hd := hcg k
      obtain ⟨aw, haw⟩ : ∃ aw, aw = ((1 : Int32) <<< (iN W &&& 31)) - 1 := ⟨_, rfl⟩
      have haw' : (iN 1 <<< (iN W &&& iN 31)) - iN 1 = aw := haw.symm
      rw [← haw] at hd
      generalize svK A pu G P W n k = v at f1 hd
      rw [e1]
      have e2 : eM (some k) = iN k := rfl
      cases ho : cvF cc k with
      | none =>
        have e4 : eM none = -iN 1 := rfl
        show _ = fX12_covers_L26 45 kxCvM n' (eM (if lsC none k && cc k then some k else none)) (iN (k + 1)) (encC I E L pr ot (encR J2 B2 M rdv2 ru T))
        rw [show lsC none k = true from rfl, Bool.true_and]
        cases hb : cc k with
        | true =>
          rw [hb] at hd
          have hv : v = aw := of_decide_eq_true hd
          rw [if_pos rfl, e2]
          subst hv
          rw [e4]
          simp (disch := first | omega | assumption | (simp (disch := omega) only [iN_lit, iN_add, iN_mul, iN_pred, iN_pred', iN_lt, iN_le, iN_eq, iN_nat, nlt_t, nlt_f, nle_t, nle_f, neq_t, neq_f, List.length_nil, List.length_cons, or_false, false_or, or_self, not_false_eq_true, not_true_eq_false, ↓reduceIte, if_true, if_false, Bool.false_eq_true, Nat.reduceAdd])) only [fX12_covers_L26, ↓brK, fX12_covers_J108_71, fX12_covers_J138_26, fX12_covers_J53_26, ↓brG_3, fX12_all, ↓brG_1, ↓hb_of (c_bitCount), ↓hb_some, ↓bd_some, ↓letE_eq, h_z0, h_z1, h_zi0, h_zi1, iN_lit, iN_add, iN_mul, iN_pred, iN_pred', iN_lt, iN_le, iN_eq, iN_nat, nlt_t, nlt_f, nle_t, nle_f, neq_t, neq_f, List.length_nil, List.length_cons, or_false, false_or, or_self, not_false_eq_true, not_true_eq_false, ↓reduceIte, if_true, if_false, Bool.false_eq_true, Nat.reduceAdd, hJ1, hJ3, hsh', hall, f1, haw']
        | false =>
          rw [hb] at hd
          have hv : ¬ v = aw := of_decide_eq_false hd
          rw [if_neg (by decide)]
          rw [e4]
          simp (disch := first | omega | assumption | (simp (disch := omega) only [iN_lit, iN_add, iN_mul, iN_pred, iN_pred', iN_lt, iN_le, iN_eq, iN_nat, nlt_t, nlt_f, nle_t, nle_f, neq_t, neq_f, List.length_nil, List.length_cons, or_false, false_or, or_self, not_false_eq_true, not_true_eq_false, ↓reduceIte, if_true, if_false, Bool.false_eq_true, Nat.reduceAdd])) only [fX12_covers_L26, ↓brK, fX12_covers_J108_71, fX12_covers_J138_26, fX12_covers_J53_26, ↓brG_3, fX12_all, ↓brG_1, ↓hb_of (c_bitCount), ↓hb_some, ↓bd_some, ↓letE_eq, h_z0, h_z1, h_zi0, h_zi1, iN_lit, iN_add, iN_mul, iN_pred, iN_pred', iN_lt, iN_le, iN_eq, iN_nat, nlt_t, nlt_f, nle_t, nle_f, neq_t, neq_f, List.length_nil, List.length_cons, or_false, false_or, or_self, not_false_eq_true, not_true_eq_false, ↓reduceIte, if_true, if_false, Bool.false_eq_true, Nat.reduceAdd, hJ1, hJ3, hsh', hall, f1, haw', hv]
      | some f =>
        have hf := cvF_lt k f ho
        have hne : (iN f = -iN 1) = False := ne_m (by omega) (by decide) (by decide)
        have e3 : eM (some f) = iN f := rfl
        by_cases hl : bc (iN k) < bc (iN f)
        · rw [show lsC (some f) k = true from decide_eq_true hl, Bool.true_and]
          cases hb : cc k with
          | true =>
            rw [hb] at hd
            have hv : v = aw := of_decide_eq_true hd
            rw [if_pos rfl, e2]
            subst hv
            rw [e3]
            simp (disch := first | omega | assumption | (simp (disch := omega) only [iN_lit, iN_add, iN_mul, iN_pred, iN_pred', iN_lt, iN_le, iN_eq, iN_nat, nlt_t, nlt_f, nle_t, nle_f, neq_t, neq_f, List.length_nil, List.length_cons, or_false, false_or, or_self, not_false_eq_true, not_true_eq_false, ↓reduceIte, if_true, if_false, Bool.false_eq_true, Nat.reduceAdd])) only [fX12_covers_L26, ↓brK, fX12_covers_J108_71, fX12_covers_J138_26, fX12_covers_J53_26, ↓brG_3, fX12_all, ↓brG_1, ↓hb_of (c_bitCount), ↓hb_some, ↓bd_some, ↓letE_eq, h_z0, h_z1, h_zi0, h_zi1, ↓hb_of c_bitCount, iN_lit, iN_add, iN_mul, iN_pred, iN_pred', iN_lt, iN_le, iN_eq, iN_nat, nlt_t, nlt_f, nle_t, nle_f, neq_t, neq_f, List.length_nil, List.length_cons, or_false, false_or, or_self, not_false_eq_true, not_true_eq_false, ↓reduceIte, if_true, if_false, Bool.false_eq_true, Nat.reduceAdd, hJ1, hJ3, hsh', hall, f1, haw', hne, hl]
          | false =>
            rw [hb] at hd
            have hv : ¬ v = aw := of_decide_eq_false hd
            rw [if_neg (by decide)]
            rw [e3]
            simp (disch := first | omega | assumption | (simp (disch := omega) only [iN_lit, iN_add, iN_mul, iN_pred, iN_pred', iN_lt, iN_le, iN_eq, iN_nat, nlt_t, nlt_f, nle_t, nle_f, neq_t, neq_f, List.length_nil, List.length_cons, or_false, false_or, or_self, not_false_eq_true, not_true_eq_false, ↓reduceIte, if_true, if_false, Bool.false_eq_true, Nat.reduceAdd])) only [fX12_covers_L26, ↓brK, fX12_covers_J108_71, fX12_covers_J138_26, fX12_covers_J53_26, ↓brG_3, fX12_all, ↓brG_1, ↓hb_of (c_bitCount), ↓hb_some, ↓bd_some, ↓letE_eq, h_z0, h_z1, h_zi0, h_zi1, ↓hb_of c_bitCount, iN_lit, iN_add, iN_mul, iN_pred, iN_pred', iN_lt, iN_le, iN_eq, iN_nat, nlt_t, nlt_f, nle_t, nle_f, neq_t, neq_f, List.length_nil, List.length_cons, or_false, false_or, or_self, not_false_eq_true, not_true_eq_false, ↓reduceIte, if_true, if_false, Bool.false_eq_true, Nat.reduceAdd, hJ1, hJ3, hsh', hall, f1, haw', hne, hl, hv]
        · rw [show lsC (some f) k = false from decide_eq_false hl, Bool.false_and, if_neg (by decide)]
          rw [e3]
          simp (disch := first | omega | assumption | (simp (disch := omega) only [iN_lit, iN_add, iN_mul, iN_pred, iN_pred', iN_lt, iN_le, iN_eq, iN_nat, nlt_t, nlt_f, nle_t, nle_f, neq_t, neq_f, List.length_nil, List.length_cons, or_false, false_or, or_self, not_false_eq_true, not_true_eq_false, ↓reduceIte, if_true, if_false, Bool.false_eq_true, Nat.reduceAdd])) only [fX12_covers_L26, ↓brK, fX12_covers_J108_71, fX12_covers_J138_26, fX12_covers_J53_26, ↓brG_3, fX12_all, ↓brG_1, ↓hb_of (c_bitCount), ↓hb_some, ↓bd_some, ↓letE_eq, h_z0, h_z1, h_zi0, h_zi1, ↓hb_of c_bitCount, iN_lit, iN_add, iN_mul, iN_pred, iN_pred', iN_lt, iN_le, iN_eq, iN_nat, nlt_t, nlt_f, nle_t, nle_f, neq_t, neq_f, List.length_nil, List.length_cons, or_false, false_or, or_self, not_false_eq_true, not_true_eq_false, ↓reduceIte, if_true, if_false, Bool.false_eq_true, Nat.reduceAdd, hJ1, hJ3, hsh', hall, hne, hl])
    (fun n' => by
      simp (disch := first | omega | assumption | (simp (disch := omega) only [iN_lit, iN_add, iN_mul, iN_pred, iN_pred', iN_lt, iN_le, iN_eq, iN_nat, nlt_t, nlt_f, nle_t, nle_f, neq_t, neq_f, List.length_nil, List.length_cons, or_false, false_or, or_self, not_false_eq_true, not_true_eq_false, ↓reduceIte, if_true, if_false, Bool.false_eq_true, Nat.reduceAdd])) only [fX12_covers_L26, ↓brK, fX12_covers_J108_71, fX12_covers_J138_26, fX12_covers_J53_26, ↓brG_3, fX12_all, ↓brG_1, ↓hb_of (c_bitCount), ↓hb_some, ↓bd_some, ↓letE_eq, h_z0, h_z1, h_zi0, h_zi1, iN_lit, iN_add, iN_mul, iN_pred, iN_pred', iN_lt, iN_le, iN_eq, iN_nat, nlt_t, nlt_f, nle_t, nle_f, neq_t, neq_f, List.length_nil, List.length_cons, or_false, false_or, or_self, not_false_eq_true, not_true_eq_false, ↓reduceIte, if_true, if_false, Bool.false_eq_true, Nat.reduceAdd, hJ1, hsh', hall]) FU (by unfold FU; omega)
  rw [hr] at key
  have en : ∀ z, kxCvM (eM r) (encC I E L pr ot (encR J2 B2 M rdv2 ru T)) = z → fX12_covers 45 (iN n) (encC I E L pr ot (encR J B M rdv ru T)) = z := by
    intro z hz
    have e0 : eM (cvF cc 0) = (-1 : Int32) := rfl
    rw [e0] at key
    unfold fX12_covers
    rw [brW_13, hb_of (show fX12_in (iN n) (0 : Int32) (20 : Int32) (encC I E L pr ot (encR (u1 J 13 0) B M rdv ru T)) = some (1, (encC I E L pr ot (encR (u1 J 13 0) B M rdv ru T))) from in_y (Nat.zero_le n) hn (by decide)), if_1z, brK, hb_of (show fX12_layServed 45 (iN n) (encC I E L pr ot (encR (u1 J 13 0) B M rdv ru T)) = _ from g1)]
    refine Eq.trans ?_ hz
    exact key
  cases r with
  | none => exact ⟨J2, B2, M, rdv2, en _ (if_pos rfl), (frRJ.u (by decide)).trans g2.rj, g3, g2 12 (by decide) (by decide) (by decide) (by decide) (by decide), rfl⟩
  | some f =>
    have hf := cvF_lt N f hr
    have hne : (iN f = -iN 1) = False := ne_m (by omega) (by decide) (by decide)
    have a1 := r_tell (I := I) (E := E) (L := L) (pr := pr) (ot := ot) (J := u1 J2 12 (iN 0)) (B := B2) (M := M) (rdv := rdv2) (ru := ru) (T := T) (v := (iN f).toInt64) (n := 0) (by rw [u1_eq, if_pos rfl]) (by decide)
    rw [u1_u1] at a1
    refine ⟨u1 J2 12 (iN 1), B2, vp_updL M 0 (iN f).toInt64, rdv2, en _ ?_, ((frRJ.u (by decide)).trans g2.rj).trans (frRJ.u (by decide)), g3, by simp, by rw [u1_eq, if_pos rfl]; exact row_1 rfl⟩
    unfold eM kxCvM
    dsimp only
    simp only [iN_lit]
    simp (disch := first | omega | assumption | (simp (disch := omega) only [iN_lit, iN_add, iN_mul, iN_pred, iN_pred', iN_lt, iN_le, iN_eq, iN_nat, nlt_t, nlt_f, nle_t, nle_f, neq_t, neq_f, List.length_nil, List.length_cons, or_false, false_or, or_self, not_false_eq_true, not_true_eq_false, ↓reduceIte, if_true, if_false, Bool.false_eq_true, Nat.reduceAdd])) only [fX12_covers, ↓brK, ↓brW_13, ↓brW_12, ↓hb_of (in_y _ _ _), ↓hb_of (in_n _), ↓hb_of (c_bitCount), ↓hb_some, ↓bd_some, ↓letE_eq, h_z0, h_z1, h_zi0, h_zi1, ↓hb_of a1, ↓hb_of c_bitCount, iN_lit, iN_add, iN_mul, iN_pred, iN_pred', iN_lt, iN_le, iN_eq, iN_nat, nlt_t, nlt_f, nle_t, nle_f, neq_t, neq_f, List.length_nil, List.length_cons, or_false, false_or, or_self, not_false_eq_true, not_true_eq_false, ↓reduceIte, if_true, if_false, Bool.false_eq_true, Nat.reduceAdd, hne]
theorem p_covers (h : INV s I A L pr ot J B M ru G P W) (x : Int32) : pairG s I A L pr ot J B M rdv ru out (fX11_covers 0 x) (fX12_covers 45 x) := by
  have hI := h
  obtain ⟨pu, ck, -, mk⟩ := h.km
  rcases arg_le 20 (by decide) x with ⟨n, hn, rfl⟩ | hx
  · refine pairG_q hI (fun T => ?_) (cov_M mk hn rfl)
    obtain ⟨I1, A1, L1, e1, e2⟩ := cov_C (L := L) (ot := ot) (T := T) ck hn rfl
    refine ⟨I1, A1, L1, ?_, e2⟩
    unfold fX11_covers
    rw [hb_of (show fX11_within (iN n) (0 : Int32) (20 : Int32) (encC I A L pr ot T) = some (1, (encC I A L pr ot T)) from within_y (Nat.zero_le n) hn (by decide)), if_1z, bR_0_10, bK_35, hb_of e1]
    rfl
  · refine pairG_q (ans := -1) hI (fun T => qC_no ?_) (qM_no (fun I E L pr ot T => ?_))
    · unfold fX11_covers
      simp only [iN_lit]
      rw [hb_of (within_n (show ¬ (iN 0 ≤ x ∧ x ≤ iN 20) from hx)), if_00]
    · unfold fX12_covers
      simp only [iN_lit]
      rw [brW_13, hb_of (in_n (show ¬ (iN 0 ≤ x ∧ x ≤ iN 20) from hx)), if_00]
end CX
