/-! A DAY by the model -/
def rf (ru : Nat) : Nat := if ru = 56 then 21 else 22
def frJ (J J' : Nat → Int32) : Prop := ∀ x, x ≠ 15 → x ≠ 16 → x ≠ 17 → x ≠ 18 → x ≠ 24 → J' x = J x
def frB (b : Nat) (B B' : Nat → Nat → Int32) : Prop := ∀ x, x ≠ 25 → x ≠ 30 → x ≠ b → B' x = B x
/-- the model's rule of n signs R pushes by pu -/
def MUR (n : Nat) (R : Nat → Int32) (pu : (Nat → Int32) → Int32) : Prop :=
  ∀ (I A E : Nat → Nat → Int32) (L : Nat → Int64) (pr ot : Nat) (J : Nat → Int32) (B : Nat → Nat → Int32) (M : Nat → Int64) (rdv : Value) (ru : Nat) (T : PH) (G P W oa p g h : Nat) (Z : Nat → Int32),
    FM A J B G P W → J 23 = iN n → B (rf ru) = R → (ru = 56 ∨ ru = 57) → (oa = 46 ∨ oa = 61) → p < P → g < G → h < 4 → CP Z (B (fb oa)) → OK G P Z → hdB Z p g = true → ¬ A 13 (g * 4 + h) = -1 →
    ∃ J' B' rdv', fX12_pushOf 45 oa (iN p) (iN g) (iN h) (encC I E L pr ot (encR J B M rdv ru T)) = some (pu (fcS (Z (8 + p * 4 + h)) (A 13 (g * 4 + h)) (A 12 g) (bc (gsS Z G p)) (Z (32 + p * 8 + g)) (A 14 p) (dy7 Z)), (encC I E L pr ot (encR J' B' M rdv' ru T))) ∧ frJ J J' ∧ ∀ x, x ≠ 25 → B' x = B x
theorem frJ.refl {J : Nat → Int32} : frJ J J := fun _ _ _ _ _ _ => rfl
theorem frJ.trans {J J1 J2 : Nat → Int32} (h1 : frJ J J1) (h2 : frJ J1 J2) : frJ J J2 := fun x a b c d e => (h2 x a b c d e).trans (h1 x a b c d e)
theorem frB.refl {b : Nat} {B : Nat → Nat → Int32} : frB b B B := fun _ _ _ _ => rfl
theorem frB.trans {b : Nat} {B B1 B2 : Nat → Nat → Int32} (h1 : frB b B B1) (h2 : frB b B1 B2) : frB b B B2 := fun x a c d => (h2 x a c d).trans (h1 x a c d)
theorem fb_or (oa : Nat) : fb oa = 0 ∨ fb oa = 29 := by
  unfold fb; split <;> simp
theorem rf_or (ru : Nat) : rf ru = 21 ∨ rf ru = 22 := by
  unfold rf; split <;> simp
section MD
variable {I A E : Nat → Nat → Int32} {L : Nat → Int64} {pr ot : Nat} {J : Nat → Int32} {B : Nat → Nat → Int32} {M : Nat → Int64} {rdv : Value} {ru : Nat} {T : PH} {G P W p g w t oa nr h : Nat} {Z : Nat → Int32} {R : Nat → Int32} {pu : (Nat → Int32) → Int32}
theorem FM.fr (hM : FM A J B G P W) {J' : Nat → Int32} {B' : Nat → Nat → Int32} {b : Nat} (h1 : frJ J J') (h2 : frB b B B') (hb : b = 0 ∨ b = 29) : FM A J' B' G P W :=
  hM.frame (fun x _ _ => h1 x (by omega) (by omega) (by omega) (by omega) (by omega)) (fun x _ _ => h2 x (by omega) (by omega) (by omega))
theorem r_goMan17 (hM : FM A J B G P W) (hu : MUR nr R pu) (hJ : J 23 = iN nr) (hR : B (rf ru) = R) (hru : ru = 56 ∨ ru = 57) (ha : oa = 46 ∨ oa = 61) (hp : p < P) (hh : h < 4) (hc : CP Z (B (fb oa))) (hz : OK G P Z) :
    ∃ J' B' rdv', (∀ kx, fX12_goMan_L17 45 oa (iN p) (iN h) kx FU (iN 0) (encC I E L pr ot (encR J B M rdv ru T)) = kx (encC I E L pr ot (encR J' B' M rdv' ru T))) ∧ frJ J J' ∧ (∀ x, x ≠ 25 → x ≠ 30 → B' x = B x) ∧ (∀ i, i ≠ h → B' 30 i = B 30 i) ∧ B' 30 h = B 30 h + mvS A Z pu G p (dy7 Z) h G := by
  have hG := hM.1
  have h8 := hM.2.2.2.1
  have h6 := hM.2.2.2.2.1
  have hfb := fb_or oa
  have hrf := rf_or ru
  have key := lp_k (fun (kx : PH → Option (Unit × PH)) n k (s : (Nat → Int32) × (Nat → Nat → Int32) × Value) => fX12_goMan_L17 45 oa (iN p) (iN h) kx n (iN k) (encC I E L pr ot (encR (s.1) (s.2.1) M (s.2.2) ru T))) (fun kx s => kx (encC I E L pr ot (encR (s.1) (s.2.1) M (s.2.2) ru T))) (fun k s => frJ J s.1 ∧ (∀ x, x ≠ 25 → x ≠ 30 → s.2.1 x = B x) ∧ (∀ i, i ≠ h → s.2.1 30 i = B 30 i) ∧ s.2.1 30 h = B 30 h + mvS A Z pu G p (dy7 Z) h k) G
    (fun k s hk hi => by
      obtain ⟨J', B', rdv'⟩ := s
      obtain ⟨h1, h2, h3, h4⟩ := hi
      dsimp only at h1 h2 h3 h4
      have hM' : FM A J' B' G P W := hM.fr h1 (b := 29) (fun x a b _ => h2 x a b) (Or.inr rfl)
      have hJ1 : J' 1 = iN G := hM'.1
      have e0 : B' (fb oa) = B (fb oa) := h2 _ (by omega) (by omega)
      have e5 : B' 5 = B 5 := h2 5 (by omega) (by omega)
      have ep : B 5 (4 * k + h) = A 13 (k * 4 + h) := by
        rw [show 4 * k + h = k * 4 + h by omega]
        exact hM.2.2.2.2.2.2.2.1 _ (by omega)
      have hhas := hc.has (show p < 6 by omega) (show k < 8 by omega)
      have em : ∀ v, (v = (if hdB Z p k = true ∧ ¬ A 13 (k * 4 + h) = -1 then pu (fcS (Z (8 + p * 4 + h)) (A 13 (k * 4 + h)) (A 12 k) (bc (gsS Z G p)) (Z (32 + p * 8 + k)) (A 14 p) (dy7 Z)) else 0)) → B' 30 h + v = B 30 h + mvS A Z pu G p (dy7 Z) h (k + 1) := by
        intro v hv
        rw [h4, hv, Int32.add_assoc]; rfl
      cases hb : hdB Z p k with
      | false =>
        rw [hb] at hhas
        have e1 := em 0 (by rw [hb, if_neg (fun c => by cases c.1)])
        refine ⟨(J', u1 B' 30 (upd (B' 30) h (B' 30 h + 0)), rdv'), ⟨h1, fun x x1 x2 => ?_, fun i hi => ?_, ?_⟩, fun kx n => ?_⟩
        · dsimp only; rw [u1_eq, if_neg x2]; exact h2 x x1 x2
        · dsimp only; rw [u1_eq, if_pos rfl, upd_ne hi]; exact h3 i hi
        · dsimp only; rw [u1_eq, if_pos rfl, upd_eq, e1]
        · dsimp only
          simp (disch := first | omega | assumption | (simp (disch := omega) only [iN_lit, iN_add, iN_mul, iN_pred, iN_pred', iN_lt, iN_le, iN_eq, iN_nat, nlt_t, nlt_f, nle_t, nle_f, neq_t, neq_f, List.length_nil, List.length_cons, or_false, false_or, or_self, not_false_eq_true, not_true_eq_false, ↓reduceIte, if_true, if_false, Bool.false_eq_true, Nat.reduceAdd])) only [fX12_goMan_L17, ↓brK, ↓brR_30, ↓brA_30, ↓brS_30, ↓brR_5, ↓brA_5, ↓brS_5, ↓brG_1, fX12_goMan_J75_17, fX12_goMan_J74_17, ↓hb_of (has_y _), ↓hb_of (has_n _), ↓maA _, ↓hb_some, ↓bd_some, ↓letE_eq, h_z0, h_z1, h_zi0, h_zi1, iN_lit, iN_add, iN_mul, iN_pred, iN_pred', iN_lt, iN_le, iN_eq, iN_nat, nlt_t, nlt_f, nle_t, nle_f, neq_t, neq_f, List.length_nil, List.length_cons, or_false, false_or, or_self, not_false_eq_true, not_true_eq_false, ↓reduceIte, if_true, if_false, Bool.false_eq_true, Nat.reduceAdd, hJ1, e0, hhas]
      | true =>
        rw [hb] at hhas
        by_cases hpl : A 13 (k * 4 + h) = -1
        · have e1 := em 0 (by rw [if_neg (fun c => c.2 hpl)])
          rw [hpl] at ep
          refine ⟨(J', u1 B' 30 (upd (B' 30) h (B' 30 h + 0)), rdv'), ⟨h1, fun x x1 x2 => ?_, fun i hi => ?_, ?_⟩, fun kx n => ?_⟩
          · dsimp only; rw [u1_eq, if_neg x2]; exact h2 x x1 x2
          · dsimp only; rw [u1_eq, if_pos rfl, upd_ne hi]; exact h3 i hi
          · dsimp only; rw [u1_eq, if_pos rfl, upd_eq, e1]
          · dsimp only
            simp (disch := first | omega | assumption | (simp (disch := omega) only [iN_lit, iN_add, iN_mul, iN_pred, iN_pred', iN_lt, iN_le, iN_eq, iN_nat, nlt_t, nlt_f, nle_t, nle_f, neq_t, neq_f, List.length_nil, List.length_cons, or_false, false_or, or_self, not_false_eq_true, not_true_eq_false, ↓reduceIte, if_true, if_false, Bool.false_eq_true, Nat.reduceAdd])) only [fX12_goMan_L17, ↓brK, ↓brR_30, ↓brA_30, ↓brS_30, ↓brR_5, ↓brA_5, ↓brS_5, ↓brG_1, fX12_goMan_J75_17, fX12_goMan_J74_17, ↓hb_of (has_y _), ↓hb_of (has_n _), ↓maA _, ↓hb_some, ↓bd_some, ↓letE_eq, h_z0, h_z1, h_zi0, h_zi1, iN_lit, iN_add, iN_mul, iN_pred, iN_pred', iN_lt, iN_le, iN_eq, iN_nat, nlt_t, nlt_f, nle_t, nle_f, neq_t, neq_f, List.length_nil, List.length_cons, or_false, false_or, or_self, not_false_eq_true, not_true_eq_false, ↓reduceIte, if_true, if_false, Bool.false_eq_true, Nat.reduceAdd, hJ1, e0, e5, ep, hhas]
        · have e1 := em _ (by rw [if_pos ⟨hb, hpl⟩])
          have hpl' : ¬ A 13 (k * 4 + h) = -iN 1 := hpl
          obtain ⟨J2, B2, rdv2, f1, f2, f3⟩ := hu I A E L pr ot J' B' M rdv' ru T G P W oa p k h Z hM' (by rw [h1 23 (by omega) (by omega) (by omega) (by omega) (by omega)]; exact hJ) (by rw [h2 _ (by omega) (by omega)]; exact hR) hru ha hp hk hh (by rw [e0]; exact hc) hz hb hpl
          have f30 : B2 30 = B' 30 := f3 30 (by omega)
          refine ⟨(J2, u1 B2 30 (upd (B2 30) h (B' 30 h + pu (fcS (Z (8 + p * 4 + h)) (A 13 (k * 4 + h)) (A 12 k) (bc (gsS Z G p)) (Z (32 + p * 8 + k)) (A 14 p) (dy7 Z)))), rdv2), ⟨h1.trans f2, fun x x1 x2 => ?_, fun i hi => ?_, ?_⟩, fun kx n => ?_⟩
          · dsimp only; rw [u1_eq, if_neg x2, f3 x x1]; exact h2 x x1 x2
          · dsimp only; rw [u1_eq, if_pos rfl, upd_ne hi, f30]; exact h3 i hi
          · dsimp only; rw [u1_eq, if_pos rfl, upd_eq, e1]
          · dsimp only
            simp (disch := first | omega | assumption | (simp (disch := omega) only [iN_lit, iN_add, iN_mul, iN_pred, iN_pred', iN_lt, iN_le, iN_eq, iN_nat, nlt_t, nlt_f, nle_t, nle_f, neq_t, neq_f, List.length_nil, List.length_cons, or_false, false_or, or_self, not_false_eq_true, not_true_eq_false, ↓reduceIte, if_true, if_false, Bool.false_eq_true, Nat.reduceAdd])) only [fX12_goMan_L17, ↓brK, ↓brR_30, ↓brA_30, ↓brS_30, ↓brR_5, ↓brA_5, ↓brS_5, ↓brG_1, fX12_goMan_J75_17, fX12_goMan_J74_17, ↓hb_of (has_y _), ↓hb_of (has_n _), ↓maA _, ↓hb_some, ↓bd_some, ↓letE_eq, h_z0, h_z1, h_zi0, h_zi1, ↓hb_of f1, iN_lit, iN_add, iN_mul, iN_pred, iN_pred', iN_lt, iN_le, iN_eq, iN_nat, nlt_t, nlt_f, nle_t, nle_f, neq_t, neq_f, List.length_nil, List.length_cons, or_false, false_or, or_self, not_false_eq_true, not_true_eq_false, ↓reduceIte, if_true, if_false, Bool.false_eq_true, Nat.reduceAdd, hJ1, e0, e5, ep, hpl', hhas])
    (fun s hi kx n => by
      obtain ⟨J', B', rdv'⟩ := s
      have hJ1 : J' 1 = iN G := (hi.1 1 (by omega) (by omega) (by omega) (by omega) (by omega)).trans hG
      dsimp only
      simp (disch := first | omega | assumption | (simp (disch := omega) only [iN_lit, iN_add, iN_mul, iN_pred, iN_pred', iN_lt, iN_le, iN_eq, iN_nat, nlt_t, nlt_f, nle_t, nle_f, neq_t, neq_f, List.length_nil, List.length_cons, or_false, false_or, or_self, not_false_eq_true, not_true_eq_false, ↓reduceIte, if_true, if_false, Bool.false_eq_true, Nat.reduceAdd])) only [fX12_goMan_L17, ↓brK, ↓brR_30, ↓brA_30, ↓brS_30, ↓brR_5, ↓brA_5, ↓brS_5, ↓brG_1, fX12_goMan_J75_17, fX12_goMan_J74_17, ↓hb_of (has_y _), ↓hb_of (has_n _), ↓maA _, ↓hb_some, ↓bd_some, ↓letE_eq, h_z0, h_z1, h_zi0, h_zi1, iN_lit, iN_add, iN_mul, iN_pred, iN_pred', iN_lt, iN_le, iN_eq, iN_nat, nlt_t, nlt_f, nle_t, nle_f, neq_t, neq_f, List.length_nil, List.length_cons, or_false, false_or, or_self, not_false_eq_true, not_true_eq_false, ↓reduceIte, if_true, if_false, Bool.false_eq_true, Nat.reduceAdd, hJ1]) G 0 (J, B, rdv) (by omega) ⟨frJ.refl, fun _ _ _ => rfl, fun _ _ => rfl, (Int32.add_zero _).symm⟩
  obtain ⟨⟨J', B', rdv'⟩, ⟨h1, h2, h3, h4⟩, h5⟩ := key
  exact ⟨J', B', rdv', fun kx => h5 kx FU (by unfold FU; omega), h1, h2, h3, h4⟩
theorem r_goMan2 (hM : FM A J B G P W) (hu : MUR nr R pu) (hJ : J 23 = iN nr) (hR : B (rf ru) = R) (hru : ru = 56 ∨ ru = 57) (ha : oa = 46 ∨ oa = 61) (hp : p < P) (hc : CP Z (B (fb oa))) (hz : OK G P Z) :
    ∃ J' B' rdv', (∀ kx, fX12_goMan_L2 45 oa (iN p) kx FU (iN 0) (encC I E L pr ot (encR J B M rdv ru T)) = kx (encC I E L pr ot (encR J' B' M rdv' ru T))) ∧ frJ J J' ∧ (∀ x, x ≠ 25 → x ≠ 30 → B' x = B x) ∧ (∀ i, i < 4 → B' 30 i = mvS A Z pu G p (dy7 Z) i G) := by
  have hfb := fb_or oa
  have hrf := rf_or ru
  have key := lp_k (fun (kx : PH → Option (Unit × PH)) n k (s : (Nat → Int32) × (Nat → Nat → Int32) × Value) => fX12_goMan_L2 45 oa (iN p) kx n (iN k) (encC I E L pr ot (encR (s.1) (s.2.1) M (s.2.2) ru T))) (fun kx s => kx (encC I E L pr ot (encR (s.1) (s.2.1) M (s.2.2) ru T))) (fun k s => frJ J s.1 ∧ (∀ x, x ≠ 25 → x ≠ 30 → s.2.1 x = B x) ∧ (∀ i, i < k → s.2.1 30 i = mvS A Z pu G p (dy7 Z) i G)) 4
    (fun k s hk hi => by
      obtain ⟨J', B', rdv'⟩ := s
      obtain ⟨h1, h2, h3⟩ := hi
      dsimp only at h1 h2 h3
      have hM' : FM A J' (u1 B' 30 (upd (B' 30) k 0)) G P W := hM.fr h1 (b := 29) (fun x a b _ => by rw [u1_eq, if_neg b]; exact h2 x a b) (Or.inr rfl)
      obtain ⟨J2, B2, rdv2, f1, f2, f3, f4, f5⟩ := r_goMan17 (I := I) (E := E) (L := L) (pr := pr) (ot := ot) (M := M) (rdv := rdv') (ru := ru) (T := T) (h := k) (Z := Z) (R := R) hM' hu (by rw [h1 23 (by omega) (by omega) (by omega) (by omega) (by omega)]; exact hJ) (by rw [u1_eq, if_neg (by omega), h2 _ (by omega) (by omega)]; exact hR) hru ha hp hk (by rw [u1_eq, if_neg (by omega), h2 _ (by omega) (by omega)]; exact hc) hz
      refine ⟨(J2, B2, rdv2), ⟨h1.trans f2, fun x x1 x2 => ?_, fun i hi => ?_⟩, fun kx n => ?_⟩
      · dsimp only; rw [f3 x x1 x2, u1_eq, if_neg x2]; exact h2 x x1 x2
      · dsimp only
        by_cases e : i = k
        · subst e
          rw [f5, u1_eq, if_pos rfl, upd_eq, Int32.zero_add]
        · rw [f4 i e, u1_eq, if_pos rfl, upd_ne e]
          exact h3 i (by omega)
      · dsimp only
        simp (disch := first | omega | assumption | (simp (disch := omega) only [iN_lit, iN_add, iN_mul, iN_pred, iN_pred', iN_lt, iN_le, iN_eq, iN_nat, nlt_t, nlt_f, nle_t, nle_f, neq_t, neq_f, List.length_nil, List.length_cons, or_false, false_or, or_self, not_false_eq_true, not_true_eq_false, ↓reduceIte, if_true, if_false, Bool.false_eq_true, Nat.reduceAdd])) only [fX12_goMan_L2, ↓brR_30, ↓brA_30, ↓brS_30, fX12_goMan_J75_17, fX12_goMan_J74_17, ↓hb_some, ↓bd_some, ↓letE_eq, h_z0, h_z1, h_zi0, h_zi1, iN_lit, iN_add, iN_mul, iN_pred, iN_pred', iN_lt, iN_le, iN_eq, iN_nat, nlt_t, nlt_f, nle_t, nle_f, neq_t, neq_f, List.length_nil, List.length_cons, or_false, false_or, or_self, not_false_eq_true, not_true_eq_false, ↓reduceIte, if_true, if_false, Bool.false_eq_true, Nat.reduceAdd, iN_lit] at f1 ⊢
        rw [f1])
    (fun s hi kx n => by
      obtain ⟨J', B', rdv'⟩ := s
      dsimp only
      simp (disch := first | omega | assumption | (simp (disch := omega) only [iN_lit, iN_add, iN_mul, iN_pred, iN_pred', iN_lt, iN_le, iN_eq, iN_nat, nlt_t, nlt_f, nle_t, nle_f, neq_t, neq_f, List.length_nil, List.length_cons, or_false, false_or, or_self, not_false_eq_true, not_true_eq_false, ↓reduceIte, if_true, if_false, Bool.false_eq_true, Nat.reduceAdd])) only [fX12_goMan_L2, ↓brR_30, ↓brA_30, ↓brS_30, fX12_goMan_J75_17, fX12_goMan_J74_17, ↓hb_some, ↓bd_some, ↓letE_eq, h_z0, h_z1, h_zi0, h_zi1, iN_lit, iN_add, iN_mul, iN_pred, iN_pred', iN_lt, iN_le, iN_eq, iN_nat, nlt_t, nlt_f, nle_t, nle_f, neq_t, neq_f, List.length_nil, List.length_cons, or_false, false_or, or_self, not_false_eq_true, not_true_eq_false, ↓reduceIte, if_true, if_false, Bool.false_eq_true, Nat.reduceAdd]) 4 0 (J, B, rdv) (by omega) ⟨frJ.refl, fun _ _ _ => rfl, fun i hi => absurd hi (Nat.not_lt_zero _)⟩
  obtain ⟨⟨J', B', rdv'⟩, ⟨h1, h2, h3⟩, h5⟩ := key
  exact ⟨J', B', rdv', fun kx => h5 kx FU (by unfold FU; omega), h1, h2, h3⟩
theorem cl9M {v : Int32} : (if (0 : Int32) < (if v < (9 : Int32) then v else (9 : Int32)) then (if v < (9 : Int32) then v else (9 : Int32)) else (0 : Int32)) = cl9 v := by
  unfold cl9
  have e0 : (0 : Int32).toInt = 0 := by decide
  have e9 : (9 : Int32).toInt = 9 := by decide
  by_cases c : v < 9
  · rw [if_pos c]
    rw [Int32.lt_iff_toInt_lt, e9] at c
    have c2 : v ≤ 9 := by rw [Int32.le_iff_toInt_le, e9]; omega
    by_cases d : 0 < v
    · have d2 : 0 ≤ v := by rw [Int32.le_iff_toInt_le]; rw [Int32.lt_iff_toInt_lt] at d; omega
      rw [if_pos d, if_pos d2, if_pos c2]
    · rw [if_neg d]
      by_cases d2 : 0 ≤ v
      · have : v = 0 := by
          apply Int32.toInt_inj.mp
          rw [Int32.le_iff_toInt_le] at d2
          rw [Int32.lt_iff_toInt_lt] at d
          omega
        rw [if_pos d2, if_pos c2, this]
      · rw [if_neg d2]
  · rw [if_neg c, if_pos (by decide)]
    rw [Int32.lt_iff_toInt_lt, e9] at c
    have d2 : 0 ≤ v := by rw [Int32.le_iff_toInt_le, e0]; omega
    rw [if_pos d2]
    by_cases c2 : v ≤ 9
    · have : v = 9 := by
        apply Int32.toInt_inj.mp
        rw [Int32.le_iff_toInt_le, e9] at c2
        omega
      rw [if_pos c2, this]
    · rw [if_neg c2]
/-- the row behind: humours of p -/
def gmA (a : Nat → Int32) (p : Nat) (mv : Nat → Int32) : Nat → Nat → Int32
  | 0 => a
  | k + 1 => upd (gmA a p mv k) (8 + 4 * p + k) (cl9 (a (8 + 4 * p + k) + mv k))
theorem gmA_ge {a mv : Nat → Int32} {j : Nat} : ∀ k, ¬ (8 + 4 * p ≤ j ∧ j < 8 + 4 * p + k) → gmA a p mv k j = a j
  | 0, _ => rfl
  | k + 1, h => by
    show upd (gmA a p mv k) _ _ j = _
    rw [upd_ne (by omega)]
    exact gmA_ge k (by omega)
theorem gmA_in {a mv : Nat → Int32} {j : Nat} : ∀ k, j < k → gmA a p mv k (8 + 4 * p + j) = cl9 (a (8 + 4 * p + j) + mv j)
  | 0, h => absurd h (Nat.not_lt_zero _)
  | k + 1, h => by
    show upd (gmA a p mv k) _ _ (8 + 4 * p + j) = _
    by_cases e : j = k
    · subst e; rw [upd_eq]
    · rw [upd_ne (by omega)]
      exact gmA_in k (by omega)
theorem CP.gm {a : Nat → Int32} (hc : CP Z a) (hp : p < 6) {mv : Nat → Int32} (hmv : ∀ i, i < 4 → mv i = mvS A Z pu G p (dy7 Z) i G) : CP (gmZ A pu G p Z) (gmA a p mv 4) := by
  obtain ⟨c1, c2, c3, c4, c5⟩ := hc
  have hout : ∀ j, 32 ≤ j → gmZ A pu G p Z j = Z j := fun j hj => gmZ_out (by omega)
  have hout2 : ∀ j, 32 ≤ j → gmA a p mv 4 j = a j := fun j hj => gmA_ge 4 (by omega)
  have hhd : ∀ q g, hdB (gmZ A pu G p Z) q g = hdB Z q g := fun q g => by
    unfold hdB; rw [hout _ (by omega)]
  refine ⟨fun k hk => ?_, fun q hq => ?_, fun q g hq hg hb => ?_, ?_, ?_⟩
  · by_cases c : 8 + p * 4 ≤ k ∧ k < 8 + p * 4 + 4
    · have e : k = 8 + 4 * p + (k - (8 + p * 4)) := by omega
      have e2 := gmA_in (a := a) (p := p) (mv := mv) (j := k - (8 + p * 4)) 4 (by omega)
      rw [← e] at e2
      rw [e2, c1 k hk, hmv _ (by omega)]
      unfold gmZ
      rw [if_pos c]
    · rw [gmA_ge 4 (by omega), gmZ_out c]
      exact c1 k hk
  · rw [hout2 _ (by omega), c2 q hq]
    exact bt_congr (fun g _ => (hhd q g).symm)
  · rw [hout2 _ (by omega), hout _ (by omega)]
    exact c3 q g hq hg (by rw [← hhd q g]; exact hb)
  · rw [hout2 _ (by omega), hout _ (by omega)]; exact c4
  · rw [hout2 _ (by omega), hout _ (by omega)]; exact c5
theorem r_goMan (hM : FM A J B G P W) (hu : MUR nr R pu) (hJ : J 23 = iN nr) (hR : B (rf ru) = R) (hru : ru = 56 ∨ ru = 57) (ha : oa = 46 ∨ oa = 61) (hp : p < P) (hc : CP Z (B (fb oa))) (hz : OK G P Z) :
    ∃ J' B' rdv', fX12_goMan 45 oa (iN p) (encC I E L pr ot (encR J B M rdv ru T)) = some ((), (encC I E L pr ot (encR J' B' M rdv' ru T))) ∧ frJ J J' ∧ frB (fb oa) B B' ∧ CP (gmZ A pu G p Z) (B' (fb oa)) := by
  have hfb := fb_or oa
  have h6 := hM.2.2.2.2.1
  obtain ⟨J1, B1, rdv1, f1, f2, f3, f4⟩ := r_goMan2 (I := I) (E := E) (L := L) (pr := pr) (ot := ot) (M := M) (rdv := rdv) (ru := ru) (T := T) hM hu hJ hR hru ha hp hc hz
  have key := lp_det (fun n k (a : Nat → Int32) => fX12_goMan_L91 45 oa (iN p) (fun h2 => some ((), h2)) n (iN k) (encC I E L pr ot (encR J1 (u1 B1 (fb oa) a) M rdv1 ru T))) (fun a => some ((), (encC I E L pr ot (encR J1 (u1 B1 (fb oa) a) M rdv1 ru T)))) (fun k => gmA (B1 (fb oa)) p (B1 30) k) 4
    (fun k hk n => by
      have e1 : gmA (B1 (fb oa)) p (B1 30) (k + 1) = upd (gmA (B1 (fb oa)) p (B1 30) k) (8 + 4 * p + k) (cl9 (B1 (fb oa) (8 + 4 * p + k) + B1 30 k)) := rfl
      have e2 : gmA (B1 (fb oa)) p (B1 30) k (8 + 4 * p + k) = B1 (fb oa) (8 + 4 * p + k) := gmA_ge k (by omega)
      have e3 : fX12_humour oa (iN p) (iN k) (encC I E L pr ot (encR J1 (u1 B1 (fb oa) (gmA (B1 (fb oa)) p (B1 30) k)) M rdv1 ru T)) = some (B1 (fb oa) (8 + 4 * p + k), (encC I E L pr ot (encR J1 (u1 B1 (fb oa) (gmA (B1 (fb oa)) p (B1 30) k)) M rdv1 ru T))) := by
        simp (disch := first | omega | assumption | (simp (disch := omega) only [iN_lit, iN_add, iN_mul, iN_pred, iN_pred', iN_lt, iN_le, iN_eq, iN_nat, nlt_t, nlt_f, nle_t, nle_f, neq_t, neq_f, List.length_nil, List.length_cons, or_false, false_or, or_self, not_false_eq_true, not_true_eq_false, ↓reduceIte, if_true, if_false, Bool.false_eq_true, Nat.reduceAdd])) only [fX12_humour, ↓maA _, ↓hb_some, ↓bd_some, ↓letE_eq, h_z0, h_z1, h_zi0, h_zi1, iN_lit, iN_add, iN_mul, iN_pred, iN_pred', iN_lt, iN_le, iN_eq, iN_nat, nlt_t, nlt_f, nle_t, nle_f, neq_t, neq_f, List.length_nil, List.length_cons, or_false, false_or, or_self, not_false_eq_true, not_true_eq_false, ↓reduceIte, if_true, if_false, Bool.false_eq_true, Nat.reduceAdd, u1_eq, e2]
      have hd : ¬ 30 = fb oa := by omega
      rw [e1, ← cl9M]
      simp (disch := first | omega | assumption | (simp (disch := omega) only [iN_lit, iN_add, iN_mul, iN_pred, iN_pred', iN_lt, iN_le, iN_eq, iN_nat, nlt_t, nlt_f, nle_t, nle_f, neq_t, neq_f, List.length_nil, List.length_cons, or_false, false_or, or_self, not_false_eq_true, not_true_eq_false, ↓reduceIte, if_true, if_false, Bool.false_eq_true, Nat.reduceAdd])) only [fX12_goMan_L91, ↓brR_30, ↓brA_30, ↓brS_30, fX12_goMan_J75_17, fX12_goMan_J74_17, ↓maS _, ↓hb_some, ↓bd_some, ↓letE_eq, h_z0, h_z1, h_zi0, h_zi1, ↓hb_of e3, iN_lit, iN_add, iN_mul, iN_pred, iN_pred', iN_lt, iN_le, iN_eq, iN_nat, nlt_t, nlt_f, nle_t, nle_f, neq_t, neq_f, List.length_nil, List.length_cons, or_false, false_or, or_self, not_false_eq_true, not_true_eq_false, ↓reduceIte, if_true, if_false, Bool.false_eq_true, Nat.reduceAdd, u1_eq, u1_u1, hd])
    (fun n => by simp (disch := first | omega | assumption | (simp (disch := omega) only [iN_lit, iN_add, iN_mul, iN_pred, iN_pred', iN_lt, iN_le, iN_eq, iN_nat, nlt_t, nlt_f, nle_t, nle_f, neq_t, neq_f, List.length_nil, List.length_cons, or_false, false_or, or_self, not_false_eq_true, not_true_eq_false, ↓reduceIte, if_true, if_false, Bool.false_eq_true, Nat.reduceAdd])) only [fX12_goMan_L91, ↓brR_30, ↓brA_30, ↓brS_30, fX12_goMan_J75_17, fX12_goMan_J74_17, ↓hb_of (r_humour _ _ _ _), ↓maS _, ↓hb_some, ↓bd_some, ↓letE_eq, h_z0, h_z1, h_zi0, h_zi1, iN_lit, iN_add, iN_mul, iN_pred, iN_pred', iN_lt, iN_le, iN_eq, iN_nat, nlt_t, nlt_f, nle_t, nle_f, neq_t, neq_f, List.length_nil, List.length_cons, or_false, false_or, or_self, not_false_eq_true, not_true_eq_false, ↓reduceIte, if_true, if_false, Bool.false_eq_true, Nat.reduceAdd]) FU (by unfold FU; omega)
  have e4 : u1 B1 (fb oa) (gmA (B1 (fb oa)) p (B1 30) 0) = B1 := u1_self
  rw [e4] at key
  have hB : B1 (fb oa) = B (fb oa) := f3 _ (by omega) (by omega)
  refine ⟨J1, u1 B1 (fb oa) (gmA (B1 (fb oa)) p (B1 30) 4), rdv1, ?_, f2, fun x x1 x2 x3 => ?_, ?_⟩
  · unfold fX12_goMan
    have := f1 (fun h1 => fX12_goMan_L91 45 oa (iN p) (fun h2 => some ((), h2)) FU (0 : Int32) h1)
    simp only [iN_lit] at this ⊢
    rw [this]
    exact key
  · rw [u1_eq, if_neg x3]; exact f3 x x1 x2
  · rw [u1_eq, if_pos rfl, hB]
    exact hc.gm (by omega) f4
end MD
