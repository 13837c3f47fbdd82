/-! SHARES: the class's most (2): best by one more GROUND -/
section MR
variable {I A E I' A' : Nat → Nat → Int32} {L L' : Nat → Int64} {pr ot s : Nat} {T : PH} {ga : Nat → Nat → Nat} {g q v w n p r f G P W K X Y st acc : Nat} {lf : Nat → Nat} {S : Nat → Bool}
/-- the sum that is known for a set -/
def swM (ga : Nat → Nat → Nat) (g X : Nat) : Nat := swT ga (tb X) g 6
def exV (ga : Nat → Nat → Nat) (g : Nat) (lf : Nat → Nat) (X : Nat) (x : Int32) : Prop := ∃ v, x = iN v ∧ IsMx v (Ach ga g lf (tb X))
theorem bw_L (hga : ∀ q g, ga q g ≤ 100) (hg : g ≤ 8) (hX : X < 64) (hst : st < 1000) (hs : ∀ Y, Y ≤ X → A 44 Y = iN (swM ga g Y)) (hb : ∀ Y, Y ≤ X → exV ga g lf Y (A 43 Y)) :
    ∀ n Y acc, Y < n → Y < 64 → Y &&& X = Y → acc < 100000 → ∃ res, fX4_bestWith_L10 35 (iN X) (iN st) (fun x3 h4 => some (x3, h4)) n (iN acc) (iN Y) (encC I A L pr ot T) = some (iN res, (encC I A L pr ot T)) ∧ acc ≤ res ∧ (∀ Z, Z ≠ 0 → Z ≤ Y → Z &&& X = Z → cnT (tb Z) 6 ≤ st → ∀ v, IsMx v (Ach ga g lf (tb (dif X Z))) → v + swM ga g Z ≤ res) ∧ (res = acc ∨ ∃ Z v, Z < 64 ∧ Z &&& X = Z ∧ cnT (tb Z) 6 ≤ st ∧ IsMx v (Ach ga g lf (tb (dif X Z))) ∧ res = v + swM ga g Z) := by
  intro n
  induction n with
  | zero => intro Y acc h; exact absurd h (Nat.not_lt_zero _)
  | succ n ih =>
    intro Y acc hn hY hYX hacc
    by_cases h0 : Y = 0
    · subst h0
      refine ⟨acc, ?_, Nat.le_refl _, fun Z z0 zl => absurd (Nat.le_zero.mp zl) z0, Or.inl rfl⟩
      simp (disch := first | omega | assumption | (simp (disch := omega) only [iN_lit, iN_add, iN_mul, iN_pred, iN_pred', iN_lt, iN_le, iN_eq, iN_nat, nlt_t, nlt_f, nle_t, nle_f, neq_t, neq_f, List.length_nil, List.length_cons, or_false, false_or, or_self, not_false_eq_true, not_true_eq_false, ↓reduceIte, if_true, if_false, Bool.false_eq_true, Nat.reduceAdd])) only [fX4_bestWith_L10, ↓bR_35_11, ↓bA_43, ↓bS_43, ↓bN_43, ↓bR_35_12, ↓bA_44, ↓bS_44, ↓bN_44, fX4_bestWith_J48_10, ↓hb_of (c_bitCount), ↓hb_some, ↓bd_some, ↓letE_eq, h_z0, h_z1, h_zi0, h_zi1, iN_lit, iN_add, iN_mul, iN_pred, iN_pred', iN_lt, iN_le, iN_eq, iN_nat, nlt_t, nlt_f, nle_t, nle_f, neq_t, neq_f, List.length_nil, List.length_cons, or_false, false_or, or_self, not_false_eq_true, not_true_eq_false, ↓reduceIte, if_true, if_false, Bool.false_eq_true, Nat.reduceAdd]
    · obtain ⟨s1, s2⟩ := sub_next hX hY h0 hYX
      have hnx : iN (Y - 1) &&& iN X = iN ((Y - 1) &&& X) := and_i hX (by omega)
      have hpr : iN Y - iN 1 = iN (Y - 1) := iN_sub (by omega)
      have h1 : (iN Y ≤ iN 0) = False := eq_false (by rw [iN_le (by omega) (by omega)]; omega)
      have hbc := bc_tb hY
      have hc6 := cnT_le (T := tb Y) 6
      have hdl := dif_lt' hX hY h0 hYX
      have hdi : iN X &&& (iN Y ^^^ -iN 1) = iN (dif X Y) := dif_i hX hY
      obtain ⟨v, hv1, hv2⟩ := hb (dif X Y) (by omega)
      have hv3 := Ach_le (K := 100) hga hv2.1
      have hsw := swT_le (K := 100) (T := tb Y) (g := g) hga 6
      have hsY := hs Y (by rw [← hYX]; exact Nat.and_le_right)
      generalize hsm : swM ga g Y = sm at hsY
      have hsm' : sm ≤ 600 := by rw [← hsm]; unfold swM; omega
      have hv4 : v ≤ 4800 := by
        have : g * (6 * 100) ≤ 8 * 600 := by omega
        omega
      generalize hcn : cnT (tb Y) 6 = cn at hbc hc6
      by_cases hle : cn ≤ st
      · obtain ⟨res, r1, r2, r3, r4⟩ := ih ((Y - 1) &&& X) (max acc (v + sm)) (by omega) (by omega) s2 (by omega)
        refine ⟨res, ?_, by omega, fun Z z0 zl zs zc u hu => ?_, ?_⟩
        · have hl : (iN st < iN cn) = False := eq_false (by rw [iN_lt (by omega) (by omega)]; omega)
          have hmx : (if acc < v + sm then iN (v + sm) else iN acc) = iN (max acc (v + sm)) := by
            by_cases h : acc < v + sm
            · rw [if_pos h, Nat.max_eq_right (by omega)]
            · rw [if_neg h, Nat.max_eq_left (by omega)]
          simp (disch := first | omega | assumption | (simp (disch := omega) only [iN_lit, iN_add, iN_mul, iN_pred, iN_pred', iN_lt, iN_le, iN_eq, iN_nat, nlt_t, nlt_f, nle_t, nle_f, neq_t, neq_f, List.length_nil, List.length_cons, or_false, false_or, or_self, not_false_eq_true, not_true_eq_false, ↓reduceIte, if_true, if_false, Bool.false_eq_true, Nat.reduceAdd])) only [fX4_bestWith_L10, ↓bR_35_11, ↓bA_43, ↓bS_43, ↓bN_43, ↓bR_35_12, ↓bA_44, ↓bS_44, ↓bN_44, fX4_bestWith_J48_10, ↓hb_of (c_bitCount), ↓hb_some, ↓bd_some, ↓letE_eq, h_z0, h_z1, h_zi0, h_zi1, ↓hb_of c_bitCount, iN_lit, iN_add, iN_mul, iN_pred, iN_pred', iN_lt, iN_le, iN_eq, iN_nat, nlt_t, nlt_f, nle_t, nle_f, neq_t, neq_f, List.length_nil, List.length_cons, or_false, false_or, or_self, not_false_eq_true, not_true_eq_false, ↓reduceIte, if_true, if_false, Bool.false_eq_true, Nat.reduceAdd, h1, hbc, hl, hdi, hv1, hsY, hmx, hpr, hnx]
          exact r1
        · by_cases e : Z = Y
          · subst e
            have := hu.uniq hv2
            rw [this, hsm]
            omega
          · exact r3 Z z0 (sub_all hX hY hYX (by omega) zs) zs zc u hu
        · rcases r4 with e | e
          · by_cases h : acc < v + sm
            · exact Or.inr ⟨Y, v, hY, hYX, by omega, hv2, by rw [hsm]; omega⟩
            · exact Or.inl (by omega)
          · exact Or.inr e
      · obtain ⟨res, r1, r2, r3, r4⟩ := ih ((Y - 1) &&& X) acc (by omega) (by omega) s2 hacc
        refine ⟨res, ?_, by omega, fun Z z0 zl zs zc u hu => ?_, r4⟩
        · have hl : (iN st < iN cn) = True := eq_true (by rw [iN_lt (by omega) (by omega)]; omega)
          simp (disch := first | omega | assumption | (simp (disch := omega) only [iN_lit, iN_add, iN_mul, iN_pred, iN_pred', iN_lt, iN_le, iN_eq, iN_nat, nlt_t, nlt_f, nle_t, nle_f, neq_t, neq_f, List.length_nil, List.length_cons, or_false, false_or, or_self, not_false_eq_true, not_true_eq_false, ↓reduceIte, if_true, if_false, Bool.false_eq_true, Nat.reduceAdd])) only [fX4_bestWith_L10, ↓bR_35_11, ↓bA_43, ↓bS_43, ↓bN_43, ↓bR_35_12, ↓bA_44, ↓bS_44, ↓bN_44, fX4_bestWith_J48_10, ↓hb_of (c_bitCount), ↓hb_some, ↓bd_some, ↓letE_eq, h_z0, h_z1, h_zi0, h_zi1, ↓hb_of c_bitCount, iN_lit, iN_add, iN_mul, iN_pred, iN_pred', iN_lt, iN_le, iN_eq, iN_nat, nlt_t, nlt_f, nle_t, nle_f, neq_t, neq_f, List.length_nil, List.length_cons, or_false, false_or, or_self, not_false_eq_true, not_true_eq_false, ↓reduceIte, if_true, if_false, Bool.false_eq_true, Nat.reduceAdd, h1, hbc, hl, hpr, hnx]
          exact r1
        · by_cases e : Z = Y
          · subst e; omega
          · exact r3 Z z0 (sub_all hX hY hYX (by omega) zs) zs zc u hu
theorem bw_C (hga : ∀ q g, ga q g ≤ 100) (hg : g ≤ 8) (hX : X < 64) (hst : lf g < 1000) (hs : ∀ Y, Y ≤ X → A 44 Y = iN (swM ga g Y)) (hb : ∀ Y, Y ≤ X → exV ga g lf Y (A 43 Y)) :
    ∃ x, fX4_bestWith 35 (iN X) (iN (lf g)) (encC I A L pr ot T) = some (x, (encC I A L pr ot T)) ∧ exV ga (g + 1) lf X x := by
  obtain ⟨v, hv1, hv2⟩ := hb X (Nat.le_refl _)
  have hv3 := Ach_le (K := 100) hga hv2.1
  obtain ⟨res, r1, r2, r3, r4⟩ := bw_L (I := I) (L := L) (pr := pr) (ot := ot) (T := T) hga hg hX hst hs hb FU X v (by unfold FU; omega) hX (Nat.and_self X) (by omega)
  refine ⟨iN res, ?_, res, rfl, ?_, fun w hw => ?_⟩
  · generalize lf g = l at r1 ⊢
    simp (disch := first | omega | assumption | (simp (disch := omega) only [iN_lit, iN_add, iN_mul, iN_pred, iN_pred', iN_lt, iN_le, iN_eq, iN_nat, nlt_t, nlt_f, nle_t, nle_f, neq_t, neq_f, List.length_nil, List.length_cons, or_false, false_or, or_self, not_false_eq_true, not_true_eq_false, ↓reduceIte, if_true, if_false, Bool.false_eq_true, Nat.reduceAdd])) only [fX4_bestWith, ↓bR_35_11, ↓bA_43, ↓bS_43, ↓bN_43, fX4_bestWith_J48_10, ↓hb_some, ↓bd_some, ↓letE_eq, h_z0, h_z1, h_zi0, h_zi1, iN_lit, iN_add, iN_mul, iN_pred, iN_pred', iN_lt, iN_le, iN_eq, iN_nat, nlt_t, nlt_f, nle_t, nle_f, neq_t, neq_f, List.length_nil, List.length_cons, or_false, false_or, or_self, not_false_eq_true, not_true_eq_false, ↓reduceIte, if_true, if_false, Bool.false_eq_true, Nat.reduceAdd, hv1]
    exact r1
  · rcases r4 with e | ⟨Z, u, h1, h2, h3, h4, h5⟩
    · rw [e]; exact hv2.1.up
    · refine ⟨tb Z, fun q hq => ?_, h3, u, ?_, h5⟩
      · have : (Z &&& X).testBit q = true := by rw [h2]; exact hq
        rw [Nat.testBit_and] at this
        exact (Bool.and_eq_true_iff.mp this).2
      · rw [← tb_dif hX]; exact h4.1
  · obtain ⟨T', h1, h2, v', h3, h4⟩ := hw
    have h6 : ∀ q, 6 ≤ q → T' q = false := fun q hq => by
      cases e : T' q with
      | false => rfl
      | true => have := h1 q e; rw [tb_hi hX hq] at this; cases this
    have et := tb_mk h6
    by_cases h0 : mkM T' = 0
    · have hz : ∀ q, T' q = false := fun q => by
        rw [← et, h0]; exact Nat.zero_testBit q
      have a := hv2.2 v' (Ach.mono (fun q hq => (Bool.and_eq_true_iff.mp hq).1) h3)
      have b : ∀ n, swT ga T' g n = 0 := by
        intro n
        induction n with
        | zero => rfl
        | succ n ih => show swT ga T' g n + (if T' n then ga n g else 0) = 0; rw [ih, hz n]; rfl
      rw [h4, b]
      omega
    · have hss := sub_of hX h1
      have hm := mk_lt (T := T')
      have hd := dif_lt' hX hm h0 hss
      obtain ⟨u, hu1, hu2⟩ := hb (dif X (mkM T')) (by omega)
      have a := r3 (mkM T') h0 (by rw [← hss]; exact Nat.and_le_right) hss (by rw [et]; exact h2) u hu2
      have b := hu2.2 v' (by rw [tb_dif hX, et]; exact h3)
      unfold swM at a
      rw [et] at a
      omega
end MR
