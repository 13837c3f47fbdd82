/-! CALLS: later, settles, when, apart -/
theorem ht_inj : ∀ a b c d a' b' c' d' : Nat, a < 10 → b < 10 → c < 10 → d < 10 → a' < 10 → b' < 10 → c' < 10 → d' < 10 → ((a * 10 + b) * 10 + c) * 10 + d = ((a' * 10 + b') * 10 + c') * 10 + d' → a = a' ∧ b = b' ∧ c = c' ∧ d = d' := by
  intros; omega
/-- the humours of p are the same -/
def sameH (Y Z : Nat → Int32) (p : Nat) : Nat → Bool
  | 0 => true
  | k + 1 => sameH Y Z p k && decide (Y (8 + p * 4 + k) = Z (8 + p * 4 + k))
theorem ht_eq {Y Z : Nat → Int32} {p : Nat} (hY : okH Y p) (hZ : okH Z p) : (htS Z p 4 = htS Y p 4) = (sameH Y Z p 4 = true) := by
  obtain ⟨a, ha, ea⟩ := hY.of (h := 0) (by decide)
  obtain ⟨b, hb, eb⟩ := hY.of (h := 1) (by decide)
  obtain ⟨c, hc, ec⟩ := hY.of (h := 2) (by decide)
  obtain ⟨d, hd, ed⟩ := hY.of (h := 3) (by decide)
  obtain ⟨a', ha', ea'⟩ := hZ.of (h := 0) (by decide)
  obtain ⟨b', hb', eb'⟩ := hZ.of (h := 1) (by decide)
  obtain ⟨c', hc', ec'⟩ := hZ.of (h := 2) (by decide)
  obtain ⟨d', hd', ed'⟩ := hZ.of (h := 3) (by decide)
  have e1 : htS Y p 4 = iN (((a * 10 + b) * 10 + c) * 10 + d) := by
    show (((0 * 10 + Y (8 + p * 4 + 0)) * 10 + Y (8 + p * 4 + 1)) * 10 + Y (8 + p * 4 + 2)) * 10 + Y (8 + p * 4 + 3) = _
    rw [ea, eb, ec, ed]
    simp only [iN_lit, iN_mul, iN_add]
    congr 1
    omega
  have e2 : htS Z p 4 = iN (((a' * 10 + b') * 10 + c') * 10 + d') := by
    show (((0 * 10 + Z (8 + p * 4 + 0)) * 10 + Z (8 + p * 4 + 1)) * 10 + Z (8 + p * 4 + 2)) * 10 + Z (8 + p * 4 + 3) = _
    rw [ea', eb', ec', ed']
    simp only [iN_lit, iN_mul, iN_add]
    congr 1
    omega
  have e3 : (sameH Y Z p 4 = true) = (a = a' ∧ b = b' ∧ c = c' ∧ d = d') := by
    unfold sameH sameH sameH sameH sameH
    rw [ea, eb, ec, ed, ea', eb', ec', ed']
    apply propext
    simp only [Bool.and_eq_true, decide_eq_true_eq, true_and, iN_eq (show a < 2147483648 by omega) (show a' < 2147483648 by omega), iN_eq (show b < 2147483648 by omega) (show b' < 2147483648 by omega), iN_eq (show c < 2147483648 by omega) (show c' < 2147483648 by omega), iN_eq (show d < 2147483648 by omega) (show d' < 2147483648 by omega), and_assoc]
  rw [e1, e2, e3, iN_eq (by omega) (by omega)]
  apply propext
  constructor
  · intro h
    exact ht_inj _ _ _ _ _ _ _ _ ha hb hc hd ha' hb' hc' hd' h.symm
  · rintro ⟨rfl, rfl, rfl, rfl⟩; rfl
theorem sameH_agr {Y Z Y' Z' : Nat → Int32} {p : Nat} (h1 : ∀ j, 8 + p * 4 ≤ j → j < 8 + p * 4 + 4 → Y j = Y' j) (h2 : ∀ j, 8 + p * 4 ≤ j → j < 8 + p * 4 + 4 → Z j = Z' j) : ∀ k, k ≤ 4 → sameH Y Z p k = sameH Y' Z' p k
  | 0, _ => rfl
  | k + 1, hk => by
    unfold sameH
    rw [sameH_agr h1 h2 k (by omega), h1 _ (by omega) (by omega), h2 _ (by omega) (by omega)]
section LA
variable {I A E I' A' : Nat → Nat → Int32} {L L' : Nat → Int64} {pr ot s : Nat} {J J' : Nat → Int32} {B B' : Nat → Nat → Int32} {M M' : Nat → Int64} {rdv : Value} {ru : Nat} {T : PH} {G P W p g n nr sz ro oa w : Nat} {Z R : Nat → Int32} {x y z : Int32} {out : Nat → Int64} {pu : (Nat → Int32) → Int32}
theorem agr.hu {Y Z : Nat → Int32} (h : agr p Y Z) : ∀ j, 8 + p * 4 ≤ j → j < 8 + p * 4 + 4 → Y j = Z j := fun j h1 h2 => h.1 j (Or.inl ⟨h1, h2⟩)
theorem p_later (h : INV s I A L pr ot J B M ru G P W) (x y z : Int32) : pairG s I A L pr ot J B M rdv ru out (fX11_later 0 x y z) (fX12_later 45 x y z) := by
  have hI := h
  obtain ⟨hpr, hru, pu, nr, hnr, hr, hu, hJ⟩ := h.rule
  obtain ⟨hF, hM, hpl, hz, hc, hn2, -⟩ := h
  have hT := hM.TS
  have h8 := hM.2.2.2.1
  have h6 := hM.2.2.2.2.1
  have hMa : FM A (u1 J 13 0) B G P W := hM.j0 (by decide)
  have hMb : FM A (u1 J 13 (iN 0)) B G P W := hMa
  rcases arg_lt P (by omega) x with ⟨p, hp, rfl⟩ | hx
  · rcases arg_le 3 (by decide) y with ⟨hh, hh3, rfl⟩ | hy
    · rcases arg_le 99 (by decide) z with ⟨n, hn, rfl⟩ | hzz
      · have ag := daN_agr (A := A) (pu := pu) (Z := A 28) h8 h6 hp n
        refine pairG_q (ans := daN A pu G P (A 28) n (8 + p * 4 + hh)) (rw := some (hrow (daN A pu G P (A 28) n) p ++ [(waS A (daN A pu G P (A 28) n) W p).toInt64])) hI (fun T => ?_) (fun I E L pr ot T => ?_)
        · obtain ⟨e1, A1, e2, e3, e4⟩ := c_thenPass (I := I) (A := A) (L := L) (pr := pr) (ot := ot) (T := T) (n := n) hF hpr hr hz hn2 hp (by omega)
          have f1 := c_tellHumours (I := I) (A := A1) (L := L) (pr := pr) (ot := ot) (T := T) (p := p) (by omega)
          have f2 := c_wantsOf (I := u2 I 9 1 (iN 4)) (A := A1) (L := hL L (A1 32) p 4) (pr := pr) (ot := ot) (T := T) (o := 31) (p := p) (G := G) (P := P) (W := W) hF (e3.ts hT) (Or.inr rfl) (by omega)
          have f3 := c_add (I := I) (A := A1) (L := hL L (A1 32) p 4) (pr := pr) (ot := ot) (T := T) (v := (waS A (daN A pu G P (A 28) n) W p).toInt64) (n := 4) (by decide)
          have f4 := c_humourOf (I := u2 I 9 1 (iN 5)) (A := A1) (L := vp_updL (hL L (A1 32) p 4) 4 (waS A (daN A pu G P (A 28) n) W p).toInt64) (pr := pr) (ot := ot) (T := T) (o := 31) (p := p) (k := hh) (Or.inr rfl) (by omega) (by omega)
          have g1 : waS A1 (A1 (31 + 1)) W p = waS A (daN A pu G P (A 28) n) W p := by
            rw [e3.wa]
            show waS A (A1 32) W p = _
            rw [e4]
            exact (waS_agr ag.hu hT).symm
          have g2 : A1 (31 + 1) (8 + p * 4 + hh) = daN A pu G P (A 28) n (8 + p * 4 + hh) := by
            show A1 32 _ = _
            rw [e4]
            exact (ag.hu _ (by omega) (by omega)).symm
          rw [g1] at f2
          rw [g2] at f4
          refine ⟨u2 I 9 1 (iN 5), A1, vp_updL (hL L (A1 32) p 4) 4 (waS A (daN A pu G P (A 28) n) W p).toInt64, ?_, frI.u, e3, by simp [hrow], row_s (n := iN 4) ?_ rfl⟩
          · simp (disch := first | omega | assumption | (simp (disch := omega) only [iN_lit, iN_add, iN_mul, iN_pred, iN_pred', iN_lt, iN_le, iN_eq, iN_nat, nlt_t, nlt_f, nle_t, nle_f, neq_t, neq_f, List.length_nil, List.length_cons, or_false, false_or, or_self, not_false_eq_true, not_true_eq_false, ↓reduceIte, if_true, if_false, Bool.false_eq_true, Nat.reduceAdd])) only [fX11_later, ↓bK_11, ↓zK _, ↓bK_0, ↓bK_9, ↓bR_0_7, ↓bR_0_9, ↓bR_0_8, ↓bR_0_6, ↓hb_of (hasP_y _ _), ↓hb_of (hasP_n _ _), ↓hb_of (within_y _ _ _), ↓hb_of (within_n _), ↓hb_of (c_presentRule), ↓hb_some, ↓bd_some, ↓letE_eq, h_z0, h_z1, h_zi0, h_zi1, ↓hb_of (hasP_y hF hp), ↓hb_of e1, ↓hb_of e2, ↓hb_of f1, ↓hb_of f2, ↓hb_of f3, ↓hb_of f4, iN_lit, iN_add, iN_mul, iN_pred, iN_pred', iN_lt, iN_le, iN_eq, iN_nat, nlt_t, nlt_f, nle_t, nle_f, neq_t, neq_f, List.length_nil, List.length_cons, or_false, false_or, or_self, not_false_eq_true, not_true_eq_false, ↓reduceIte, if_true, if_false, Bool.false_eq_true, Nat.reduceAdd]
          · rw [hrow_agr (Z := A1 32) (fun j h1 h2 => by rw [ag.hu j h1 h2, e4])]
            exact hrow_C
        · have l1 := r_layT (I := I) (E := E) (L := L) (pr := pr) (ot := ot) (J := u1 J 13 (iN 0)) (B := B) (M := M) (rdv := rdv) (ru := ru) (T := T)
          have hM1 : FM A (u1 J 13 (iN 0)) (u1 B 29 (va_cpy (B 0) (B 29) 0 0 88)) G P W := hMb.q frRJ.refl frRB.lay
          have hrf := rf_or ru
          obtain ⟨J1, B1, rdv1, e1, e2, -, e4, e5⟩ := r_goDays (I := I) (E := E) (L := L) (pr := pr) (ot := ot) (M := M) (rdv := rdv) (ru := ru) (T := T) (oa := 61) (Z := A 28) (R := B (rf ru)) (N := n) hM1 hu hJ (by rw [u1_eq, if_neg (by omega)]) (Or.inl hru) (Or.inr rfl) (by rw [fb_61, u1_eq, if_pos rfl]; exact hc.lay) hz (by omega)
          rw [fb_61] at e4 e5
          have hM2 : FM A J1 B1 G P W := hM1.frk e2 e4 (Or.inr rfl)
          have hz' := hz.dn (A := A) (pu := pu) h8 h6 n
          have f1 := r_tellHumours (I := I) (E := E) (L := L) (pr := pr) (ot := ot) (J := u1 J1 12 (iN 0)) (B := B1) (M := M) (rdv := rdv1) (ru := ru) (T := T) (oa := 61) (Z := daN A pu G P (A 28) n) (p := p) (Or.inr rfl) (by omega) e5 (by rw [u1_eq, if_pos rfl])
          rw [u1_u1] at f1
          have hM3 : FM A (u1 J1 12 (iN 4)) B1 G P W := hM2.j0 (by decide)
          have f2 := r_had (I := I) (E := E) (L := L) (pr := pr) (ot := ot) (J := u1 J1 12 (iN 4)) (B := B1) (M := hL M (daN A pu G P (A 28) n) p 4) (rdv := rdv1) (ru := ru) (T := T) (oa := 61) (p := p) hM3 (Or.inr rfl) e5 (by omega) (hz'.2.2.1 p (by omega))
          have f3 := r_tell (I := I) (E := E) (L := L) (pr := pr) (ot := ot) (J := u1 J1 12 (iN 4)) (B := B1) (M := hL M (daN A pu G P (A 28) n) p 4) (rdv := rdv1) (ru := ru) (T := T) (v := (waS A (daN A pu G P (A 28) n) W p).toInt64) (n := 4) (by rw [u1_eq, if_pos rfl]) (by decide)
          rw [u1_u1] at f3
          have f4 := r_humour (I := I) (E := E) (L := L) (pr := pr) (ot := ot) (J := u1 J1 12 (iN 5)) (B := B1) (M := vp_updL (hL M (daN A pu G P (A 28) n) p 4) 4 (waS A (daN A pu G P (A 28) n) W p).toInt64) (rdv := rdv1) (ru := ru) (T := T) (oa := 61) (p := p) (h := hh) (Or.inr rfl) (by omega) (by omega) e5
          refine ⟨u1 J1 12 (iN 5), B1, vp_updL (hL M (daN A pu G P (A 28) n) p 4) 4 (waS A (daN A pu G P (A 28) n) W p).toInt64, rdv1, ?_, (frRJ.u (by decide)).trans (e2.r.trans (frRJ.u (by decide))), frRB.lay.trans e4.r, by simp [hrow], by rw [u1_eq, if_pos rfl]; exact row_s hrow_C rfl⟩
          simp (disch := first | omega | assumption | (simp (disch := omega) only [iN_lit, iN_add, iN_mul, iN_pred, iN_pred', iN_lt, iN_le, iN_eq, iN_nat, nlt_t, nlt_f, nle_t, nle_f, neq_t, neq_f, List.length_nil, List.length_cons, or_false, false_or, or_self, not_false_eq_true, not_true_eq_false, ↓reduceIte, if_true, if_false, Bool.false_eq_true, Nat.reduceAdd])) only [fX12_later, ↓brK, ↓brR_0, ↓brA_0, ↓brS_0, ↓brR_29, ↓brA_29, ↓brS_29, ↓brW_13, ↓brW_12, ↓hb_of (in_y _ _ _), ↓hb_of (in_n _), ↓hb_some, ↓bd_some, ↓letE_eq, h_z0, h_z1, h_zi0, h_zi1, ↓hb_of (r_isMan hMa hp), ↓hb_of (r_isMan hMb hp), ↓hb_of l1, ↓hb_of e1, ↓hb_of f1, ↓hb_of f2, ↓hb_of f3, ↓hb_of f4, iN_lit, iN_add, iN_mul, iN_pred, iN_pred', iN_lt, iN_le, iN_eq, iN_nat, nlt_t, nlt_f, nle_t, nle_f, neq_t, neq_f, List.length_nil, List.length_cons, or_false, false_or, or_self, not_false_eq_true, not_true_eq_false, ↓reduceIte, if_true, if_false, Bool.false_eq_true, Nat.reduceAdd]
      · refine pairG_q (ans := -1) hI (fun T => qC_no ?_) (qM_no (fun I E L pr ot T => ?_))
        · simp (disch := first | omega | assumption | (simp (disch := omega) only [iN_lit, iN_add, iN_mul, iN_pred, iN_pred', iN_lt, iN_le, iN_eq, iN_nat, nlt_t, nlt_f, nle_t, nle_f, neq_t, neq_f, List.length_nil, List.length_cons, or_false, false_or, or_self, not_false_eq_true, not_true_eq_false, ↓reduceIte, if_true, if_false, Bool.false_eq_true, Nat.reduceAdd])) only [fX11_later, ↓bK_11, ↓zK _, ↓bK_0, ↓bK_9, ↓bR_0_7, ↓bR_0_9, ↓bR_0_8, ↓bR_0_6, ↓hb_of (hasP_y _ _), ↓hb_of (hasP_n _ _), ↓hb_of (within_y _ _ _), ↓hb_of (within_n _), ↓hb_of (c_copy _ _), ↓hb_of (c_presentRule), ↓hb_of (c_tellHumours _), ↓hb_of (c_wantsOf _ _ _ _), ↓hb_of (c_add _), ↓hb_of (c_humourOf _ _ _), ↓hb_some, ↓bd_some, ↓letE_eq, h_z0, h_z1, h_zi0, h_zi1, iN_lit, iN_add, iN_mul, iN_pred, iN_pred', iN_lt, iN_le, iN_eq, iN_nat, nlt_t, nlt_f, nle_t, nle_f, neq_t, neq_f, List.length_nil, List.length_cons, or_false, false_or, or_self, not_false_eq_true, not_true_eq_false, ↓reduceIte, if_true, if_false, Bool.false_eq_true, Nat.reduceAdd]
        · simp (disch := first | omega | assumption | (simp (disch := omega) only [iN_lit, iN_add, iN_mul, iN_pred, iN_pred', iN_lt, iN_le, iN_eq, iN_nat, nlt_t, nlt_f, nle_t, nle_f, neq_t, neq_f, List.length_nil, List.length_cons, or_false, false_or, or_self, not_false_eq_true, not_true_eq_false, ↓reduceIte, if_true, if_false, Bool.false_eq_true, Nat.reduceAdd])) only [fX12_later, ↓brK, ↓brR_0, ↓brA_0, ↓brS_0, ↓brR_29, ↓brA_29, ↓brS_29, ↓brW_13, ↓brW_12, ↓hb_of (isM_n _ _), ↓hb_of (r_isMan _ _), ↓hb_of (in_y _ _ _), ↓hb_of (in_n _), ↓hb_of (r_layT), ↓hb_of (r_layS), ↓hb_of (r_layU _), ↓hb_of (r_layV _), ↓hb_of (r_layK _), ↓hb_of (r_tellHumours _ _ _ _), ↓hb_of (r_had _ _ _ _ _), ↓hb_of (r_tell _ _), ↓hb_of (r_humour _ _ _ _), ↓hb_some, ↓bd_some, ↓letE_eq, h_z0, h_z1, h_zi0, h_zi1, iN_lit, iN_add, iN_mul, iN_pred, iN_pred', iN_lt, iN_le, iN_eq, iN_nat, nlt_t, nlt_f, nle_t, nle_f, neq_t, neq_f, List.length_nil, List.length_cons, or_false, false_or, or_self, not_false_eq_true, not_true_eq_false, ↓reduceIte, if_true, if_false, Bool.false_eq_true, Nat.reduceAdd]
    · refine pairG_q (ans := -1) hI (fun T => qC_no ?_) (qM_no (fun I E L pr ot T => ?_))
      · simp (disch := first | omega | assumption | (simp (disch := omega) only [iN_lit, iN_add, iN_mul, iN_pred, iN_pred', iN_lt, iN_le, iN_eq, iN_nat, nlt_t, nlt_f, nle_t, nle_f, neq_t, neq_f, List.length_nil, List.length_cons, or_false, false_or, or_self, not_false_eq_true, not_true_eq_false, ↓reduceIte, if_true, if_false, Bool.false_eq_true, Nat.reduceAdd])) only [fX11_later, ↓bK_11, ↓zK _, ↓bK_0, ↓bK_9, ↓bR_0_7, ↓bR_0_9, ↓bR_0_8, ↓bR_0_6, ↓hb_of (hasP_y _ _), ↓hb_of (hasP_n _ _), ↓hb_of (within_y _ _ _), ↓hb_of (within_n _), ↓hb_of (c_copy _ _), ↓hb_of (c_presentRule), ↓hb_of (c_tellHumours _), ↓hb_of (c_wantsOf _ _ _ _), ↓hb_of (c_add _), ↓hb_of (c_humourOf _ _ _), ↓hb_some, ↓bd_some, ↓letE_eq, h_z0, h_z1, h_zi0, h_zi1, iN_lit, iN_add, iN_mul, iN_pred, iN_pred', iN_lt, iN_le, iN_eq, iN_nat, nlt_t, nlt_f, nle_t, nle_f, neq_t, neq_f, List.length_nil, List.length_cons, or_false, false_or, or_self, not_false_eq_true, not_true_eq_false, ↓reduceIte, if_true, if_false, Bool.false_eq_true, Nat.reduceAdd]
      · simp (disch := first | omega | assumption | (simp (disch := omega) only [iN_lit, iN_add, iN_mul, iN_pred, iN_pred', iN_lt, iN_le, iN_eq, iN_nat, nlt_t, nlt_f, nle_t, nle_f, neq_t, neq_f, List.length_nil, List.length_cons, or_false, false_or, or_self, not_false_eq_true, not_true_eq_false, ↓reduceIte, if_true, if_false, Bool.false_eq_true, Nat.reduceAdd])) only [fX12_later, ↓brK, ↓brR_0, ↓brA_0, ↓brS_0, ↓brR_29, ↓brA_29, ↓brS_29, ↓brW_13, ↓brW_12, ↓hb_of (isM_n _ _), ↓hb_of (r_isMan _ _), ↓hb_of (in_y _ _ _), ↓hb_of (in_n _), ↓hb_of (r_layT), ↓hb_of (r_layS), ↓hb_of (r_layU _), ↓hb_of (r_layV _), ↓hb_of (r_layK _), ↓hb_of (r_tellHumours _ _ _ _), ↓hb_of (r_had _ _ _ _ _), ↓hb_of (r_tell _ _), ↓hb_of (r_humour _ _ _ _), ↓hb_some, ↓bd_some, ↓letE_eq, h_z0, h_z1, h_zi0, h_zi1, iN_lit, iN_add, iN_mul, iN_pred, iN_pred', iN_lt, iN_le, iN_eq, iN_nat, nlt_t, nlt_f, nle_t, nle_f, neq_t, neq_f, List.length_nil, List.length_cons, or_false, false_or, or_self, not_false_eq_true, not_true_eq_false, ↓reduceIte, if_true, if_false, Bool.false_eq_true, Nat.reduceAdd]
  · refine pairG_q (ans := -1) hI (fun T => qC_no ?_) (qM_no (fun I E L pr ot T => ?_))
    · simp (disch := first | omega | assumption | (simp (disch := omega) only [iN_lit, iN_add, iN_mul, iN_pred, iN_pred', iN_lt, iN_le, iN_eq, iN_nat, nlt_t, nlt_f, nle_t, nle_f, neq_t, neq_f, List.length_nil, List.length_cons, or_false, false_or, or_self, not_false_eq_true, not_true_eq_false, ↓reduceIte, if_true, if_false, Bool.false_eq_true, Nat.reduceAdd])) only [fX11_later, ↓bK_11, ↓zK _, ↓bK_0, ↓bK_9, ↓bR_0_7, ↓bR_0_9, ↓bR_0_8, ↓bR_0_6, ↓hb_of (hasP_y _ _), ↓hb_of (hasP_n _ _), ↓hb_of (within_y _ _ _), ↓hb_of (within_n _), ↓hb_of (c_copy _ _), ↓hb_of (c_presentRule), ↓hb_of (c_tellHumours _), ↓hb_of (c_wantsOf _ _ _ _), ↓hb_of (c_add _), ↓hb_of (c_humourOf _ _ _), ↓hb_some, ↓bd_some, ↓letE_eq, h_z0, h_z1, h_zi0, h_zi1, iN_lit, iN_add, iN_mul, iN_pred, iN_pred', iN_lt, iN_le, iN_eq, iN_nat, nlt_t, nlt_f, nle_t, nle_f, neq_t, neq_f, List.length_nil, List.length_cons, or_false, false_or, or_self, not_false_eq_true, not_true_eq_false, ↓reduceIte, if_true, if_false, Bool.false_eq_true, Nat.reduceAdd]
    · simp (disch := first | omega | assumption | (simp (disch := omega) only [iN_lit, iN_add, iN_mul, iN_pred, iN_pred', iN_lt, iN_le, iN_eq, iN_nat, nlt_t, nlt_f, nle_t, nle_f, neq_t, neq_f, List.length_nil, List.length_cons, or_false, false_or, or_self, not_false_eq_true, not_true_eq_false, ↓reduceIte, if_true, if_false, Bool.false_eq_true, Nat.reduceAdd])) only [fX12_later, ↓brK, ↓brR_0, ↓brA_0, ↓brS_0, ↓brR_29, ↓brA_29, ↓brS_29, ↓brW_13, ↓brW_12, ↓hb_of (isM_n _ _), ↓hb_of (r_isMan _ _), ↓hb_of (in_y _ _ _), ↓hb_of (in_n _), ↓hb_of (r_layT), ↓hb_of (r_layS), ↓hb_of (r_layU _), ↓hb_of (r_layV _), ↓hb_of (r_layK _), ↓hb_of (r_tellHumours _ _ _ _), ↓hb_of (r_had _ _ _ _ _), ↓hb_of (r_tell _ _), ↓hb_of (r_humour _ _ _ _), ↓hb_some, ↓bd_some, ↓letE_eq, h_z0, h_z1, h_zi0, h_zi1, iN_lit, iN_add, iN_mul, iN_pred, iN_pred', iN_lt, iN_le, iN_eq, iN_nat, nlt_t, nlt_f, nle_t, nle_f, neq_t, neq_f, List.length_nil, List.length_cons, or_false, false_or, or_self, not_false_eq_true, not_true_eq_false, ↓reduceIte, if_true, if_false, Bool.false_eq_true, Nat.reduceAdd]
end LA
