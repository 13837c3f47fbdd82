/-! CALLS: gives, takesBack, makes: class and model -/
section AP
variable {I A E : Nat → Nat → Int32} {L : Nat → Int64} {pr ot s : Nat} {J : Nat → Int32} {B : Nat → Nat → Int32} {M : Nat → Int64} {rdv : Value} {ru : Nat} {T : PH} {G P W p g : Nat} {Z : Nat → Int32} {x y : Int32} {out : Nat → Int64}
theorem FSi {nx sz : Nat} (hF : FS I G P W) : FS (u2 (u2 I 7 1 (iN nx)) 7 2 (iN sz)) G P W := hF
theorem INV.past (h : INV s I A L pr ot J B M ru G P W) : ∃ nx sz, nx < 12 ∧ sz ≤ 12 ∧ I 7 1 = iN nx ∧ I 7 2 = iN sz ∧ J 27 = iN sz := by
  obtain ⟨h1, h2, hpl, h3, h4, h5, h6, h7, ⟨nx, sz, a, b, c, d, e, -⟩, -⟩ := h
  exact ⟨nx, sz, a, b, c, d, e⟩
theorem r_rem46 {sz : Nat} (hJ : J 27 = iN sz) (hs : sz ≤ 12) : ∃ Y, fX12_remember 45 46 (encC I E L pr ot (encR J B M rdv ru T)) = some ((), (encC I E L pr ot (encR (u1 J 27 (iN (if sz < 12 then sz + 1 else 12))) (u1 B 26 Y) M rdv ru T))) ∧ remB (B 26) (B 0) sz Y :=
  r_rem (bf := 0) (fun k B J hk => r_layU hk) (by decide) hJ hs
theorem r_rem60 {sz : Nat} (hJ : J 27 = iN sz) (hs : sz ≤ 12) : ∃ Y, fX12_remember 45 60 (encC I E L pr ot (encR J B M rdv ru T)) = some ((), (encC I E L pr ot (encR (u1 J 27 (iN (if sz < 12 then sz + 1 else 12))) (u1 B 26 Y) M rdv ru T))) ∧ remB (B 26) (B 28) sz Y :=
  r_rem (bf := 28) (fun k B J hk => r_layV hk) (by decide) hJ hs
theorem p_gives (h : INV s I A L pr ot J B M ru G P W) (x y : Int32) : pairG s I A L pr ot J B M rdv ru out (fX11_gives 0 x y) (fX12_gives 45 x y) := by
  obtain ⟨nx, sz, hn, hs, e1, e2, e3⟩ := h.past
  have hI := h
  obtain ⟨hF, hM, hpl, hz, hc, hn2, -⟩ := h
  have hM0 : FM A (u1 J 13 0) B G P W := hM.j0 (by decide)
  have h8 := hM.2.2.2.1
  have h6 := hM.2.2.2.2.1
  by_cases c : (0 ≤ x ∧ x < iN P) ∧ (0 ≤ y ∧ y < iN G)
  · obtain ⟨p, hp, rfl⟩ := iN_of c.1.1 c.1.2 (by omega)
    obtain ⟨g, hg, rfl⟩ := iN_of c.2.1 c.2.2 (by omega)
    cases hb : hdB (A 28) p g with
    | true =>
      refine pairG_q hI (fun T => qC_cp hz.1 (e_no hz.1 hn2 (c_give_h hF (Or.inl rfl) hp hg hb) (eq_true (by decide)))) (qM_no (fun I E L pr ot T => ?_))
      simp (disch := first | omega | assumption | (simp (disch := omega) only [iN_lit, iN_add, iN_mul, iN_pred, iN_pred', iN_lt, iN_le, iN_eq, iN_nat, nlt_t, nlt_f, nle_t, nle_f, neq_t, neq_f, List.length_nil, List.length_cons, or_false, false_or, or_self, not_false_eq_true, not_true_eq_false, ↓reduceIte, if_true, if_false, Bool.false_eq_true, Nat.reduceAdd])) only [fX12_gives, ↓brK, ↓brR_0, ↓brA_0, ↓brS_0, ↓brW_13, ↓hb_of (r_goGift _ _ _), ↓hb_of (c_bitCount), ↓hb_some, ↓bd_some, ↓letE_eq, h_z0, h_z1, h_zi0, h_zi1, ↓hb_of (rG_h hM0 hc hp hg hb), iN_lit, iN_add, iN_mul, iN_pred, iN_pred', iN_lt, iN_le, iN_eq, iN_nat, nlt_t, nlt_f, nle_t, nle_f, neq_t, neq_f, List.length_nil, List.length_cons, or_false, false_or, or_self, not_false_eq_true, not_true_eq_false, ↓reduceIte, if_true, if_false, Bool.false_eq_true, Nat.reduceAdd, m2]
    | false =>
      by_cases hs0 : A 28 g = 0
      · refine pairG_q hI (fun T => qC_cp hz.1 (e_no hz.1 hn2 (c_give_o hF (Or.inl rfl) hp hg hb hs0) (eq_true (by decide)))) (qM_no (fun I E L pr ot T => ?_))
        simp (disch := first | omega | assumption | (simp (disch := omega) only [iN_lit, iN_add, iN_mul, iN_pred, iN_pred', iN_lt, iN_le, iN_eq, iN_nat, nlt_t, nlt_f, nle_t, nle_f, neq_t, neq_f, List.length_nil, List.length_cons, or_false, false_or, or_self, not_false_eq_true, not_true_eq_false, ↓reduceIte, if_true, if_false, Bool.false_eq_true, Nat.reduceAdd])) only [fX12_gives, ↓brK, ↓brR_0, ↓brA_0, ↓brS_0, ↓brW_13, ↓hb_of (r_goGift _ _ _), ↓hb_of (c_bitCount), ↓hb_some, ↓bd_some, ↓letE_eq, h_z0, h_z1, h_zi0, h_zi1, ↓hb_of (rG_o hM0 hc hp hg hb hs0), iN_lit, iN_add, iN_mul, iN_pred, iN_pred', iN_lt, iN_le, iN_eq, iN_nat, nlt_t, nlt_f, nle_t, nle_f, neq_t, neq_f, List.length_nil, List.length_cons, or_false, false_or, or_self, not_false_eq_true, not_true_eq_false, ↓reduceIte, if_true, if_false, Bool.false_eq_true, Nat.reduceAdd, m3]
      · have hs1 : (1 : Int32) ≤ A 28 g := by
          have hz0 := (hz.2.1 g (by omega)).1
          rw [Int32.le_iff_toInt_le] at hz0 ⊢
          have i0 : (0 : Int32).toInt = 0 := by decide
          have i1 : (1 : Int32).toInt = 1 := by decide
          have : ¬ (A 28 g).toInt = 0 := fun c => hs0 (Int32.toInt_inj.mp (by rw [c, i0]))
          omega
        have hz' : OK G P (giZ (A 28) p g) := hz.gi h8 h6 hp hg hs1
        have f1 := c_give_k (I := I) (A := u1 A 32 (A 28)) (L := L) (pr := pr) (ot := ot) (T := encR J B M rdv ru [.inl (.long, (1, .inr (.inl out)))]) (o := 27) hF (Or.inl rfl) hp hg hb hs1
        have f2 := e_yes (I := I) (A := A) (L := L) (pr := pr) (ot := ot) (T := encR J B M rdv ru [.inl (.long, (1, .inr (.inl out)))]) (Z := giZ (A 28) p g) hz.1 e1 e2 hn hs
        have f3 := c_copy (I := I) (L := L) (pr := pr) (ot := ot) (T := encR J B M rdv ru [.inl (.long, (1, .inr (.inl out)))]) hz.1 hn2
        have e9 : (u1 A 32 (A 28)) (27 + 1) = A 28 := rfl
        rw [e9] at f1
        have hbc : (bc (gsS (giZ (A 28) p g) G p) < iN 0) = False := by
          rw [hz'.gs h8 (by omega)]
          exact nn_lt (bc_bt _)
        have hJ0 : (u1 J 13 0) 27 = iN sz := e3
        obtain ⟨Y, g1, g2⟩ := r_rem46 (I := u2 (u2 I 7 1 (iN ((nx + 1) % 12))) 7 2 (iN (if sz + 1 < 12 then sz + 1 else 12))) (E := u1 (u1 (u1 A 32 (A 28)) 28 (giZ (A 28) p g)) 8 (va_cpy (A 28) (A 8) 0 (nx * 82) 82)) (L := L) (pr := pr) (ot := ot) (M := M) (rdv := rdv) (ru := ru) (T := [.inl (.long, (1, .inr (.inl out)))]) (B := B) hJ0 hs
        have hc' : CP (giZ (A 28) p g) (giA (B 0) p g) := hc.gi (by omega) (by omega)
        refine ⟨bc (gsS (giZ (A 28) p g) G p), _, _, _, _, _, _, _, _, rdv, _, _, _, _, ?_, ?_, hI.act hz' hc' hn hs e1 e2 g2 (J' := u1 (u1 J 13 0) 27 (iN (if sz < 12 then sz + 1 else 12))) (fun x hx => by rw [u1_eq, if_neg (by omega), u1_eq, if_neg (by omega)]) (by rw [u1_eq, if_pos rfl])⟩
        · unfold EH
          simp (disch := first | omega | assumption | (simp (disch := omega) only [iN_lit, iN_add, iN_mul, iN_pred, iN_pred', iN_lt, iN_le, iN_eq, iN_nat, nlt_t, nlt_f, nle_t, nle_f, neq_t, neq_f, List.length_nil, List.length_cons, or_false, false_or, or_self, not_false_eq_true, not_true_eq_false, ↓reduceIte, if_true, if_false, Bool.false_eq_true, Nat.reduceAdd])) only [fX11_gives, ↓zK _, ↓bK_0, ↓bR_0_9, ↓bR_0_8, fX11_rememberedIfDone, ↓bK_7, ↓bR_0_5, ↓hb_some, ↓bd_some, ↓letE_eq, h_z0, h_z1, h_zi0, h_zi1, ↓hb_of f3, ↓hb_of f1, iN_lit, iN_add, iN_mul, iN_pred, iN_pred', iN_lt, iN_le, iN_eq, iN_nat, nlt_t, nlt_f, nle_t, nle_f, neq_t, neq_f, List.length_nil, List.length_cons, or_false, false_or, or_self, not_false_eq_true, not_true_eq_false, ↓reduceIte, if_true, if_false, Bool.false_eq_true, Nat.reduceAdd, hbc, o7, ↓hb_of f2]
        · unfold EH
          have g3 := r_goGift (I := u2 (u2 I 7 1 (iN ((nx + 1) % 12))) 7 2 (iN (if sz + 1 < 12 then sz + 1 else 12))) (E := u1 (u1 (u1 A 32 (A 28)) 28 (giZ (A 28) p g)) 8 (va_cpy (A 28) (A 8) 0 (nx * 82) 82)) (L := L) (pr := pr) (ot := ot) (M := M) (rdv := rdv) (ru := ru) (T := [.inl (.long, (1, .inr (.inl out)))]) (J := u1 (u1 J 13 0) 27 (iN (if sz < 12 then sz + 1 else 12))) (B := u1 B 26 Y) (oa := 46) (Or.inl rfl) (show p < 6 by omega) (show g < 8 by omega)
          have e10 : (u1 B 26 Y) (fb 46) = B 0 := rfl
          rw [e10, fb_46] at g3
          have e11 : giA (B 0) p g (32 + p) = gsS (giZ (A 28) p g) G p := by rw [hz'.gs h8 (by omega), hc'.2.1 p (by omega)]
          simp (disch := first | omega | assumption | (simp (disch := omega) only [iN_lit, iN_add, iN_mul, iN_pred, iN_pred', iN_lt, iN_le, iN_eq, iN_nat, nlt_t, nlt_f, nle_t, nle_f, neq_t, neq_f, List.length_nil, List.length_cons, or_false, false_or, or_self, not_false_eq_true, not_true_eq_false, ↓reduceIte, if_true, if_false, Bool.false_eq_true, Nat.reduceAdd])) only [fX12_gives, ↓brK, ↓brR_0, ↓brA_0, ↓brS_0, ↓brW_13, ↓hb_of (c_bitCount), ↓hb_some, ↓bd_some, ↓letE_eq, h_z0, h_z1, h_zi0, h_zi1, ↓hb_of (rG_k hM0 hc hp hg hb hs0), ↓hb_of g1, ↓hb_of g3, ↓hb_of c_bitCount, iN_lit, iN_add, iN_mul, iN_pred, iN_pred', iN_lt, iN_le, iN_eq, iN_nat, nlt_t, nlt_f, nle_t, nle_f, neq_t, neq_f, List.length_nil, List.length_cons, or_false, false_or, or_self, not_false_eq_true, not_true_eq_false, ↓reduceIte, if_true, if_false, Bool.false_eq_true, Nat.reduceAdd, u1_eq, e11]
  · refine pairG_q hI (fun T => qC_cp hz.1 (e_no hz.1 hn2 (c_give_n hF c (Or.inl rfl)) (eq_true (by decide)))) (qM_no (fun I E L pr ot T => ?_))
    simp (disch := first | omega | assumption | (simp (disch := omega) only [iN_lit, iN_add, iN_mul, iN_pred, iN_pred', iN_lt, iN_le, iN_eq, iN_nat, nlt_t, nlt_f, nle_t, nle_f, neq_t, neq_f, List.length_nil, List.length_cons, or_false, false_or, or_self, not_false_eq_true, not_true_eq_false, ↓reduceIte, if_true, if_false, Bool.false_eq_true, Nat.reduceAdd])) only [fX12_gives, ↓brK, ↓brR_0, ↓brA_0, ↓brS_0, ↓brW_13, ↓hb_of (r_goGift _ _ _), ↓hb_of (c_bitCount), ↓hb_some, ↓bd_some, ↓letE_eq, h_z0, h_z1, h_zi0, h_zi1, ↓hb_of (rG_n hM0 hc c), iN_lit, iN_add, iN_mul, iN_pred, iN_pred', iN_lt, iN_le, iN_eq, iN_nat, nlt_t, nlt_f, nle_t, nle_f, neq_t, neq_f, List.length_nil, List.length_cons, or_false, false_or, or_self, not_false_eq_true, not_true_eq_false, ↓reduceIte, if_true, if_false, Bool.false_eq_true, Nat.reduceAdd, m1]
theorem p_takesBack (h : INV s I A L pr ot J B M ru G P W) (x y : Int32) : pairG s I A L pr ot J B M rdv ru out (fX11_takesBack 0 x y) (fX12_takesBack 45 x y) := by
  obtain ⟨nx, sz, hn, hs, e1, e2, e3⟩ := h.past
  have hI := h
  obtain ⟨hF, hM, hpl, hz, hc, hn2, -⟩ := h
  have hM0 : FM A (u1 J 13 0) B G P W := hM.j0 (by decide)
  have h8 := hM.2.2.2.1
  have h6 := hM.2.2.2.2.1
  by_cases c : (0 ≤ x ∧ x < iN P) ∧ (0 ≤ y ∧ y < iN G)
  · obtain ⟨p, hp, rfl⟩ := iN_of c.1.1 c.1.2 (by omega)
    obtain ⟨g, hg, rfl⟩ := iN_of c.2.1 c.2.2 (by omega)
    cases hb : hdB (A 28) p g with
    | false =>
      refine pairG_q hI (fun T => qC_cp hz.1 (e_noT hz.1 hn2 (c_takeBack_h hF (Or.inl rfl) hp hg hb) (eq_true (by decide)))) (qM_no (fun I E L pr ot T => ?_))
      simp (disch := first | omega | assumption | (simp (disch := omega) only [iN_lit, iN_add, iN_mul, iN_pred, iN_pred', iN_lt, iN_le, iN_eq, iN_nat, nlt_t, nlt_f, nle_t, nle_f, neq_t, neq_f, List.length_nil, List.length_cons, or_false, false_or, or_self, not_false_eq_true, not_true_eq_false, ↓reduceIte, if_true, if_false, Bool.false_eq_true, Nat.reduceAdd])) only [fX12_takesBack, ↓brK, ↓brR_0, ↓brA_0, ↓brS_0, ↓brW_13, ↓hb_of (r_goBack _ _ _), ↓hb_of (c_bitCount), ↓hb_some, ↓bd_some, ↓letE_eq, h_z0, h_z1, h_zi0, h_zi1, ↓hb_of (rB_h hM0 hc hp hg hb), iN_lit, iN_add, iN_mul, iN_pred, iN_pred', iN_lt, iN_le, iN_eq, iN_nat, nlt_t, nlt_f, nle_t, nle_f, neq_t, neq_f, List.length_nil, List.length_cons, or_false, false_or, or_self, not_false_eq_true, not_true_eq_false, ↓reduceIte, if_true, if_false, Bool.false_eq_true, Nat.reduceAdd, m2]
    | true =>
      have hz' : OK G P (tbZ (A 28) p g) := hz.tb h8 h6 hp hg
      have f1 := c_takeBack_k (I := I) (A := u1 A 32 (A 28)) (L := L) (pr := pr) (ot := ot) (T := encR J B M rdv ru [.inl (.long, (1, .inr (.inl out)))]) (o := 27) hF (Or.inl rfl) hp hg hb
      have f2 := e_yes (I := I) (A := A) (L := L) (pr := pr) (ot := ot) (T := encR J B M rdv ru [.inl (.long, (1, .inr (.inl out)))]) (Z := tbZ (A 28) p g) hz.1 e1 e2 hn hs
      have f3 := c_copy (I := I) (L := L) (pr := pr) (ot := ot) (T := encR J B M rdv ru [.inl (.long, (1, .inr (.inl out)))]) hz.1 hn2
      have e9 : (u1 A 32 (A 28)) (27 + 1) = A 28 := rfl
      rw [e9] at f1
      have hbc : (bc (gsS (tbZ (A 28) p g) G p) < iN 0) = False := by
        rw [hz'.gs h8 (by omega)]
        exact nn_lt (bc_bt _)
      have hJ0 : (u1 J 13 0) 27 = iN sz := e3
      obtain ⟨Y, g1, g2⟩ := r_rem46 (I := u2 (u2 I 7 1 (iN ((nx + 1) % 12))) 7 2 (iN (if sz + 1 < 12 then sz + 1 else 12))) (E := u1 (u1 (u1 A 32 (A 28)) 28 (tbZ (A 28) p g)) 8 (va_cpy (A 28) (A 8) 0 (nx * 82) 82)) (L := L) (pr := pr) (ot := ot) (M := M) (rdv := rdv) (ru := ru) (T := [.inl (.long, (1, .inr (.inl out)))]) (B := B) hJ0 hs
      have hc' : CP (tbZ (A 28) p g) (tbA (B 0) p g) := hc.tb (by omega) (by omega)
      refine ⟨bc (gsS (tbZ (A 28) p g) G p), _, _, _, _, _, _, _, _, rdv, _, _, _, _, ?_, ?_, hI.act hz' hc' hn hs e1 e2 g2 (J' := u1 (u1 J 13 0) 27 (iN (if sz < 12 then sz + 1 else 12))) (fun x hx => by rw [u1_eq, if_neg (by omega), u1_eq, if_neg (by omega)]) (by rw [u1_eq, if_pos rfl])⟩
      · unfold EH
        simp (disch := first | omega | assumption | (simp (disch := omega) only [iN_lit, iN_add, iN_mul, iN_pred, iN_pred', iN_lt, iN_le, iN_eq, iN_nat, nlt_t, nlt_f, nle_t, nle_f, neq_t, neq_f, List.length_nil, List.length_cons, or_false, false_or, or_self, not_false_eq_true, not_true_eq_false, ↓reduceIte, if_true, if_false, Bool.false_eq_true, Nat.reduceAdd])) only [fX11_takesBack, ↓zK _, ↓bK_0, ↓bR_0_9, ↓bR_0_8, fX11_rememberedIfDone, ↓bK_7, ↓bR_0_5, ↓hb_some, ↓bd_some, ↓letE_eq, h_z0, h_z1, h_zi0, h_zi1, ↓hb_of f3, ↓hb_of f1, iN_lit, iN_add, iN_mul, iN_pred, iN_pred', iN_lt, iN_le, iN_eq, iN_nat, nlt_t, nlt_f, nle_t, nle_f, neq_t, neq_f, List.length_nil, List.length_cons, or_false, false_or, or_self, not_false_eq_true, not_true_eq_false, ↓reduceIte, if_true, if_false, Bool.false_eq_true, Nat.reduceAdd, hbc, o7, ↓hb_of f2]
      · unfold EH
        have g3 := r_goBack (I := u2 (u2 I 7 1 (iN ((nx + 1) % 12))) 7 2 (iN (if sz + 1 < 12 then sz + 1 else 12))) (E := u1 (u1 (u1 A 32 (A 28)) 28 (tbZ (A 28) p g)) 8 (va_cpy (A 28) (A 8) 0 (nx * 82) 82)) (L := L) (pr := pr) (ot := ot) (M := M) (rdv := rdv) (ru := ru) (T := [.inl (.long, (1, .inr (.inl out)))]) (J := u1 (u1 J 13 0) 27 (iN (if sz < 12 then sz + 1 else 12))) (B := u1 B 26 Y) (oa := 46) (Or.inl rfl) (show p < 6 by omega) (show g < 8 by omega)
        have e10 : (u1 B 26 Y) (fb 46) = B 0 := rfl
        rw [e10, fb_46] at g3
        have e11 : tbA (B 0) p g (32 + p) = gsS (tbZ (A 28) p g) G p := by rw [hz'.gs h8 (by omega), hc'.2.1 p (by omega)]
        simp (disch := first | omega | assumption | (simp (disch := omega) only [iN_lit, iN_add, iN_mul, iN_pred, iN_pred', iN_lt, iN_le, iN_eq, iN_nat, nlt_t, nlt_f, nle_t, nle_f, neq_t, neq_f, List.length_nil, List.length_cons, or_false, false_or, or_self, not_false_eq_true, not_true_eq_false, ↓reduceIte, if_true, if_false, Bool.false_eq_true, Nat.reduceAdd])) only [fX12_takesBack, ↓brK, ↓brR_0, ↓brA_0, ↓brS_0, ↓brW_13, ↓hb_of (c_bitCount), ↓hb_some, ↓bd_some, ↓letE_eq, h_z0, h_z1, h_zi0, h_zi1, ↓hb_of (rB_k hM0 hc hp hg hb), ↓hb_of g1, ↓hb_of g3, ↓hb_of c_bitCount, iN_lit, iN_add, iN_mul, iN_pred, iN_pred', iN_lt, iN_le, iN_eq, iN_nat, nlt_t, nlt_f, nle_t, nle_f, neq_t, neq_f, List.length_nil, List.length_cons, or_false, false_or, or_self, not_false_eq_true, not_true_eq_false, ↓reduceIte, if_true, if_false, Bool.false_eq_true, Nat.reduceAdd, u1_eq, e11]
  · refine pairG_q hI (fun T => qC_cp hz.1 (e_noT hz.1 hn2 (c_takeBack_n hF c (Or.inl rfl)) (eq_true (by decide)))) (qM_no (fun I E L pr ot T => ?_))
    simp (disch := first | omega | assumption | (simp (disch := omega) only [iN_lit, iN_add, iN_mul, iN_pred, iN_pred', iN_lt, iN_le, iN_eq, iN_nat, nlt_t, nlt_f, nle_t, nle_f, neq_t, neq_f, List.length_nil, List.length_cons, or_false, false_or, or_self, not_false_eq_true, not_true_eq_false, ↓reduceIte, if_true, if_false, Bool.false_eq_true, Nat.reduceAdd])) only [fX12_takesBack, ↓brK, ↓brR_0, ↓brA_0, ↓brS_0, ↓brW_13, ↓hb_of (r_goBack _ _ _), ↓hb_of (c_bitCount), ↓hb_some, ↓bd_some, ↓letE_eq, h_z0, h_z1, h_zi0, h_zi1, ↓hb_of (rB_n hM0 hc c), iN_lit, iN_add, iN_mul, iN_pred, iN_pred', iN_lt, iN_le, iN_eq, iN_nat, nlt_t, nlt_f, nle_t, nle_f, neq_t, neq_f, List.length_nil, List.length_cons, or_false, false_or, or_self, not_false_eq_true, not_true_eq_false, ↓reduceIte, if_true, if_false, Bool.false_eq_true, Nat.reduceAdd, m1]
theorem p_makes (h : INV s I A L pr ot J B M ru G P W) (x y : Int32) : pairG s I A L pr ot J B M rdv ru out (fX11_makes 0 x y) (fX12_makes 45 x y) := by
  obtain ⟨nx, sz, hn, hs, e1, e2, e3⟩ := h.past
  have hI := h
  obtain ⟨hF, hM, hpl, hz, hc, hn2, -⟩ := h
  have hM0 : FM A (u1 J 13 0) B G P W := hM.j0 (by decide)
  have h8 := hM.2.2.2.1
  have h6 := hM.2.2.2.2.1
  by_cases c : (0 ≤ x ∧ x < iN G) ∧ (1 ≤ y ∧ y ≤ 99)
  · obtain ⟨g, hg, rfl⟩ := iN_of c.1.1 c.1.2 (by omega)
    obtain ⟨n, hn9, rfl⟩ := iN_of' (show 0 ≤ y by
      have := c.2.1
      rw [Int32.le_iff_toInt_le] at this ⊢
      have i0 : (0 : Int32).toInt = 0 := by decide
      have i1 : (1 : Int32).toInt = 1 := by decide
      omega) (show y ≤ iN 99 from c.2.2) (by decide)
    have hn1 : 1 ≤ n := by
      have := c.2.1
      rw [show (1 : Int32) = iN 1 from rfl, iN_le (by omega) (by omega)] at this
      exact this
    have hz' : OK G P (mkZ (A 28) g (iN n)) := hz.mk h8 hg hn9
    have f1 := c_make_k (I := I) (A := u1 A 32 (A 28)) (L := L) (pr := pr) (ot := ot) (T := encR J B M rdv ru [.inl (.long, (1, .inr (.inl out)))]) (o := 27) hF (Or.inl rfl) hg hn1 hn9
    have f2 := e_yes (I := I) (A := A) (L := L) (pr := pr) (ot := ot) (T := encR J B M rdv ru [.inl (.long, (1, .inr (.inl out)))]) (Z := mkZ (A 28) g (iN n)) hz.1 e1 e2 hn hs
    have f3 := c_copy (I := I) (L := L) (pr := pr) (ot := ot) (T := encR J B M rdv ru [.inl (.long, (1, .inr (.inl out)))]) hz.1 hn2
    have e9 : (u1 A 32 (A 28)) (27 + 1) = A 28 := rfl
    rw [e9] at f1
    have hnn := mn99_k (hz.2.1 g (by omega)).1 (hz.2.1 g (by omega)).2 hn9
    have hbc : (mn99 (A 28 g + iN n) < iN 0) = False := nn_lt hnn.1
    have hJ0 : (u1 J 13 0) 27 = iN sz := e3
    obtain ⟨Y, g1, g2⟩ := r_rem46 (I := u2 (u2 I 7 1 (iN ((nx + 1) % 12))) 7 2 (iN (if sz + 1 < 12 then sz + 1 else 12))) (E := u1 (u1 (u1 A 32 (A 28)) 28 (mkZ (A 28) g (iN n))) 8 (va_cpy (A 28) (A 8) 0 (nx * 82) 82)) (L := L) (pr := pr) (ot := ot) (M := M) (rdv := rdv) (ru := ru) (T := [.inl (.long, (1, .inr (.inl out)))]) (B := B) hJ0 hs
    have hc' : CP (mkZ (A 28) g (iN n)) (upd (B 0) g (mn99 (A 28 g + iN n))) := hc.st (by omega)
    refine ⟨mn99 (A 28 g + iN n), _, _, _, _, _, _, _, _, rdv, _, _, _, _, ?_, ?_, hI.act hz' hc' hn hs e1 e2 g2 (J' := u1 (u1 J 13 0) 27 (iN (if sz < 12 then sz + 1 else 12))) (fun x hx => by rw [u1_eq, if_neg (by omega), u1_eq, if_neg (by omega)]) (by rw [u1_eq, if_pos rfl])⟩
    · unfold EH
      simp (disch := first | omega | assumption | (simp (disch := omega) only [iN_lit, iN_add, iN_mul, iN_pred, iN_pred', iN_lt, iN_le, iN_eq, iN_nat, nlt_t, nlt_f, nle_t, nle_f, neq_t, neq_f, List.length_nil, List.length_cons, or_false, false_or, or_self, not_false_eq_true, not_true_eq_false, ↓reduceIte, if_true, if_false, Bool.false_eq_true, Nat.reduceAdd])) only [fX11_makes, ↓zK _, ↓bK_0, ↓bR_0_9, ↓bR_0_8, fX11_rememberedIfDone, ↓bK_7, ↓bR_0_5, ↓hb_some, ↓bd_some, ↓letE_eq, h_z0, h_z1, h_zi0, h_zi1, ↓hb_of f3, ↓hb_of f1, iN_lit, iN_add, iN_mul, iN_pred, iN_pred', iN_lt, iN_le, iN_eq, iN_nat, nlt_t, nlt_f, nle_t, nle_f, neq_t, neq_f, List.length_nil, List.length_cons, or_false, false_or, or_self, not_false_eq_true, not_true_eq_false, ↓reduceIte, if_true, if_false, Bool.false_eq_true, Nat.reduceAdd, hbc, o7, ↓hb_of f2]
    · unfold EH
      have e12 : B 0 g = A 28 g := hc.1 g (by omega)
      have e13 : (if A 28 g + iN n < 99 then A 28 g + iN n else 99) = mn99 (A 28 g + iN n) := rfl
      simp only [iN_lit] at e13 g1
      simp (disch := first | omega | assumption | (simp (disch := omega) only [iN_lit, iN_add, iN_mul, iN_pred, iN_pred', iN_lt, iN_le, iN_eq, iN_nat, nlt_t, nlt_f, nle_t, nle_f, neq_t, neq_f, List.length_nil, List.length_cons, or_false, false_or, or_self, not_false_eq_true, not_true_eq_false, ↓reduceIte, if_true, if_false, Bool.false_eq_true, Nat.reduceAdd])) only [fX12_makes, ↓brK, ↓brR_0, ↓brA_0, ↓brS_0, ↓brW_13, ↓hb_of (in_y _ _ _), ↓hb_of (in_n _), ↓hb_some, ↓bd_some, ↓letE_eq, h_z0, h_z1, h_zi0, h_zi1, ↓hb_of (r_isGround hM0 hg), ↓hb_of g1, iN_lit, iN_add, iN_mul, iN_pred, iN_pred', iN_lt, iN_le, iN_eq, iN_nat, nlt_t, nlt_f, nle_t, nle_f, neq_t, neq_f, List.length_nil, List.length_cons, or_false, false_or, or_self, not_false_eq_true, not_true_eq_false, ↓reduceIte, if_true, if_false, Bool.false_eq_true, Nat.reduceAdd, u1_eq, e12, e13, upd_eq]
  · have c' : ¬ ((0 ≤ x ∧ x < iN G) ∧ (iN 1 ≤ y ∧ y ≤ iN 99)) := c
    refine pairG_q hI (fun T => qC_cp hz.1 (e_noM hz.1 hn2 (c_make_n hF c (Or.inl rfl)) (eq_true (by decide)))) (qM_no (fun I E L pr ot T => ?_))
    rcases arg_lt G (by omega) x with ⟨g, hg, rfl⟩ | hx
    · have hy : ¬ (iN 1 ≤ y ∧ y ≤ iN 99) := fun d => c' ⟨rng hg (by omega), d⟩
      simp (disch := first | omega | assumption | (simp (disch := omega) only [iN_lit, iN_add, iN_mul, iN_pred, iN_pred', iN_lt, iN_le, iN_eq, iN_nat, nlt_t, nlt_f, nle_t, nle_f, neq_t, neq_f, List.length_nil, List.length_cons, or_false, false_or, or_self, not_false_eq_true, not_true_eq_false, ↓reduceIte, if_true, if_false, Bool.false_eq_true, Nat.reduceAdd])) only [fX12_makes, ↓brK, ↓brR_0, ↓brA_0, ↓brS_0, ↓brW_13, ↓hb_of (isG_n _ _), ↓hb_of (r_isGround _ _), ↓hb_of (in_y _ _ _), ↓hb_of (in_n _), ↓hb_some, ↓bd_some, ↓letE_eq, h_z0, h_z1, h_zi0, h_zi1, ↓hb_of (r_isGround hM0 hg), iN_lit, iN_add, iN_mul, iN_pred, iN_pred', iN_lt, iN_le, iN_eq, iN_nat, nlt_t, nlt_f, nle_t, nle_f, neq_t, neq_f, List.length_nil, List.length_cons, or_false, false_or, or_self, not_false_eq_true, not_true_eq_false, ↓reduceIte, if_true, if_false, Bool.false_eq_true, Nat.reduceAdd]
    · simp (disch := first | omega | assumption | (simp (disch := omega) only [iN_lit, iN_add, iN_mul, iN_pred, iN_pred', iN_lt, iN_le, iN_eq, iN_nat, nlt_t, nlt_f, nle_t, nle_f, neq_t, neq_f, List.length_nil, List.length_cons, or_false, false_or, or_self, not_false_eq_true, not_true_eq_false, ↓reduceIte, if_true, if_false, Bool.false_eq_true, Nat.reduceAdd])) only [fX12_makes, ↓brK, ↓brR_0, ↓brA_0, ↓brS_0, ↓brW_13, ↓hb_of (isG_n _ _), ↓hb_of (r_isGround _ _), ↓hb_of (in_y _ _ _), ↓hb_of (in_n _), ↓hb_some, ↓bd_some, ↓letE_eq, h_z0, h_z1, h_zi0, h_zi1, ↓hb_of (isG_n hM0 hx), iN_lit, iN_add, iN_mul, iN_pred, iN_pred', iN_lt, iN_le, iN_eq, iN_nat, nlt_t, nlt_f, nle_t, nle_f, neq_t, neq_f, List.length_nil, List.length_cons, or_false, false_or, or_self, not_false_eq_true, not_true_eq_false, ↓reduceIte, if_true, if_false, Bool.false_eq_true, Nat.reduceAdd]
end AP
