/-! CALLS: settles, when, apart -/
/-- differences of humours, as they are told -/
def aL (L : Nat → Int64) (Z : Nat → Int32) (p q : Nat) : Nat → Nat → Int64
  | 0 => L
  | k + 1 => vp_updL (aL L Z p q k) k (Z (8 + p * 4 + k) - Z (8 + q * 4 + k)).toInt64
def aR (Z : Nat → Int32) (p q : Nat) : Nat → List Int64
  | 0 => []
  | k + 1 => aR Z p q k ++ [(Z (8 + p * 4 + k) - Z (8 + q * 4 + k)).toInt64]
theorem aR_len {Z : Nat → Int32} {p q : Nat} : ∀ k, (aR Z p q k).length = k
  | 0 => rfl
  | k + 1 => by
    unfold aR
    rw [List.length_append, aR_len k]; rfl
theorem aR_C {L : Nat → Int64} {Z : Nat → Int32} {p q : Nat} : ∀ k, rowC (iN k) (aL L Z p q k) (aR Z p q k)
  | 0 => row_0
  | k + 1 => row_s (aR_C k) (aR_len k).symm
def aS (Z : Nat → Int32) (p q : Nat) : Nat → Int32 := sm (fun k => if 0 ≤ Z (8 + p * 4 + k) - Z (8 + q * 4 + k) then Z (8 + p * 4 + k) - Z (8 + q * 4 + k) else 0 - (Z (8 + p * 4 + k) - Z (8 + q * 4 + k)))
section LA
variable {I A E I' A' : Nat → Nat → Int32} {L L' : Nat → Int64} {pr ot s : Nat} {J J' : Nat → Int32} {B B' : Nat → Nat → Int32} {M M' : Nat → Int64} {rdv : Value} {ru : Nat} {T : PH} {G P W p q g n nr sz ro oa w : Nat} {Z Z' R X : Nat → Int32} {x y z i2 : Int32} {out : Nat → Int64} {pu : (Nat → Int32) → Int32}
theorem r_set37 (hp : p < 6) (hc : CP Z (B 29)) : ∃ X, (∀ kx : PH → Option (Int32 × PH), fX12_settles_L37 45 (iN p) i2 kx FU (iN 0) (encC I E L pr ot (encR J B M rdv ru T)) = kx (encC I E L pr ot (encR J (u1 B 33 X) M rdv ru T))) ∧ ∀ h, h < 4 → X h = Z (8 + p * 4 + h) := by
  have key := lp_k (fun (kx : PH → Option (Int32 × PH)) n k (X : Nat → Int32) => fX12_settles_L37 45 (iN p) i2 kx n (iN k) (encC I E L pr ot (encR J (u1 B 33 X) M rdv ru T))) (fun kx X => kx (encC I E L pr ot (encR J (u1 B 33 X) M rdv ru T))) (fun k X => ∀ h, h < k → X h = Z (8 + p * 4 + h)) 4
    (fun k X hk hi => by
      have f1 := r_humour (I := I) (E := E) (L := L) (pr := pr) (ot := ot) (J := J) (B := u1 B 33 X) (M := M) (rdv := rdv) (ru := ru) (T := T) (oa := 61) (Z := Z) (p := p) (h := k) (Or.inr rfl) hp hk hc
      refine ⟨upd X k (Z (8 + p * 4 + k)), fun h hh => ?_, fun kx n => ?_⟩
      · unfold upd
        by_cases e : h = k
        · rw [if_pos e, e]
        · rw [if_neg e]; exact hi h (by omega)
      · simp (disch := first | omega | assumption | (simp (disch := omega) only [iN_lit, iN_add, iN_mul, iN_pred, iN_pred', iN_lt, iN_le, iN_eq, iN_nat, nlt_t, nlt_f, nle_t, nle_f, neq_t, neq_f, List.length_nil, List.length_cons, or_false, false_or, or_self, not_false_eq_true, not_true_eq_false, ↓reduceIte, if_true, if_false, Bool.false_eq_true, Nat.reduceAdd])) only [fX12_settles_L37, ↓brR_33, ↓brA_33, ↓brS_33, ↓brR_29, ↓brA_29, ↓brS_29, fX12_settles_J111_76, fX12_settles_J110_76, ↓hb_some, ↓bd_some, ↓letE_eq, h_z0, h_z1, h_zi0, h_zi1, ↓hb_of f1, iN_lit, iN_add, iN_mul, iN_pred, iN_pred', iN_lt, iN_le, iN_eq, iN_nat, nlt_t, nlt_f, nle_t, nle_f, neq_t, neq_f, List.length_nil, List.length_cons, or_false, false_or, or_self, not_false_eq_true, not_true_eq_false, ↓reduceIte, if_true, if_false, Bool.false_eq_true, Nat.reduceAdd, u1_eq, u1_u1])
    (fun X hi kx n => by simp (disch := first | omega | assumption | (simp (disch := omega) only [iN_lit, iN_add, iN_mul, iN_pred, iN_pred', iN_lt, iN_le, iN_eq, iN_nat, nlt_t, nlt_f, nle_t, nle_f, neq_t, neq_f, List.length_nil, List.length_cons, or_false, false_or, or_self, not_false_eq_true, not_true_eq_false, ↓reduceIte, if_true, if_false, Bool.false_eq_true, Nat.reduceAdd])) only [fX12_settles_L37, ↓brR_33, ↓brA_33, ↓brS_33, ↓brR_29, ↓brA_29, ↓brS_29, fX12_settles_J111_76, fX12_settles_J110_76, ↓hb_of (r_humour _ _ _ _), ↓hb_some, ↓bd_some, ↓letE_eq, h_z0, h_z1, h_zi0, h_zi1, iN_lit, iN_add, iN_mul, iN_pred, iN_pred', iN_lt, iN_le, iN_eq, iN_nat, nlt_t, nlt_f, nle_t, nle_f, neq_t, neq_f, List.length_nil, List.length_cons, or_false, false_or, or_self, not_false_eq_true, not_true_eq_false, ↓reduceIte, if_true, if_false, Bool.false_eq_true, Nat.reduceAdd]) 4 0 (B 33) (by omega) (fun h hh => absurd hh (Nat.not_lt_zero _))
  obtain ⟨X, h1, h2⟩ := key
  refine ⟨X, fun kx => ?_, h1⟩
  have := h2 kx FU (by unfold FU; omega)
  rw [u1_self] at this
  exact this
theorem r_set76 (hp : p < 6) (hc : CP Z' (B 29)) (hX : ∀ h, h < 4 → B 33 h = Z (8 + p * 4 + h)) (kx : Int32 → PH → Option (Int32 × PH)) : fX12_settles_L76 45 (iN p) i2 kx FU (iN 1) (iN 0) (encC I E L pr ot (encR J B M rdv ru T)) = kx (if sameH Z Z' p 4 then iN 1 else iN 0) (encC I E L pr ot (encR J B M rdv ru T)) := by
  have key := lp_det (fun n k (v : Int32) => fX12_settles_L76 45 (iN p) i2 kx n v (iN k) (encC I E L pr ot (encR J B M rdv ru T))) (fun v => kx v (encC I E L pr ot (encR J B M rdv ru T))) (fun k => if sameH Z Z' p k then iN 1 else iN 0) 4
    (fun k hk n => by
      have f1 := r_humour (I := I) (E := E) (L := L) (pr := pr) (ot := ot) (J := J) (B := B) (M := M) (rdv := rdv) (ru := ru) (T := T) (oa := 61) (Z := Z') (p := p) (h := k) (Or.inr rfl) hp hk hc
      have e1 : sameH Z Z' p (k + 1) = (sameH Z Z' p k && decide (Z (8 + p * 4 + k) = Z' (8 + p * 4 + k))) := rfl
      rw [e1]
      have e2 := hX k hk
      cases h1 : sameH Z Z' p k with
      | false =>
        simp (disch := first | omega | assumption | (simp (disch := omega) only [iN_lit, iN_add, iN_mul, iN_pred, iN_pred', iN_lt, iN_le, iN_eq, iN_nat, nlt_t, nlt_f, nle_t, nle_f, neq_t, neq_f, List.length_nil, List.length_cons, or_false, false_or, or_self, not_false_eq_true, not_true_eq_false, ↓reduceIte, if_true, if_false, Bool.false_eq_true, Nat.reduceAdd])) only [fX12_settles_L76, ↓brR_33, ↓brA_33, ↓brS_33, ↓brR_29, ↓brA_29, ↓brS_29, fX12_settles_J111_76, fX12_settles_J110_76, ↓hb_some, ↓bd_some, ↓letE_eq, h_z0, h_z1, h_zi0, h_zi1, iN_lit, iN_add, iN_mul, iN_pred, iN_pred', iN_lt, iN_le, iN_eq, iN_nat, nlt_t, nlt_f, nle_t, nle_f, neq_t, neq_f, List.length_nil, List.length_cons, or_false, false_or, or_self, not_false_eq_true, not_true_eq_false, ↓reduceIte, if_true, if_false, Bool.false_eq_true, Nat.reduceAdd, Bool.false_and]
      | true =>
        by_cases h2 : Z (8 + p * 4 + k) = Z' (8 + p * 4 + k)
        · rw [decide_eq_true h2]
          simp (disch := first | omega | assumption | (simp (disch := omega) only [iN_lit, iN_add, iN_mul, iN_pred, iN_pred', iN_lt, iN_le, iN_eq, iN_nat, nlt_t, nlt_f, nle_t, nle_f, neq_t, neq_f, List.length_nil, List.length_cons, or_false, false_or, or_self, not_false_eq_true, not_true_eq_false, ↓reduceIte, if_true, if_false, Bool.false_eq_true, Nat.reduceAdd])) only [fX12_settles_L76, ↓brR_33, ↓brA_33, ↓brS_33, ↓brR_29, ↓brA_29, ↓brS_29, fX12_settles_J111_76, fX12_settles_J110_76, ↓hb_some, ↓bd_some, ↓letE_eq, h_z0, h_z1, h_zi0, h_zi1, ↓hb_of f1, iN_lit, iN_add, iN_mul, iN_pred, iN_pred', iN_lt, iN_le, iN_eq, iN_nat, nlt_t, nlt_f, nle_t, nle_f, neq_t, neq_f, List.length_nil, List.length_cons, or_false, false_or, or_self, not_false_eq_true, not_true_eq_false, ↓reduceIte, if_true, if_false, Bool.false_eq_true, Nat.reduceAdd, Bool.true_and, e2, h2]
        · rw [decide_eq_false h2]
          simp (disch := first | omega | assumption | (simp (disch := omega) only [iN_lit, iN_add, iN_mul, iN_pred, iN_pred', iN_lt, iN_le, iN_eq, iN_nat, nlt_t, nlt_f, nle_t, nle_f, neq_t, neq_f, List.length_nil, List.length_cons, or_false, false_or, or_self, not_false_eq_true, not_true_eq_false, ↓reduceIte, if_true, if_false, Bool.false_eq_true, Nat.reduceAdd])) only [fX12_settles_L76, ↓brR_33, ↓brA_33, ↓brS_33, ↓brR_29, ↓brA_29, ↓brS_29, fX12_settles_J111_76, fX12_settles_J110_76, ↓hb_some, ↓bd_some, ↓letE_eq, h_z0, h_z1, h_zi0, h_zi1, ↓hb_of f1, iN_lit, iN_add, iN_mul, iN_pred, iN_pred', iN_lt, iN_le, iN_eq, iN_nat, nlt_t, nlt_f, nle_t, nle_f, neq_t, neq_f, List.length_nil, List.length_cons, or_false, false_or, or_self, not_false_eq_true, not_true_eq_false, ↓reduceIte, if_true, if_false, Bool.false_eq_true, Nat.reduceAdd, Bool.and_false, e2, h2])
    (fun n => by simp (disch := first | omega | assumption | (simp (disch := omega) only [iN_lit, iN_add, iN_mul, iN_pred, iN_pred', iN_lt, iN_le, iN_eq, iN_nat, nlt_t, nlt_f, nle_t, nle_f, neq_t, neq_f, List.length_nil, List.length_cons, or_false, false_or, or_self, not_false_eq_true, not_true_eq_false, ↓reduceIte, if_true, if_false, Bool.false_eq_true, Nat.reduceAdd])) only [fX12_settles_L76, ↓brR_33, ↓brA_33, ↓brS_33, ↓brR_29, ↓brA_29, ↓brS_29, fX12_settles_J111_76, fX12_settles_J110_76, ↓hb_of (r_humour _ _ _ _), ↓hb_some, ↓bd_some, ↓letE_eq, h_z0, h_z1, h_zi0, h_zi1, iN_lit, iN_add, iN_mul, iN_pred, iN_pred', iN_lt, iN_le, iN_eq, iN_nat, nlt_t, nlt_f, nle_t, nle_f, neq_t, neq_f, List.length_nil, List.length_cons, or_false, false_or, or_self, not_false_eq_true, not_true_eq_false, ↓reduceIte, if_true, if_false, Bool.false_eq_true, Nat.reduceAdd]) FU (by unfold FU; omega)
  exact key
theorem set_C {N : Nat} (hN : N = 100) (hI : INV s I A L pr ot J B M ru G P W) (hp : p < P) (ck : CK I A G P W pr pu) : ∀ T, (∀ j, fnd (fun k => sameH (psZ A pu G p (A 28) k) (psZ A pu G p (A 28) (k + 1)) p 4) N 0 = some j → ∃ A', fX11_settles 0 (iN p) (encC I A L pr ot T) = some (iN j, (encC (u2 I 9 1 (iN 4)) A' (hL L (psZ A pu G p (A 28) (j + 1)) p 4) pr ot T)) ∧ frQ A A') ∧ (fnd (fun k => sameH (psZ A pu G p (A 28) k) (psZ A pu G p (A 28) (k + 1)) p 4) N 0 = none → ∃ A', fX11_settles 0 (iN p) (encC I A L pr ot T) = some (-2, (encC I A' L pr ot T)) ∧ frQ A A') := by
  obtain ⟨hF, hM, hpl, hz, hc, hn2, -⟩ := hI
  have hT := hM.TS
  have h8 := hM.2.2.2.1
  have h6 := hM.2.2.2.2.1
  have hMa : FM A (u1 J 13 0) B G P W := hM.j0 (by decide)
  have hMb : FM A (u1 J 13 (iN 0)) B G P W := hMa
  have ag := fun n => daN_agr (A := A) (pu := pu) (Z := A 28) h8 h6 hp n
  have ek : ∀ k, OK G P (psZ A pu G p (A 28) k) := fun k => hz.ps h8 (by omega) k
  have ez : ∀ k, okH (psZ A pu G p (A 28) k) p := fun k => okH_ps (by omega) (hz.2.2.1 p (by omega)) k
  intro T
  have e1 := ck.copy (L := L) (pr := pr) (ot := ot) (T := T)
  have key := lp_find (fun n k (A' : Nat → Nat → Int32) => fX11_settles_L26 0 (iN p) (fun h7 => some ((-2 : Int32), h7)) n (iN k) (encC I A' L pr ot T)) (fun A' => some (-2, (encC I A' L pr ot T))) (fun k A' => frQ A A' ∧ A' 32 = psZ A pu G p (A 28) k) (fun k => sameH (psZ A pu G p (A 28) k) (psZ A pu G p (A 28) (k + 1)) p 4) (fun k z => ∃ A', z = some (iN k, (encC (u2 I 9 1 (iN 4)) A' (hL L (psZ A pu G p (A 28) (k + 1)) p 4) pr ot T)) ∧ frQ A A') N
    (fun k A' hk hi hcc => by
      obtain ⟨i1, i2⟩ := hi
      obtain ⟨A2, f1, f5, f4⟩ := ck.pass (L := L) (pr := pr) (ot := ot) (T := T) (n := 1) i1 i2 (ek k) hp (by decide)
      have g1 := c_humoursTogether (I := I) (A := A') (L := L) (pr := pr) (ot := ot) (T := T) (o := 31) (p := p) (Or.inr rfl) (by omega)
      have g2 := c_humoursTogether (I := I) (A := A2) (L := L) (pr := pr) (ot := ot) (T := T) (o := 31) (p := p) (Or.inr rfl) (by omega)
      have g3 := c_tellHumours (I := I) (A := A2) (L := L) (pr := pr) (ot := ot) (T := T) (p := p) (by omega)
      have q1 : A' (31 + 1) = psZ A pu G p (A 28) k := i2
      have q2 : A2 (31 + 1) = psZ A pu G p (A 28) (k + 1) := f4
      have q3 : A2 32 = psZ A pu G p (A 28) (k + 1) := f4
      rw [q1] at g1
      rw [q2] at g2
      rw [q3] at g3
      have g4 : htS (psZ A pu G p (A 28) (k + 1)) p 4 = htS (psZ A pu G p (A 28) k) p 4 := (ht_eq (ez k) (ez (k + 1))).mpr hcc
      refine ⟨_, ⟨A2, rfl, f5⟩, fun n => ?_⟩
      simp (disch := first | omega | assumption | (simp (disch := omega) only [iN_lit, iN_add, iN_mul, iN_pred, iN_pred', iN_lt, iN_le, iN_eq, iN_nat, nlt_t, nlt_f, nle_t, nle_f, neq_t, neq_f, List.length_nil, List.length_cons, or_false, false_or, or_self, not_false_eq_true, not_true_eq_false, ↓reduceIte, if_true, if_false, Bool.false_eq_true, Nat.reduceAdd])) only [fX11_settles_L26, ↓zK _, ↓bK_11, ↓bK_0, ↓bR_0_9, ↓bR_0_7, ↓hb_of (c_presentRule), ↓hb_some, ↓bd_some, ↓letE_eq, h_z0, h_z1, h_zi0, h_zi1, ↓hb_of g1, ↓hb_of f1, ↓hb_of g2, ↓hb_of g3, iN_lit, iN_add, iN_mul, iN_pred, iN_pred', iN_lt, iN_le, iN_eq, iN_nat, nlt_t, nlt_f, nle_t, nle_f, neq_t, neq_f, List.length_nil, List.length_cons, or_false, false_or, or_self, not_false_eq_true, not_true_eq_false, ↓reduceIte, if_true, if_false, Bool.false_eq_true, Nat.reduceAdd, g4])
    (fun k A' hk hi hcc => by
      obtain ⟨i1, i2⟩ := hi
      obtain ⟨A2, f1, f5, f4⟩ := ck.pass (L := L) (pr := pr) (ot := ot) (T := T) (n := 1) i1 i2 (ek k) hp (by decide)
      have g1 := c_humoursTogether (I := I) (A := A') (L := L) (pr := pr) (ot := ot) (T := T) (o := 31) (p := p) (Or.inr rfl) (by omega)
      have g2 := c_humoursTogether (I := I) (A := A2) (L := L) (pr := pr) (ot := ot) (T := T) (o := 31) (p := p) (Or.inr rfl) (by omega)
      have q1 : A' (31 + 1) = psZ A pu G p (A 28) k := i2
      have q2 : A2 (31 + 1) = psZ A pu G p (A 28) (k + 1) := f4
      rw [q1] at g1
      rw [q2] at g2
      have g4 : ¬ htS (psZ A pu G p (A 28) (k + 1)) p 4 = htS (psZ A pu G p (A 28) k) p 4 := fun e => by
        have := (ht_eq (ez k) (ez (k + 1))).mp e
        rw [hcc] at this; cases this
      refine ⟨A2, ⟨f5, f4⟩, fun n => ?_⟩
      simp (disch := first | omega | assumption | (simp (disch := omega) only [iN_lit, iN_add, iN_mul, iN_pred, iN_pred', iN_lt, iN_le, iN_eq, iN_nat, nlt_t, nlt_f, nle_t, nle_f, neq_t, neq_f, List.length_nil, List.length_cons, or_false, false_or, or_self, not_false_eq_true, not_true_eq_false, ↓reduceIte, if_true, if_false, Bool.false_eq_true, Nat.reduceAdd])) only [fX11_settles_L26, ↓zK _, ↓bK_11, ↓bK_0, ↓bR_0_9, ↓bR_0_7, ↓hb_of (c_presentRule), ↓hb_some, ↓bd_some, ↓letE_eq, h_z0, h_z1, h_zi0, h_zi1, ↓hb_of g1, ↓hb_of f1, ↓hb_of g2, iN_lit, iN_add, iN_mul, iN_pred, iN_pred', iN_lt, iN_le, iN_eq, iN_nat, nlt_t, nlt_f, nle_t, nle_f, neq_t, neq_f, List.length_nil, List.length_cons, or_false, false_or, or_self, not_false_eq_true, not_true_eq_false, ↓reduceIte, if_true, if_false, Bool.false_eq_true, Nat.reduceAdd, g4])
    (fun A' hi n => by simp (disch := first | omega | assumption | (simp (disch := omega) only [iN_lit, iN_add, iN_mul, iN_pred, iN_pred', iN_lt, iN_le, iN_eq, iN_nat, nlt_t, nlt_f, nle_t, nle_f, neq_t, neq_f, List.length_nil, List.length_cons, or_false, false_or, or_self, not_false_eq_true, not_true_eq_false, ↓reduceIte, if_true, if_false, Bool.false_eq_true, Nat.reduceAdd])) only [fX11_settles_L26, ↓zK _, ↓bK_11, ↓bK_0, ↓bR_0_9, ↓bR_0_7, ↓hb_of (c_humoursTogether _ _), ↓hb_of (c_presentRule), ↓hb_of (c_tellHumours _), ↓hb_some, ↓bd_some, ↓letE_eq, h_z0, h_z1, h_zi0, h_zi1, iN_lit, iN_add, iN_mul, iN_pred, iN_pred', iN_lt, iN_le, iN_eq, iN_nat, nlt_t, nlt_f, nle_t, nle_f, neq_t, neq_f, List.length_nil, List.length_cons, or_false, false_or, or_self, not_false_eq_true, not_true_eq_false, ↓reduceIte, if_true, if_false, Bool.false_eq_true, Nat.reduceAdd]) N 0 (u1 A 32 (A 28)) (by omega) ⟨frQ.cp hz.1, rfl⟩
  have en : ∀ z, (∀ n, N < n → fX11_settles_L26 0 (iN p) (fun h7 => some ((-2 : Int32), h7)) n (iN 0) (encC I (u1 A 32 (A 28)) L pr ot T) = z) → fX11_settles 0 (iN p) (encC I A L pr ot T) = z := by
    intro z hz2
    have := hz2 FU (by unfold FU; omega)
    simp (disch := first | omega | assumption | (simp (disch := omega) only [iN_lit, iN_add, iN_mul, iN_pred, iN_pred', iN_lt, iN_le, iN_eq, iN_nat, nlt_t, nlt_f, nle_t, nle_f, neq_t, neq_f, List.length_nil, List.length_cons, or_false, false_or, or_self, not_false_eq_true, not_true_eq_false, ↓reduceIte, if_true, if_false, Bool.false_eq_true, Nat.reduceAdd])) only [fX11_settles, ↓bK_11, ↓zK _, ↓bR_0_7, ↓bR_0_9, ↓bR_0_8, ↓hb_of (hasP_y _ _), ↓hb_of (hasP_n _ _), ↓hb_some, ↓bd_some, ↓letE_eq, h_z0, h_z1, h_zi0, h_zi1, ↓hb_of (hasP_y hF hp), ↓hb_of e1, iN_lit, iN_add, iN_mul, iN_pred, iN_pred', iN_lt, iN_le, iN_eq, iN_nat, nlt_t, nlt_f, nle_t, nle_f, neq_t, neq_f, List.length_nil, List.length_cons, or_false, false_or, or_self, not_false_eq_true, not_true_eq_false, ↓reduceIte, if_true, if_false, Bool.false_eq_true, Nat.reduceAdd] at this ⊢
    exact this
  refine ⟨fun j hj => ?_, fun hj => ?_⟩
  · obtain ⟨z, ⟨A', k1, k2⟩, k3⟩ := key.1 j hj
    exact ⟨A', by rw [en z k3, k1], k2⟩
  · obtain ⟨A', ⟨k1, _⟩, k3⟩ := key.2 hj
    exact ⟨A', en _ k3, k1⟩
theorem set_M {N : Nat} (hN : N = 100) (hI : INV s I A L pr ot J B M ru G P W) (hp : p < P) (mk : MKK A (u1 J 13 0) B G P W ru pu) : ∀ (I E : Nat → Nat → Int32) (L : Nat → Int64) (pr ot : Nat) (T : PH), (∀ j, fnd (fun k => sameH (psZ A pu G p (A 28) k) (psZ A pu G p (A 28) (k + 1)) p 4) N 0 = some j → ∃ J' B' rdv', fX12_settles 45 (iN p) (encC I E L pr ot (encR J B M rdv ru T)) = some (iN j, (encC I E L pr ot (encR (u1 J' 12 (iN 4)) B' (hL M (psZ A pu G p (A 28) (j + 1)) p 4) rdv' ru T))) ∧ frK (u1 J 13 0) J' ∧ frRB B B') ∧ (fnd (fun k => sameH (psZ A pu G p (A 28) k) (psZ A pu G p (A 28) (k + 1)) p 4) N 0 = none → ∃ J' B' rdv', fX12_settles 45 (iN p) (encC I E L pr ot (encR J B M rdv ru T)) = some (-2, (encC I E L pr ot (encR J' B' M rdv' ru T))) ∧ frK (u1 J 13 0) J' ∧ frRB B B') := by
  obtain ⟨hF, hM, hpl, hz, hc, hn2, -⟩ := hI
  have hT := hM.TS
  have h8 := hM.2.2.2.1
  have h6 := hM.2.2.2.2.1
  have hMa : FM A (u1 J 13 0) B G P W := hM.j0 (by decide)
  have hMb : FM A (u1 J 13 (iN 0)) B G P W := hMa
  have ag := fun n => daN_agr (A := A) (pu := pu) (Z := A 28) h8 h6 hp n
  have ek : ∀ k, OK G P (psZ A pu G p (A 28) k) := fun k => hz.ps h8 (by omega) k
  have ez : ∀ k, okH (psZ A pu G p (A 28) k) p := fun k => okH_ps (by omega) (hz.2.2.1 p (by omega)) k
  have sm : ∀ k, sameH (daN A pu G P (A 28) k) (daN A pu G P (A 28) (k + 1)) p 4 = sameH (psZ A pu G p (A 28) k) (psZ A pu G p (A 28) (k + 1)) p 4 := fun k => sameH_agr (ag k).hu (ag (k + 1)).hu 4 (by decide)
  intro I E L pr ot T
  obtain ⟨X, l1, l2, l3⟩ := mk.layQ (I := I) (E := E) (L := L) (pr := pr) (ot := ot) (J' := u1 J 13 (iN 0)) (M := M) (rdv' := rdv) (T := T) frRB.refl
  have step : ∀ k (J' : Nat → Int32) (B' : Nat → Nat → Int32) (rdv' : Value), k < N → frK (u1 J 13 0) J' → frRB B B' → CP (daN A pu G P (A 28) k) (B' 29) →
      ∃ J2 B2 rdv2, (∀ n, fX12_settles_L29 45 (iN p) (fun h7 => some ((-2 : Int32), h7)) (n + 1) (iN k) (encC I E L pr ot (encR J' B' M rdv' ru T)) = (if sameH (psZ A pu G p (A 28) k) (psZ A pu G p (A 28) (k + 1)) p 4 then some (iN k, (encC I E L pr ot (encR (u1 J2 12 (iN 4)) B2 (hL M (psZ A pu G p (A 28) (k + 1)) p 4) rdv2 ru T))) else fX12_settles_L29 45 (iN p) (fun h7 => some ((-2 : Int32), h7)) n (iN (k + 1)) (encC I E L pr ot (encR J2 B2 M rdv2 ru T)))) ∧ frK (u1 J 13 0) J2 ∧ frRB B B2 ∧ CP (daN A pu G P (A 28) (k + 1)) (B2 29) := by
    intro k J' B' rdv' hk i1 i2 i3
    obtain ⟨X, x1, x2⟩ := r_set37 (I := I) (E := E) (L := L) (pr := pr) (ot := ot) (J := J') (M := M) (rdv := rdv') (ru := ru) (T := T) (i2 := iN k) (p := p) (by omega) i3
    obtain ⟨J2, B2, rdv2, d1, d2, d3, d4, d5⟩ : ∃ J2 B2 rdv2, fX12_goDay 45 61 (encC I E L pr ot (encR J' (u1 B' 33 X) M rdv' ru T)) = some ((), (encC I E L pr ot (encR J2 B2 M rdv2 ru T))) ∧ frK (u1 J 13 0) J2 ∧ frRB B B2 ∧ CP (daN A pu G P (A 28) (k + 1)) (B2 29) ∧ B2 33 = X := by
      obtain ⟨h1, h2, ⟨nr, h3, h4⟩, h5⟩ := mk
      obtain ⟨J2, B2, rdv2, e1, e2, -, e4, e5⟩ := r_goDay (I := I) (E := E) (L := L) (pr := pr) (ot := ot) (M := M) (rdv := rdv') (ru := ru) (T := T) (J := J') (B := u1 B' 33 X) (R := B 21) (oa := 61) (Z := daN A pu G P (A 28) k) (h1.q i1.r (i2.trans (fun x hx => by rw [u1_eq, if_neg (by omega)]))) h3 ((i1.r 23 (by omega)).trans h4) (by subst h2; rw [u1_eq, if_neg (by decide)]; exact i2 21 (by omega)) (Or.inl h2) (Or.inr rfl) i3 (hz.dn h8 h6 k)
      exact ⟨J2, B2, rdv2, e1, i1.trans e2, (i2.trans (fun x hx => by rw [u1_eq, if_neg (by omega)])).trans e4.r, e5, (e4 33 (by decide) (by decide) (by decide)).trans (by rw [u1_eq, if_pos rfl])⟩
    have t1 := fun kx => r_set76 (I := I) (E := E) (L := L) (pr := pr) (ot := ot) (J := J2) (B := B2) (M := M) (rdv := rdv2) (ru := ru) (T := T) (i2 := iN k) (p := p) (Z := daN A pu G P (A 28) k) (by omega) d4 (by rw [d5]; exact x2) kx
    have f1 := r_tellHumours (I := I) (E := E) (L := L) (pr := pr) (ot := ot) (J := u1 J2 12 (iN 0)) (B := B2) (M := M) (rdv := rdv2) (ru := ru) (T := T) (oa := 61) (Z := daN A pu G P (A 28) (k + 1)) (p := p) (Or.inr rfl) (by omega) d4 (by rw [u1_eq, if_pos rfl])
    rw [u1_u1, hL_agr (ag (k + 1)).hu 4 (by decide)] at f1
    rw [sm k] at t1
    refine ⟨J2, B2, rdv2, fun n => ?_, d2, d3, d4⟩
    cases hs : sameH (psZ A pu G p (A 28) k) (psZ A pu G p (A 28) (k + 1)) p 4 with
    | true =>
      rw [hs] at t1
      simp only [iN_lit, if_true] at x1 t1
      simp (disch := first | omega | assumption | (simp (disch := omega) only [iN_lit, iN_add, iN_mul, iN_pred, iN_pred', iN_lt, iN_le, iN_eq, iN_nat, nlt_t, nlt_f, nle_t, nle_f, neq_t, neq_f, List.length_nil, List.length_cons, or_false, false_or, or_self, not_false_eq_true, not_true_eq_false, ↓reduceIte, if_true, if_false, Bool.false_eq_true, Nat.reduceAdd])) only [fX12_settles_L29, ↓brK, ↓brR_29, ↓brA_29, ↓brS_29, ↓brW_12, ↓hb_of (r_tellHumours _ _ _ _), ↓hb_some, ↓bd_some, ↓letE_eq, h_z0, h_z1, h_zi0, h_zi1, iN_lit, iN_add, iN_mul, iN_pred, iN_pred', iN_lt, iN_le, iN_eq, iN_nat, nlt_t, nlt_f, nle_t, nle_f, neq_t, neq_f, List.length_nil, List.length_cons, or_false, false_or, or_self, not_false_eq_true, not_true_eq_false, ↓reduceIte, if_true, if_false, Bool.false_eq_true, Nat.reduceAdd, x1, ↓hb_of d1, t1, ↓hb_of f1]
    | false =>
      rw [hs] at t1
      simp only [iN_lit, Bool.false_eq_true, if_false] at x1 t1
      simp (disch := first | omega | assumption | (simp (disch := omega) only [iN_lit, iN_add, iN_mul, iN_pred, iN_pred', iN_lt, iN_le, iN_eq, iN_nat, nlt_t, nlt_f, nle_t, nle_f, neq_t, neq_f, List.length_nil, List.length_cons, or_false, false_or, or_self, not_false_eq_true, not_true_eq_false, ↓reduceIte, if_true, if_false, Bool.false_eq_true, Nat.reduceAdd])) only [fX12_settles_L29, ↓brK, ↓brR_29, ↓brA_29, ↓brS_29, ↓brW_12, ↓hb_of (r_tellHumours _ _ _ _), ↓hb_some, ↓bd_some, ↓letE_eq, h_z0, h_z1, h_zi0, h_zi1, iN_lit, iN_add, iN_mul, iN_pred, iN_pred', iN_lt, iN_le, iN_eq, iN_nat, nlt_t, nlt_f, nle_t, nle_f, neq_t, neq_f, List.length_nil, List.length_cons, or_false, false_or, or_self, not_false_eq_true, not_true_eq_false, ↓reduceIte, if_true, if_false, Bool.false_eq_true, Nat.reduceAdd, x1, ↓hb_of d1, t1]
  have key := lp_find (fun n k (q : (Nat → Int32) × (Nat → Nat → Int32) × Value) => fX12_settles_L29 45 (iN p) (fun h7 => some ((-2 : Int32), h7)) n (iN k) (encC I E L pr ot (encR (q.1) (q.2.1) M (q.2.2) ru T))) (fun q => some (-2, (encC I E L pr ot (encR (q.1) (q.2.1) M (q.2.2) ru T)))) (fun k q => frK (u1 J 13 0) q.1 ∧ frRB B q.2.1 ∧ CP (daN A pu G P (A 28) k) (q.2.1 29)) (fun k => sameH (psZ A pu G p (A 28) k) (psZ A pu G p (A 28) (k + 1)) p 4) (fun k z => ∃ J' B' rdv', z = some (iN k, (encC I E L pr ot (encR (u1 J' 12 (iN 4)) B' (hL M (psZ A pu G p (A 28) (k + 1)) p 4) rdv' ru T))) ∧ frK (u1 J 13 0) J' ∧ frRB B B') N
    (fun k q hk hi hcc => by
      obtain ⟨J', B', rdv'⟩ := q
      obtain ⟨J2, B2, rdv2, s1, s2, s3, s4⟩ := step k J' B' rdv' hk hi.1 hi.2.1 hi.2.2
      exact ⟨_, ⟨J2, B2, rdv2, rfl, s2, s3⟩, fun n => by rw [s1 n, if_pos hcc]⟩)
    (fun k q hk hi hcc => by
      obtain ⟨J', B', rdv'⟩ := q
      obtain ⟨J2, B2, rdv2, s1, s2, s3, s4⟩ := step k J' B' rdv' hk hi.1 hi.2.1 hi.2.2
      exact ⟨(J2, B2, rdv2), ⟨s2, s3, s4⟩, fun n => by rw [s1 n, if_neg (by rw [hcc]; decide)]⟩)
    (fun q hi n => by
      obtain ⟨J', B', rdv'⟩ := q
      simp (disch := first | omega | assumption | (simp (disch := omega) only [iN_lit, iN_add, iN_mul, iN_pred, iN_pred', iN_lt, iN_le, iN_eq, iN_nat, nlt_t, nlt_f, nle_t, nle_f, neq_t, neq_f, List.length_nil, List.length_cons, or_false, false_or, or_self, not_false_eq_true, not_true_eq_false, ↓reduceIte, if_true, if_false, Bool.false_eq_true, Nat.reduceAdd])) only [fX12_settles_L29, ↓brK, ↓brR_29, ↓brA_29, ↓brS_29, ↓brW_12, ↓hb_of (r_tellHumours _ _ _ _), ↓hb_some, ↓bd_some, ↓letE_eq, h_z0, h_z1, h_zi0, h_zi1, iN_lit, iN_add, iN_mul, iN_pred, iN_pred', iN_lt, iN_le, iN_eq, iN_nat, nlt_t, nlt_f, nle_t, nle_f, neq_t, neq_f, List.length_nil, List.length_cons, or_false, false_or, or_self, not_false_eq_true, not_true_eq_false, ↓reduceIte, if_true, if_false, Bool.false_eq_true, Nat.reduceAdd]) N 0 (u1 J 13 0, u1 B 29 X, rdv) (by omega) ⟨frK.refl, l3, by dsimp only; rw [u1_eq, if_pos rfl]; exact l2⟩
  have en : ∀ z, (∀ n, N < n → fX12_settles_L29 45 (iN p) (fun h7 => some ((-2 : Int32), h7)) n (iN 0) (encC I E L pr ot (encR (u1 J 13 0) (u1 B 29 X) M rdv ru T)) = z) → fX12_settles 45 (iN p) (encC I E L pr ot (encR J B M rdv ru T)) = z := by
    intro z hz2
    refine Eq.trans ?_ (hz2 FU (by unfold FU; omega))
    unfold fX12_settles
    simp only [iN_lit]
    rw [brW_13, brK, hb_of (r_isMan hMb hp), if_neg (by decide), brR_0, brR_29, hb_of l1]
  refine ⟨fun j hj => ?_, fun hj => ?_⟩
  · obtain ⟨z, ⟨J', B', rdv', k1, k2, k4⟩, k3⟩ := key.1 j hj
    exact ⟨J', B', rdv', by rw [en z k3, k1], k2, k4⟩
  · obtain ⟨⟨J', B', rdv'⟩, ⟨k1, k2, _⟩, k3⟩ := key.2 hj
    exact ⟨J', B', rdv', en _ k3, k1, k2⟩
theorem p_settles (h : INV s I A L pr ot J B M ru G P W) (x : Int32) : pairG s I A L pr ot J B M rdv ru out (fX11_settles 0 x) (fX12_settles 45 x) := by
  have hI := h
  obtain ⟨pu, ck, -, mk⟩ := h.km
  obtain ⟨hF, hM, hpl, hz, hc, hn2, -⟩ := h
  have hT := hM.TS
  have h8 := hM.2.2.2.1
  have h6 := hM.2.2.2.2.1
  have hMa : FM A (u1 J 13 0) B G P W := hM.j0 (by decide)
  have hMb : FM A (u1 J 13 (iN 0)) B G P W := hMa
  rcases arg_lt P (by omega) x with ⟨p, hp, rfl⟩ | hx
  · have ag := fun n => daN_agr (A := A) (pu := pu) (Z := A 28) h8 h6 hp n
    obtain ⟨N, hN⟩ : ∃ N, N = 100 := ⟨100, rfl⟩
    have ek : ∀ k, OK G P (psZ A pu G p (A 28) k) := fun k => hz.ps h8 (by omega) k
    have ez : ∀ k, okH (psZ A pu G p (A 28) k) p := fun k => okH_ps (by omega) (hz.2.2.1 p (by omega)) k
    have kC := set_C hN hI hp ck
    have kM := set_M (rdv := rdv) hN hI hp mk
    cases hf : fnd (fun k => sameH (psZ A pu G p (A 28) k) (psZ A pu G p (A 28) (k + 1)) p 4) N 0 with
    | some j =>
      refine pairG_q (ans := iN j) (rw := some (hrow (psZ A pu G p (A 28) (j + 1)) p)) hI (fun T => ?_) (fun I E L pr ot T => ?_)
      · obtain ⟨A', e1, e2⟩ := (kC T).1 j hf
        exact ⟨_, A', _, e1, frI.u, e2, by simp [hrow], hrow_C⟩
      · obtain ⟨J', B', rdv', e1, e2, e3⟩ := (kM I E L pr ot T).1 j hf
        exact ⟨_, B', _, rdv', e1, ((frRJ.u (by decide)).trans e2.r).trans (frRJ.u (by decide)), e3, by simp [hrow], by rw [u1_eq, if_pos rfl]; exact hrow_C⟩
    | none =>
      refine pairG_q (ans := -2) (rw := none) hI (fun T => ?_) (fun I E L pr ot T => ?_)
      · obtain ⟨A', e1, e2⟩ := (kC T).2 hf
        exact ⟨I, A', L, e1, frI.refl, e2, rfl, rfl⟩
      · obtain ⟨J', B', rdv', e1, e2, e3⟩ := (kM I E L pr ot T).2 hf
        exact ⟨J', B', M, rdv', e1, (frRJ.u (by decide)).trans e2.r, e3, e2 12 (by decide) (by decide) (by decide) (by decide) (by decide) (by decide), rfl⟩
  · refine pairG_q (ans := -1) hI (fun T => qC_no ?_) (qM_no (fun I E L pr ot T => ?_))
    · simp (disch := first | omega | assumption | (simp (disch := omega) only [iN_lit, iN_add, iN_mul, iN_pred, iN_pred', iN_lt, iN_le, iN_eq, iN_nat, nlt_t, nlt_f, nle_t, nle_f, neq_t, neq_f, List.length_nil, List.length_cons, or_false, false_or, or_self, not_false_eq_true, not_true_eq_false, ↓reduceIte, if_true, if_false, Bool.false_eq_true, Nat.reduceAdd])) only [fX11_settles, ↓bK_11, ↓zK _, ↓bR_0_7, ↓bR_0_9, ↓bR_0_8, ↓hb_of (hasP_y _ _), ↓hb_of (hasP_n _ _), ↓hb_of (c_copy _ _), ↓hb_some, ↓bd_some, ↓letE_eq, h_z0, h_z1, h_zi0, h_zi1, iN_lit, iN_add, iN_mul, iN_pred, iN_pred', iN_lt, iN_le, iN_eq, iN_nat, nlt_t, nlt_f, nle_t, nle_f, neq_t, neq_f, List.length_nil, List.length_cons, or_false, false_or, or_self, not_false_eq_true, not_true_eq_false, ↓reduceIte, if_true, if_false, Bool.false_eq_true, Nat.reduceAdd]
    · simp (disch := first | omega | assumption | (simp (disch := omega) only [iN_lit, iN_add, iN_mul, iN_pred, iN_pred', iN_lt, iN_le, iN_eq, iN_nat, nlt_t, nlt_f, nle_t, nle_f, neq_t, neq_f, List.length_nil, List.length_cons, or_false, false_or, or_self, not_false_eq_true, not_true_eq_false, ↓reduceIte, if_true, if_false, Bool.false_eq_true, Nat.reduceAdd])) only [fX12_settles, ↓brK, ↓brR_0, ↓brA_0, ↓brS_0, ↓brR_29, ↓brA_29, ↓brS_29, ↓brW_13, fX12_settles_J111_76, fX12_settles_J110_76, ↓hb_of (isM_n _ _), ↓hb_of (r_isMan _ _), ↓hb_of (r_layT), ↓hb_of (r_layS), ↓hb_of (r_layU _), ↓hb_of (r_layV _), ↓hb_of (r_layK _), ↓hb_some, ↓bd_some, ↓letE_eq, h_z0, h_z1, h_zi0, h_zi1, iN_lit, iN_add, iN_mul, iN_pred, iN_pred', iN_lt, iN_le, iN_eq, iN_nat, nlt_t, nlt_f, nle_t, nle_f, neq_t, neq_f, List.length_nil, List.length_cons, or_false, false_or, or_self, not_false_eq_true, not_true_eq_false, ↓reduceIte, if_true, if_false, Bool.false_eq_true, Nat.reduceAdd]
end LA
