/-! CALLS: when, apart, lacks, richest -/
theorem if_00 {α : Type} {a b : α} : (if (0 : Int32) = iN 0 then a else b) = a := if_pos rfl
theorem if_10 {α : Type} {a b : α} : (if (1 : Int32) = iN 0 then a else b) = b := if_neg (by decide)
section LB
variable {I A E I' A' : Nat → Nat → Int32} {L L' : Nat → Int64} {pr ot s : Nat} {J J' : Nat → Int32} {B B' : Nat → Nat → Int32} {M M' : Nat → Int64} {rdv : Value} {ru : Nat} {T : PH} {G P W p q g n nr sz ro oa w : Nat} {Z Z' R X : Nat → Int32} {x y z i2 : Int32} {out : Nat → Int64} {pu : (Nat → Int32) → Int32}
theorem waS_has (hw : w < W) (h7 : W ≤ 6) : hasB (waS A Z W p) w = hwB A Z p w := by
  unfold waS
  rw [bt_has (by omega) (by omega), decide_eq_true hw, Bool.true_and]
theorem hwB_agr (h : ∀ j, 8 + p * 4 ≤ j → j < 8 + p * 4 + 4 → Z' j = Z j) (hT : TS A W) (hw : w < W) : hwB A Z' p w = hwB A Z p w := by
  obtain ⟨n, hn, e1, h1⟩ := hT w hw
  unfold hwB
  rw [e1, iN_nat (by omega)]
  refine allB_congr (fun t ht => ?_)
  obtain ⟨k, hk, e2⟩ := h1 t ht
  unfold tmB
  rw [e2, iN_nat (by omega), h _ (by omega) (by omega)]
theorem when_C {N : Nat} (hN : N = 100) (ck : CK I A G P W pr pu) (hp : p < P) (hw : w < W) : ∀ T, (∀ j, fnd (fun k => hwB A (psZ A pu G p (A 28) k) p w) N 0 = some j → ∃ A', fX11_when 0 (iN p) (iN w) (encC I A L pr ot T) = some (iN j, (encC (u2 I 9 1 (iN 1)) A' (vp_updL L 0 (bc (waS A (psZ A pu G p (A 28) j) W p)).toInt64) pr ot T)) ∧ frQ A A') ∧ (fnd (fun k => hwB A (psZ A pu G p (A 28) k) p w) N 0 = none → ∃ A', fX11_when 0 (iN p) (iN w) (encC I A L pr ot T) = some (-2, (encC I A' L pr ot T)) ∧ frQ A A') := by
  intro T
  have hF := ck.1
  have h8 := hF.2.2.2.1
  have h6 := hF.2.2.2.2.1
  have h7 := hF.2.2.2.2.2
  have hz := ck.2.2.2.2.1
  have ek : ∀ k, OK G P (psZ A pu G p (A 28) k) := fun k => hz.ps h8 (by omega) k
  have e1 := ck.copy (L := L) (pr := pr) (ot := ot) (T := T)
  have key := lp_find (fun n k (A' : Nat → Nat → Int32) => fX11_when_L37 0 (iN p) (iN w) (fun h7 => some ((-2 : Int32), h7)) n (iN k) (encC I A' L pr ot T)) (fun A' => some (-2, (encC I A' L pr ot T))) (fun k A' => frQ A A' ∧ A' 32 = psZ A pu G p (A 28) k) (fun k => hwB A (psZ A pu G p (A 28) k) p w) (fun k z => ∃ A', z = some (iN k, (encC (u2 I 9 1 (iN 1)) A' (vp_updL L 0 (bc (waS A (psZ A pu G p (A 28) k) W p)).toInt64) pr ot T)) ∧ frQ A A') N
    (fun k A' hk hi hcc => by
      obtain ⟨i1, i2⟩ := hi
      have g1 := ck.wants (L := L) (pr := pr) (ot := ot) (T := T) i1 i2 hp
      have g2 : hasB (waS A (psZ A pu G p (A 28) k) W p) w = true := (waS_has hw h7).trans hcc
      refine ⟨_, ⟨A', rfl, i1⟩, fun n => ?_⟩
      simp (disch := first | omega | assumption | (simp (disch := omega) only [iN_lit, iN_add, iN_mul, iN_pred, iN_pred', iN_lt, iN_le, iN_eq, iN_nat, nlt_t, nlt_f, nle_t, nle_f, neq_t, neq_f, List.length_nil, List.length_cons, or_false, false_or, or_self, not_false_eq_true, not_true_eq_false, ↓reduceIte, if_true, if_false, Bool.false_eq_true, Nat.reduceAdd])) only [fX11_when_L37, ↓zK _, ↓bK_11, ↓bK_9, ↓bR_0_9, ↓bR_0_7, ↓bR_0_6, ↓hb_of (isIn_y _), ↓hb_of (isIn_n _), ↓hb_of (c_isIn_gs _ _), ↓hb_of (c_presentRule), ↓hb_of (c_start), ↓hb_of (c_bitCount), ↓hb_of (c_add _), ↓hb_some, ↓bd_some, ↓letE_eq, h_z0, h_z1, h_zi0, h_zi1, ↓hb_of g1, ↓hb_of c_bitCount, ↓hb_of (isIn_y g2), iN_lit, iN_add, iN_mul, iN_pred, iN_pred', iN_lt, iN_le, iN_eq, iN_nat, nlt_t, nlt_f, nle_t, nle_f, neq_t, neq_f, List.length_nil, List.length_cons, or_false, false_or, or_self, not_false_eq_true, not_true_eq_false, ↓reduceIte, if_true, if_false, Bool.false_eq_true, Nat.reduceAdd])
    (fun k A' hk hi hcc => by
      obtain ⟨i1, i2⟩ := hi
      obtain ⟨A2, f1, f5, f4⟩ := ck.pass (L := L) (pr := pr) (ot := ot) (T := T) (n := 1) i1 i2 (ek k) hp (by decide)
      have g1 := ck.wants (L := L) (pr := pr) (ot := ot) (T := T) i1 i2 hp
      have g2 : hasB (waS A (psZ A pu G p (A 28) k) W p) w = false := (waS_has hw h7).trans hcc
      refine ⟨A2, ⟨f5, f4⟩, fun n => ?_⟩
      simp (disch := first | omega | assumption | (simp (disch := omega) only [iN_lit, iN_add, iN_mul, iN_pred, iN_pred', iN_lt, iN_le, iN_eq, iN_nat, nlt_t, nlt_f, nle_t, nle_f, neq_t, neq_f, List.length_nil, List.length_cons, or_false, false_or, or_self, not_false_eq_true, not_true_eq_false, ↓reduceIte, if_true, if_false, Bool.false_eq_true, Nat.reduceAdd])) only [fX11_when_L37, ↓zK _, ↓bK_11, ↓bK_9, ↓bR_0_9, ↓bR_0_7, ↓bR_0_6, ↓hb_of (isIn_y _), ↓hb_of (isIn_n _), ↓hb_of (c_isIn_gs _ _), ↓hb_of (c_presentRule), ↓hb_of (c_start), ↓hb_of (c_bitCount), ↓hb_of (c_add _), ↓hb_some, ↓bd_some, ↓letE_eq, h_z0, h_z1, h_zi0, h_zi1, ↓hb_of g1, ↓hb_of f1, ↓hb_of (isIn_n g2), iN_lit, iN_add, iN_mul, iN_pred, iN_pred', iN_lt, iN_le, iN_eq, iN_nat, nlt_t, nlt_f, nle_t, nle_f, neq_t, neq_f, List.length_nil, List.length_cons, or_false, false_or, or_self, not_false_eq_true, not_true_eq_false, ↓reduceIte, if_true, if_false, Bool.false_eq_true, Nat.reduceAdd])
    (fun A' hi n => by simp (disch := first | omega | assumption | (simp (disch := omega) only [iN_lit, iN_add, iN_mul, iN_pred, iN_pred', iN_lt, iN_le, iN_eq, iN_nat, nlt_t, nlt_f, nle_t, nle_f, neq_t, neq_f, List.length_nil, List.length_cons, or_false, false_or, or_self, not_false_eq_true, not_true_eq_false, ↓reduceIte, if_true, if_false, Bool.false_eq_true, Nat.reduceAdd])) only [fX11_when_L37, ↓zK _, ↓bK_11, ↓bK_9, ↓bR_0_9, ↓bR_0_7, ↓bR_0_6, ↓hb_of (c_wantsOf _ _ _ _), ↓hb_of (isIn_y _), ↓hb_of (isIn_n _), ↓hb_of (c_isIn_gs _ _), ↓hb_of (c_presentRule), ↓hb_of (c_start), ↓hb_of (c_bitCount), ↓hb_of (c_add _), ↓hb_some, ↓bd_some, ↓letE_eq, h_z0, h_z1, h_zi0, h_zi1, iN_lit, iN_add, iN_mul, iN_pred, iN_pred', iN_lt, iN_le, iN_eq, iN_nat, nlt_t, nlt_f, nle_t, nle_f, neq_t, neq_f, List.length_nil, List.length_cons, or_false, false_or, or_self, not_false_eq_true, not_true_eq_false, ↓reduceIte, if_true, if_false, Bool.false_eq_true, Nat.reduceAdd]) N 0 (u1 A 32 (A 28)) (by omega) ⟨frQ.cp hz.1, rfl⟩
  have en : ∀ z, (∀ n, N < n → fX11_when_L37 0 (iN p) (iN w) (fun h7 => some ((-2 : Int32), h7)) n (iN 0) (encC I (u1 A 32 (A 28)) L pr ot T) = z) → fX11_when 0 (iN p) (iN w) (encC I A L pr ot T) = z := by
    intro z hz2
    refine Eq.trans ?_ (hz2 FU (by unfold FU; omega))
    unfold fX11_when
    simp only [iN_lit]
    simp (disch := first | omega | assumption | (simp (disch := omega) only [iN_lit, iN_add, iN_mul, iN_pred, iN_pred', iN_lt, iN_le, iN_eq, iN_nat, nlt_t, nlt_f, nle_t, nle_f, neq_t, neq_f, List.length_nil, List.length_cons, or_false, false_or, or_self, not_false_eq_true, not_true_eq_false, ↓reduceIte, if_true, if_false, Bool.false_eq_true, Nat.reduceAdd])) only [fX11_when, ↓bK_11, ↓zK _, ↓bR_0_7, ↓bR_0_9, ↓bR_0_8, ↓hb_of (hasP_y _ _), ↓hb_of (hasP_n _ _), ↓hb_of (hasW_y _ _), ↓hb_of (hasW_n _ _), ↓hb_some, ↓bd_some, ↓letE_eq, h_z0, h_z1, h_zi0, h_zi1, ↓hb_of (hasP_y hF hp), ↓hb_of (hasW_y hF hw), ↓hb_of e1, iN_lit, iN_add, iN_mul, iN_pred, iN_pred', iN_lt, iN_le, iN_eq, iN_nat, nlt_t, nlt_f, nle_t, nle_f, neq_t, neq_f, List.length_nil, List.length_cons, or_false, false_or, or_self, not_false_eq_true, not_true_eq_false, ↓reduceIte, if_true, if_false, Bool.false_eq_true, Nat.reduceAdd]
  refine ⟨fun j hj => ?_, fun hj => ?_⟩
  · obtain ⟨z, ⟨A', k1, k2⟩, k3⟩ := key.1 j hj
    exact ⟨A', by rw [en z k3, k1], k2⟩
  · obtain ⟨A', ⟨k1, _⟩, k3⟩ := key.2 hj
    exact ⟨A', en _ k3, k1⟩
theorem when_M {N : Nat} (hN : N = 100) (mk : MKK A (u1 J 13 (iN 0)) B G P W ru pu) (hT : TS A W) (hp : p < P) (hw : w < W) : ∀ (I E : Nat → Nat → Int32) (L : Nat → Int64) (pr ot : Nat) (T : PH), (∀ j, fnd (fun k => hwB A (psZ A pu G p (A 28) k) p w) N 0 = some j → ∃ J' B' rdv', fX12_when 45 (iN p) (iN w) (encC I E L pr ot (encR J B M rdv ru T)) = some (iN j, (encC I E L pr ot (encR (u1 J' 12 (iN 1)) B' (vp_updL M 0 (bc (waS A (psZ A pu G p (A 28) j) W p)).toInt64) rdv' ru T))) ∧ frK (u1 J 13 (iN 0)) J' ∧ frRB B B') ∧ (fnd (fun k => hwB A (psZ A pu G p (A 28) k) p w) N 0 = none → ∃ J' B' rdv', fX12_when 45 (iN p) (iN w) (encC I E L pr ot (encR J B M rdv ru T)) = some (-2, (encC I E L pr ot (encR J' B' M rdv' ru T))) ∧ frK (u1 J 13 (iN 0)) J' ∧ frRB B B') := by
  intro I E L pr ot T
  have hM := mk.1
  have h8 := hM.2.2.2.1
  have h6 := hM.2.2.2.2.1
  have hz := mk.2.2.2.1
  have ag := fun n => daN_agr (A := A) (pu := pu) (Z := A 28) h8 h6 hp n
  obtain ⟨X, l1, l2, l3⟩ := mk.layQ (I := I) (E := E) (L := L) (pr := pr) (ot := ot) (J' := u1 J 13 (iN 0)) (M := M) (rdv' := rdv) (T := T) frRB.refl
  have hw2 : ∀ k, hwB A (daN A pu G P (A 28) k) p w = hwB A (psZ A pu G p (A 28) k) p w := fun k => hwB_agr (ag k).hu hT hw
  have key := lp_find (fun n k (q : (Nat → Int32) × (Nat → Nat → Int32) × Value) => fX12_when_L37 45 (iN p) (iN w) (fun h7 => some ((-2 : Int32), h7)) n (iN k) (encC I E L pr ot (encR (q.1) (q.2.1) M (q.2.2) ru T))) (fun q => some (-2, (encC I E L pr ot (encR (q.1) (q.2.1) M (q.2.2) ru T)))) (fun k q => frK (u1 J 13 (iN 0)) q.1 ∧ frRB B q.2.1 ∧ CP (daN A pu G P (A 28) k) (q.2.1 29)) (fun k => hwB A (psZ A pu G p (A 28) k) p w) (fun k z => ∃ J' B' rdv', z = some (iN k, (encC I E L pr ot (encR (u1 J' 12 (iN 1)) B' (vp_updL M 0 (bc (waS A (psZ A pu G p (A 28) k) W p)).toInt64) rdv' ru T))) ∧ frK (u1 J 13 (iN 0)) J' ∧ frRB B B') N
    (fun k q hk hi hcc => by
      obtain ⟨J', B', rdv'⟩ := q
      obtain ⟨i1, i2, i3⟩ := hi
      have g1 := r_hasWant (I := I) (E := E) (L := L) (pr := pr) (ot := ot) (M := M) (rdv := rdv') (ru := ru) (T := T) (oa := 61) (p := p) (w := w) (hM.q i1.r i2) (Or.inr rfl) i3 (by omega) ((hz.dn h8 h6 k).2.2.1 p (by omega)) hw
      rw [hw2 k, hcc, if_pos rfl] at g1
      have g2 := (mk.fr i1.r i2).had (I := I) (E := E) (L := L) (pr := pr) (ot := ot) (M := M) (rdv' := rdv') (T := T) (J' := u1 J' 12 (iN 0)) (B' := B') (p := p) (frRJ.u (by decide)) frRB.refl i3 (hz.dn h8 h6 k) hp
      rw [waS_agr (ag k).hu hT] at g2
      have g3 := r_tell (I := I) (E := E) (L := L) (pr := pr) (ot := ot) (J := u1 J' 12 (iN 0)) (B := B') (M := M) (rdv := rdv') (ru := ru) (T := T) (v := (bc (waS A (psZ A pu G p (A 28) k) W p)).toInt64) (n := 0) (by rw [u1_eq, if_pos rfl]) (by decide)
      rw [u1_u1] at g3
      refine ⟨_, ⟨J', B', rdv', rfl, i1, i2⟩, fun n => ?_⟩
      simp only [iN_lit] at g1
      simp (disch := first | omega | assumption | (simp (disch := omega) only [iN_lit, iN_add, iN_mul, iN_pred, iN_pred', iN_lt, iN_le, iN_eq, iN_nat, nlt_t, nlt_f, nle_t, nle_f, neq_t, neq_f, List.length_nil, List.length_cons, or_false, false_or, or_self, not_false_eq_true, not_true_eq_false, ↓reduceIte, if_true, if_false, Bool.false_eq_true, Nat.reduceAdd])) only [fX12_when_L37, ↓brK, ↓brR_29, ↓brA_29, ↓brS_29, ↓brW_12, ↓hb_of (c_bitCount), ↓hb_some, ↓bd_some, ↓letE_eq, h_z0, h_z1, h_zi0, h_zi1, ↓hb_of g1, ↓hb_of g2, ↓hb_of g3, ↓hb_of c_bitCount, iN_lit, iN_add, iN_mul, iN_pred, iN_pred', iN_lt, iN_le, iN_eq, iN_nat, nlt_t, nlt_f, nle_t, nle_f, neq_t, neq_f, List.length_nil, List.length_cons, or_false, false_or, or_self, not_false_eq_true, not_true_eq_false, ↓reduceIte, if_true, if_false, Bool.false_eq_true, Nat.reduceAdd])
    (fun k q hk hi hcc => by
      obtain ⟨J', B', rdv'⟩ := q
      obtain ⟨i1, i2, i3⟩ := hi
      have g1 := r_hasWant (I := I) (E := E) (L := L) (pr := pr) (ot := ot) (M := M) (rdv := rdv') (ru := ru) (T := T) (oa := 61) (p := p) (w := w) (hM.q i1.r i2) (Or.inr rfl) i3 (by omega) ((hz.dn h8 h6 k).2.2.1 p (by omega)) hw
      rw [hw2 k, hcc, if_neg (by decide)] at g1
      obtain ⟨J2, B2, rdv2, d1, d2, d3, d4⟩ := mk.day (I := I) (E := E) (L := L) (pr := pr) (ot := ot) (M := M) (rdv' := rdv') (T := T) (J' := J') (B' := B') i1 i2 i3 (hz.dn h8 h6 k)
      refine ⟨(J2, B2, rdv2), ⟨d2, d3, d4⟩, fun n => ?_⟩
      simp only [iN_lit] at g1
      simp (disch := first | omega | assumption | (simp (disch := omega) only [iN_lit, iN_add, iN_mul, iN_pred, iN_pred', iN_lt, iN_le, iN_eq, iN_nat, nlt_t, nlt_f, nle_t, nle_f, neq_t, neq_f, List.length_nil, List.length_cons, or_false, false_or, or_self, not_false_eq_true, not_true_eq_false, ↓reduceIte, if_true, if_false, Bool.false_eq_true, Nat.reduceAdd])) only [fX12_when_L37, ↓brK, ↓brR_29, ↓brA_29, ↓brS_29, ↓brW_12, ↓hb_of (c_bitCount), ↓hb_some, ↓bd_some, ↓letE_eq, h_z0, h_z1, h_zi0, h_zi1, ↓hb_of g1, ↓hb_of d1, iN_lit, iN_add, iN_mul, iN_pred, iN_pred', iN_lt, iN_le, iN_eq, iN_nat, nlt_t, nlt_f, nle_t, nle_f, neq_t, neq_f, List.length_nil, List.length_cons, or_false, false_or, or_self, not_false_eq_true, not_true_eq_false, ↓reduceIte, if_true, if_false, Bool.false_eq_true, Nat.reduceAdd])
    (fun q hi n => by
      obtain ⟨J', B', rdv'⟩ := q
      simp (disch := first | omega | assumption | (simp (disch := omega) only [iN_lit, iN_add, iN_mul, iN_pred, iN_pred', iN_lt, iN_le, iN_eq, iN_nat, nlt_t, nlt_f, nle_t, nle_f, neq_t, neq_f, List.length_nil, List.length_cons, or_false, false_or, or_self, not_false_eq_true, not_true_eq_false, ↓reduceIte, if_true, if_false, Bool.false_eq_true, Nat.reduceAdd])) only [fX12_when_L37, ↓brK, ↓brR_29, ↓brA_29, ↓brS_29, ↓brW_12, ↓hb_of (r_hasWant _ _ _ _ _ _), ↓hb_of (r_had _ _ _ _ _), ↓hb_of (c_bitCount), ↓hb_of (r_tell _ _), ↓hb_some, ↓bd_some, ↓letE_eq, h_z0, h_z1, h_zi0, h_zi1, iN_lit, iN_add, iN_mul, iN_pred, iN_pred', iN_lt, iN_le, iN_eq, iN_nat, nlt_t, nlt_f, nle_t, nle_f, neq_t, neq_f, List.length_nil, List.length_cons, or_false, false_or, or_self, not_false_eq_true, not_true_eq_false, ↓reduceIte, if_true, if_false, Bool.false_eq_true, Nat.reduceAdd]) N 0 (u1 J 13 (iN 0), u1 B 29 X, rdv) (by omega) ⟨frK.refl, l3, by dsimp only; rw [u1_eq, if_pos rfl]; exact l2⟩
  have en : ∀ z, (∀ n, N < n → fX12_when_L37 45 (iN p) (iN w) (fun h7 => some ((-2 : Int32), h7)) n (iN 0) (encC I E L pr ot (encR (u1 J 13 (iN 0)) (u1 B 29 X) M rdv ru T)) = z) → fX12_when 45 (iN p) (iN w) (encC I E L pr ot (encR J B M rdv ru T)) = z := by
    intro z hz2
    refine Eq.trans ?_ (hz2 FU (by unfold FU; omega))
    unfold fX12_when
    simp only [iN_lit]
    rw [brW_13, brK, hb_of (r_isMan hM hp), if_neg (by decide), brK, hb_of (r_isWant hM hw), if_neg (by decide), brR_0, brR_29, hb_of l1]
  refine ⟨fun j hj => ?_, fun hj => ?_⟩
  · obtain ⟨z, ⟨J', B', rdv', k1, k2, k4⟩, k3⟩ := key.1 j hj
    exact ⟨J', B', rdv', by rw [en z k3, k1], k2, k4⟩
  · obtain ⟨⟨J', B', rdv'⟩, ⟨k1, k2, _⟩, k3⟩ := key.2 hj
    exact ⟨J', B', rdv', en _ k3, k1, k2⟩
theorem p_when (h : INV s I A L pr ot J B M ru G P W) (x y : Int32) : pairG s I A L pr ot J B M rdv ru out (fX11_when 0 x y) (fX12_when 45 x y) := by
  have hI := h
  obtain ⟨pu, ck, -, mk⟩ := h.km
  obtain ⟨hF, hM, hpl, hz, hc, hn2, -⟩ := h
  have hT := hM.TS
  have h8 := hM.2.2.2.1
  have h6 := hM.2.2.2.2.1
  have h7 := hM.2.2.2.2.2.1
  have hMb : FM A (u1 J 13 (iN 0)) B G P W := mk.1
  rcases arg_lt P (by omega) x with ⟨p, hp, rfl⟩ | hx
  · rcases arg_lt W (by omega) y with ⟨w, hw, rfl⟩ | hy
    · obtain ⟨N, hN⟩ : ∃ N, N = 100 := ⟨100, rfl⟩
      have kC := when_C (L := L) (ot := ot) hN ck hp hw
      have kM := when_M (M := M) (rdv := rdv) hN mk hT hp hw
      cases hf : fnd (fun k => hwB A (psZ A pu G p (A 28) k) p w) N 0 with
      | some j =>
        refine pairG_q (ans := iN j) (rw := some [(bc (waS A (psZ A pu G p (A 28) j) W p)).toInt64]) hI (fun T => ?_) (fun I E L pr ot T => ?_)
        · obtain ⟨A', e1, e2⟩ := (kC T).1 j hf
          exact ⟨_, A', _, e1, frI.u, e2, by simp, row_1 rfl⟩
        · obtain ⟨J', B', rdv', e1, e2, e3⟩ := (kM I E L pr ot T).1 j hf
          exact ⟨_, B', _, rdv', e1, ((frRJ.u (by decide)).trans e2.r).trans (frRJ.u (by decide)), e3, by simp, by rw [u1_eq, if_pos rfl]; exact row_1 rfl⟩
      | none =>
        refine pairG_q (ans := -2) (rw := none) hI (fun T => ?_) (fun I E L pr ot T => ?_)
        · obtain ⟨A', e1, e2⟩ := (kC T).2 hf
          exact ⟨I, A', L, e1, frI.refl, e2, rfl, rfl⟩
        · obtain ⟨J', B', rdv', e1, e2, e3⟩ := (kM I E L pr ot T).2 hf
          exact ⟨J', B', M, rdv', e1, (frRJ.u (by decide)).trans e2.r, e3, e2 12 (by decide) (by decide) (by decide) (by decide) (by decide) (by decide), rfl⟩
    · refine pairG_q (ans := -1) hI (fun T => qC_no ?_) (qM_no (fun I E L pr ot T => ?_))
      · simp (disch := first | omega | assumption | (simp (disch := omega) only [iN_lit, iN_add, iN_mul, iN_pred, iN_pred', iN_lt, iN_le, iN_eq, iN_nat, nlt_t, nlt_f, nle_t, nle_f, neq_t, neq_f, List.length_nil, List.length_cons, or_false, false_or, or_self, not_false_eq_true, not_true_eq_false, ↓reduceIte, if_true, if_false, Bool.false_eq_true, Nat.reduceAdd])) only [fX11_when, ↓bK_11, ↓zK _, ↓bR_0_7, ↓bR_0_9, ↓bR_0_8, ↓hb_of (hasP_y _ _), ↓hb_of (hasP_n _ _), ↓hb_of (hasW_y _ _), ↓hb_of (hasW_n _ _), ↓hb_of (c_copy _ _), ↓hb_some, ↓bd_some, ↓letE_eq, h_z0, h_z1, h_zi0, h_zi1, ↓hb_of (hasP_y hF hp), ↓hb_of (hasW_n hF hy), iN_lit, iN_add, iN_mul, iN_pred, iN_pred', iN_lt, iN_le, iN_eq, iN_nat, nlt_t, nlt_f, nle_t, nle_f, neq_t, neq_f, List.length_nil, List.length_cons, or_false, false_or, or_self, not_false_eq_true, not_true_eq_false, ↓reduceIte, if_true, if_false, Bool.false_eq_true, Nat.reduceAdd]
      · unfold fX12_when
        simp only [iN_lit]
        rw [brW_13, brK, hb_of (r_isMan hMb hp), if_neg (by decide), brK, hb_of (isW_n hMb hy), if_00]
  · refine pairG_q (ans := -1) hI (fun T => qC_no ?_) (qM_no (fun I E L pr ot T => ?_))
    · simp (disch := first | omega | assumption | (simp (disch := omega) only [iN_lit, iN_add, iN_mul, iN_pred, iN_pred', iN_lt, iN_le, iN_eq, iN_nat, nlt_t, nlt_f, nle_t, nle_f, neq_t, neq_f, List.length_nil, List.length_cons, or_false, false_or, or_self, not_false_eq_true, not_true_eq_false, ↓reduceIte, if_true, if_false, Bool.false_eq_true, Nat.reduceAdd])) only [fX11_when, ↓bK_11, ↓zK _, ↓bR_0_7, ↓bR_0_9, ↓bR_0_8, ↓hb_of (hasP_y _ _), ↓hb_of (hasP_n _ _), ↓hb_of (hasW_y _ _), ↓hb_of (hasW_n _ _), ↓hb_of (c_copy _ _), ↓hb_some, ↓bd_some, ↓letE_eq, h_z0, h_z1, h_zi0, h_zi1, ↓hb_of (hasP_n hF hx), iN_lit, iN_add, iN_mul, iN_pred, iN_pred', iN_lt, iN_le, iN_eq, iN_nat, nlt_t, nlt_f, nle_t, nle_f, neq_t, neq_f, List.length_nil, List.length_cons, or_false, false_or, or_self, not_false_eq_true, not_true_eq_false, ↓reduceIte, if_true, if_false, Bool.false_eq_true, Nat.reduceAdd]
    · unfold fX12_when
      simp only [iN_lit]
      rw [brW_13, brK, hb_of (isM_n hMb hx), if_00]
theorem p_apart (h : INV s I A L pr ot J B M ru G P W) (x y z : Int32) : pairG s I A L pr ot J B M rdv ru out (fX11_apart 0 x y z) (fX12_apart 45 x y z) := by
  have hI := h
  obtain ⟨hpr, hru, pu', nr, hnr, hr, hu, hJ⟩ := h.rule
  obtain ⟨pu, ck, -, mk⟩ := h.km
  obtain ⟨hF, hM, hpl, hz, hc, hn2, -⟩ := h
  have hT := hM.TS
  have h8 := hM.2.2.2.1
  have h6 := hM.2.2.2.2.1
  have hMb : FM A (u1 J 13 (iN 0)) B G P W := mk.1
  have nos : ∀ (x y : Int32), (¬ (0 ≤ x ∧ x < iN P) ∨ ¬ (0 ≤ y ∧ y < iN P) ∨ x = y ∨ ¬ (0 ≤ z ∧ z ≤ iN 99)) → pairG s I A L pr ot J B M rdv ru out (fX11_apart 0 x y z) (fX12_apart 45 x y z) := by
    intro x y hno
    refine pairG_q (ans := -1) hI (fun T => qC_no ?_) (qM_no (fun I E L pr ot T => ?_))
    · rcases arg_lt P (by omega) x with ⟨p, hp, rfl⟩ | hx
      · rcases arg_lt P (by omega) y with ⟨q, hq, rfl⟩ | hy
        · by_cases e : iN p = iN q
          · simp (disch := first | omega | assumption | (simp (disch := omega) only [iN_lit, iN_add, iN_mul, iN_pred, iN_pred', iN_lt, iN_le, iN_eq, iN_nat, nlt_t, nlt_f, nle_t, nle_f, neq_t, neq_f, List.length_nil, List.length_cons, or_false, false_or, or_self, not_false_eq_true, not_true_eq_false, ↓reduceIte, if_true, if_false, Bool.false_eq_true, Nat.reduceAdd])) only [fX11_apart, ↓bK_11, ↓zK _, ↓bK_9, ↓bR_0_7, ↓bR_0_9, ↓bR_0_8, ↓bR_0_6, ↓hb_of (hasP_y _ _), ↓hb_of (hasP_n _ _), ↓hb_of (within_y _ _ _), ↓hb_of (within_n _), ↓hb_of (c_copy _ _), ↓hb_of (c_presentRule), ↓hb_of (c_start), ↓hb_some, ↓bd_some, ↓letE_eq, h_z0, h_z1, h_zi0, h_zi1, ↓hb_of (hasP_y hF hp), ↓hb_of (hasP_y hF hq), iN_lit, iN_add, iN_mul, iN_pred, iN_pred', iN_lt, iN_le, iN_eq, iN_nat, nlt_t, nlt_f, nle_t, nle_f, neq_t, neq_f, List.length_nil, List.length_cons, or_false, false_or, or_self, not_false_eq_true, not_true_eq_false, ↓reduceIte, if_true, if_false, Bool.false_eq_true, Nat.reduceAdd, e, if_true]
          · have hzz : ¬ (0 ≤ z ∧ z ≤ iN 99) := by
              rcases hno with a | a | a | a
              · exact absurd (rng hp (by omega)) a
              · exact absurd (rng hq (by omega)) a
              · exact absurd a e
              · exact a
            have e' : ¬ p = q := fun c => e (by rw [c])
            simp (disch := first | omega | assumption | (simp (disch := omega) only [iN_lit, iN_add, iN_mul, iN_pred, iN_pred', iN_lt, iN_le, iN_eq, iN_nat, nlt_t, nlt_f, nle_t, nle_f, neq_t, neq_f, List.length_nil, List.length_cons, or_false, false_or, or_self, not_false_eq_true, not_true_eq_false, ↓reduceIte, if_true, if_false, Bool.false_eq_true, Nat.reduceAdd])) only [fX11_apart, ↓bK_11, ↓zK _, ↓bK_9, ↓bR_0_7, ↓bR_0_9, ↓bR_0_8, ↓bR_0_6, ↓hb_of (hasP_y _ _), ↓hb_of (hasP_n _ _), ↓hb_of (within_y _ _ _), ↓hb_of (within_n _), ↓hb_of (c_copy _ _), ↓hb_of (c_presentRule), ↓hb_of (c_start), ↓hb_some, ↓bd_some, ↓letE_eq, h_z0, h_z1, h_zi0, h_zi1, ↓hb_of (hasP_y hF hp), ↓hb_of (hasP_y hF hq), iN_lit, iN_add, iN_mul, iN_pred, iN_pred', iN_lt, iN_le, iN_eq, iN_nat, nlt_t, nlt_f, nle_t, nle_f, neq_t, neq_f, List.length_nil, List.length_cons, or_false, false_or, or_self, not_false_eq_true, not_true_eq_false, ↓reduceIte, if_true, if_false, Bool.false_eq_true, Nat.reduceAdd, e']
        · simp (disch := first | omega | assumption | (simp (disch := omega) only [iN_lit, iN_add, iN_mul, iN_pred, iN_pred', iN_lt, iN_le, iN_eq, iN_nat, nlt_t, nlt_f, nle_t, nle_f, neq_t, neq_f, List.length_nil, List.length_cons, or_false, false_or, or_self, not_false_eq_true, not_true_eq_false, ↓reduceIte, if_true, if_false, Bool.false_eq_true, Nat.reduceAdd])) only [fX11_apart, ↓bK_11, ↓zK _, ↓bK_9, ↓bR_0_7, ↓bR_0_9, ↓bR_0_8, ↓bR_0_6, ↓hb_of (hasP_y _ _), ↓hb_of (hasP_n _ _), ↓hb_of (within_y _ _ _), ↓hb_of (within_n _), ↓hb_of (c_copy _ _), ↓hb_of (c_presentRule), ↓hb_of (c_start), ↓hb_some, ↓bd_some, ↓letE_eq, h_z0, h_z1, h_zi0, h_zi1, ↓hb_of (hasP_y hF hp), ↓hb_of (hasP_n hF hy), iN_lit, iN_add, iN_mul, iN_pred, iN_pred', iN_lt, iN_le, iN_eq, iN_nat, nlt_t, nlt_f, nle_t, nle_f, neq_t, neq_f, List.length_nil, List.length_cons, or_false, false_or, or_self, not_false_eq_true, not_true_eq_false, ↓reduceIte, if_true, if_false, Bool.false_eq_true, Nat.reduceAdd]
      · simp (disch := first | omega | assumption | (simp (disch := omega) only [iN_lit, iN_add, iN_mul, iN_pred, iN_pred', iN_lt, iN_le, iN_eq, iN_nat, nlt_t, nlt_f, nle_t, nle_f, neq_t, neq_f, List.length_nil, List.length_cons, or_false, false_or, or_self, not_false_eq_true, not_true_eq_false, ↓reduceIte, if_true, if_false, Bool.false_eq_true, Nat.reduceAdd])) only [fX11_apart, ↓bK_11, ↓zK _, ↓bK_9, ↓bR_0_7, ↓bR_0_9, ↓bR_0_8, ↓bR_0_6, ↓hb_of (hasP_y _ _), ↓hb_of (hasP_n _ _), ↓hb_of (within_y _ _ _), ↓hb_of (within_n _), ↓hb_of (c_copy _ _), ↓hb_of (c_presentRule), ↓hb_of (c_start), ↓hb_some, ↓bd_some, ↓letE_eq, h_z0, h_z1, h_zi0, h_zi1, ↓hb_of (hasP_n hF hx), iN_lit, iN_add, iN_mul, iN_pred, iN_pred', iN_lt, iN_le, iN_eq, iN_nat, nlt_t, nlt_f, nle_t, nle_f, neq_t, neq_f, List.length_nil, List.length_cons, or_false, false_or, or_self, not_false_eq_true, not_true_eq_false, ↓reduceIte, if_true, if_false, Bool.false_eq_true, Nat.reduceAdd]
    · unfold fX12_apart
      simp only [iN_lit]
      rcases arg_lt P (by omega) x with ⟨p, hp, rfl⟩ | hx
      · rcases arg_lt P (by omega) y with ⟨q, hq, rfl⟩ | hy
        · rw [brW_13, brK, hb_of (r_isMan hMb hp), if_neg (by decide), brK, hb_of (r_isMan hMb hq), if_neg (by decide)]
          by_cases e : iN p = iN q
          · rw [if_pos e]
          · have hzz : ¬ (iN 0 ≤ z ∧ z ≤ iN 99) := by
              rcases hno with a | a | a | a
              · exact absurd (rng hp (by omega)) a
              · exact absurd (rng hq (by omega)) a
              · exact absurd a e
              · exact a
            rw [if_neg e, hb_of (in_n hzz), if_00]
        · rw [brW_13, brK, hb_of (r_isMan hMb hp), if_neg (by decide), brK, hb_of (isM_n hMb hy), if_00]
      · rw [brW_13, brK, hb_of (isM_n hMb hx), if_00]
  by_cases hx : 0 ≤ x ∧ x < iN P
  · by_cases hy : 0 ≤ y ∧ y < iN P
    · by_cases e : x = y
      · exact nos x y (Or.inr (Or.inr (Or.inl e)))
      · rcases arg_le 99 (by decide) z with ⟨n, hn, rfl⟩ | hzz
        · obtain ⟨p, hp, rfl⟩ := iN_of hx.1 hx.2 (by omega)
          obtain ⟨q, hq, rfl⟩ := iN_of hy.1 hy.2 (by omega)
          have e' : ¬ p = q := fun c => e (by rw [c])
          refine pairG_q (ans := aS (daN A pu G P (A 28) n) p q 4) (rw := some (aR (daN A pu G P (A 28) n) p q 4)) hI (fun T => ?_) (fun I E L pr ot T => ?_)
          · obtain ⟨e1, A1, e2, e3, e4⟩ := c_thenAll (I := I) (A := A) (L := L) (pr := pr) (ot := ot) (T := T) (n := n) (ro := pr) (W := W) hF ck.2.2.1 ck.2.2.2.1 hz hn2 (by omega)
            have key := lp_det (fun n k (t : Int32 × (Nat → Nat → Int32) × (Nat → Int64)) => fX11_apart_L78 0 (iN p) (iN q) (fun x19 h20 => some (x19, h20)) n t.1 (iN k) (encC (t.2.1) A1 (t.2.2) pr ot T)) (fun t => some (t.1, (encC (t.2.1) A1 (t.2.2) pr ot T))) (fun k => (aS (A1 32) p q k, u2 I 9 1 (iN k), aL L (A1 32) p q k)) 4
              (fun k hk n => by
                have f1 := c_humourOf (I := u2 I 9 1 (iN k)) (A := A1) (L := aL L (A1 32) p q k) (pr := pr) (ot := ot) (T := T) (o := 31) (p := p) (Or.inr rfl) (by omega) hk
                have f2 := c_humourOf (I := u2 I 9 1 (iN k)) (A := A1) (L := aL L (A1 32) p q k) (pr := pr) (ot := ot) (T := T) (o := 31) (p := q) (Or.inr rfl) (by omega) hk
                have f3 := c_add (I := I) (A := A1) (L := aL L (A1 32) p q k) (pr := pr) (ot := ot) (T := T) (v := (A1 32 (8 + p * 4 + k) - A1 32 (8 + q * 4 + k)).toInt64) (n := k) (by omega)
                have e5 : aL L (A1 32) p q (k + 1) = vp_updL (aL L (A1 32) p q k) k (A1 32 (8 + p * 4 + k) - A1 32 (8 + q * 4 + k)).toInt64 := rfl
                have e6 : aS (A1 32) p q (k + 1) = aS (A1 32) p q k + (if 0 ≤ A1 32 (8 + p * 4 + k) - A1 32 (8 + q * 4 + k) then A1 32 (8 + p * 4 + k) - A1 32 (8 + q * 4 + k) else 0 - (A1 32 (8 + p * 4 + k) - A1 32 (8 + q * 4 + k))) := rfl
                dsimp only
                rw [e5, e6]
                simp (disch := first | omega | assumption | (simp (disch := omega) only [iN_lit, iN_add, iN_mul, iN_pred, iN_pred', iN_lt, iN_le, iN_eq, iN_nat, nlt_t, nlt_f, nle_t, nle_f, neq_t, neq_f, List.length_nil, List.length_cons, or_false, false_or, or_self, not_false_eq_true, not_true_eq_false, ↓reduceIte, if_true, if_false, Bool.false_eq_true, Nat.reduceAdd])) only [fX11_apart_L78, ↓zK _, ↓bK_9, ↓bR_0_9, ↓bR_0_6, ↓hb_some, ↓bd_some, ↓letE_eq, h_z0, h_z1, h_zi0, h_zi1, ↓hb_of f1, ↓hb_of f2, ↓hb_of f3, iN_lit, iN_add, iN_mul, iN_pred, iN_pred', iN_lt, iN_le, iN_eq, iN_nat, nlt_t, nlt_f, nle_t, nle_f, neq_t, neq_f, List.length_nil, List.length_cons, or_false, false_or, or_self, not_false_eq_true, not_true_eq_false, ↓reduceIte, if_true, if_false, Bool.false_eq_true, Nat.reduceAdd])
              (fun n => by simp (disch := first | omega | assumption | (simp (disch := omega) only [iN_lit, iN_add, iN_mul, iN_pred, iN_pred', iN_lt, iN_le, iN_eq, iN_nat, nlt_t, nlt_f, nle_t, nle_f, neq_t, neq_f, List.length_nil, List.length_cons, or_false, false_or, or_self, not_false_eq_true, not_true_eq_false, ↓reduceIte, if_true, if_false, Bool.false_eq_true, Nat.reduceAdd])) only [fX11_apart_L78, ↓zK _, ↓bK_9, ↓bR_0_9, ↓bR_0_6, ↓hb_of (c_humourOf _ _ _), ↓hb_of (c_add _), ↓hb_some, ↓bd_some, ↓letE_eq, h_z0, h_z1, h_zi0, h_zi1, iN_lit, iN_add, iN_mul, iN_pred, iN_pred', iN_lt, iN_le, iN_eq, iN_nat, nlt_t, nlt_f, nle_t, nle_f, neq_t, neq_f, List.length_nil, List.length_cons, or_false, false_or, or_self, not_false_eq_true, not_true_eq_false, ↓reduceIte, if_true, if_false, Bool.false_eq_true, Nat.reduceAdd]) FU (by unfold FU; omega)
            dsimp only at key
            have k0 : aS (A1 32) p q 0 = iN 0 := rfl
            have k1 : aL L (A1 32) p q 0 = L := rfl
            rw [k0, k1, e4] at key
            refine ⟨u2 I 9 1 (iN 4), A1, aL L (daN A pu G P (A 28) n) p q 4, ?_, frI.u, e3, by rw [aR_len]; decide, aR_C 4⟩
            refine Eq.trans ?_ key
            unfold fX11_apart
            simp only [iN_lit]
            simp (disch := first | omega | assumption | (simp (disch := omega) only [iN_lit, iN_add, iN_mul, iN_pred, iN_pred', iN_lt, iN_le, iN_eq, iN_nat, nlt_t, nlt_f, nle_t, nle_f, neq_t, neq_f, List.length_nil, List.length_cons, or_false, false_or, or_self, not_false_eq_true, not_true_eq_false, ↓reduceIte, if_true, if_false, Bool.false_eq_true, Nat.reduceAdd])) only [fX11_apart, ↓bK_11, ↓zK _, ↓bK_9, ↓bR_0_7, ↓bR_0_9, ↓bR_0_8, ↓bR_0_6, ↓hb_of (hasP_y _ _), ↓hb_of (hasP_n _ _), ↓hb_of (within_y _ _ _), ↓hb_of (within_n _), ↓hb_of (c_presentRule), ↓hb_of (c_start), ↓hb_some, ↓bd_some, ↓letE_eq, h_z0, h_z1, h_zi0, h_zi1, ↓hb_of (hasP_y hF hp), ↓hb_of (hasP_y hF hq), ↓hb_of e1, ↓hb_of e2, iN_lit, iN_add, iN_mul, iN_pred, iN_pred', iN_lt, iN_le, iN_eq, iN_nat, nlt_t, nlt_f, nle_t, nle_f, neq_t, neq_f, List.length_nil, List.length_cons, or_false, false_or, or_self, not_false_eq_true, not_true_eq_false, ↓reduceIte, if_true, if_false, Bool.false_eq_true, Nat.reduceAdd, e']
          · obtain ⟨X, l1, l2, l3⟩ := mk.layQ (I := I) (E := E) (L := L) (pr := pr) (ot := ot) (J' := u1 J 13 (iN 0)) (M := M) (rdv' := rdv) (T := T) frRB.refl
            obtain ⟨J1, B1, rdv1, e1, e2, e3, e4⟩ := mk.days (I := I) (E := E) (L := L) (pr := pr) (ot := ot) (J' := u1 J 13 (iN 0)) (M := M) (rdv' := rdv) (T := T) (n := n) frK.refl l3 (by rw [u1_eq, if_pos rfl]; exact l2) hz (by omega)
            have key := lp_det (fun n k (t : Int32 × (Nat → Int32) × (Nat → Int64)) => fX12_apart_L70 45 (iN p) (iN q) (fun x14 h15 => some (x14, h15)) n t.1 (iN k) (encC I E L pr ot (encR (t.2.1) B1 (t.2.2) rdv1 ru T))) (fun t => some (t.1, (encC I E L pr ot (encR (t.2.1) B1 (t.2.2) rdv1 ru T)))) (fun k => (aS (daN A pu G P (A 28) n) p q k, u1 J1 12 (iN k), aL M (daN A pu G P (A 28) n) p q k)) 4
              (fun k hk n' => by
                have f1 := MKK.hu (I := I) (E := E) (L := L) (pr := pr) (ot := ot) (J' := u1 J1 12 (iN k)) (M := aL M (daN A pu G P (A 28) n) p q k) (rdv' := rdv1) (ru := ru) (T := T) (p := p) e4 (by omega) hk
                have f2 := MKK.hu (I := I) (E := E) (L := L) (pr := pr) (ot := ot) (J' := u1 J1 12 (iN k)) (M := aL M (daN A pu G P (A 28) n) p q k) (rdv' := rdv1) (ru := ru) (T := T) (p := q) e4 (by omega) hk
                have f3 := r_tell (I := I) (E := E) (L := L) (pr := pr) (ot := ot) (J := u1 J1 12 (iN k)) (B := B1) (M := aL M (daN A pu G P (A 28) n) p q k) (rdv := rdv1) (ru := ru) (T := T) (v := (daN A pu G P (A 28) n (8 + p * 4 + k) - daN A pu G P (A 28) n (8 + q * 4 + k)).toInt64) (n := k) (by rw [u1_eq, if_pos rfl]) (by omega)
                rw [u1_u1] at f3
                have e5 : aL M (daN A pu G P (A 28) n) p q (k + 1) = vp_updL (aL M (daN A pu G P (A 28) n) p q k) k (daN A pu G P (A 28) n (8 + p * 4 + k) - daN A pu G P (A 28) n (8 + q * 4 + k)).toInt64 := rfl
                have e6 : aS (daN A pu G P (A 28) n) p q (k + 1) = aS (daN A pu G P (A 28) n) p q k + (if 0 ≤ daN A pu G P (A 28) n (8 + p * 4 + k) - daN A pu G P (A 28) n (8 + q * 4 + k) then daN A pu G P (A 28) n (8 + p * 4 + k) - daN A pu G P (A 28) n (8 + q * 4 + k) else 0 - (daN A pu G P (A 28) n (8 + p * 4 + k) - daN A pu G P (A 28) n (8 + q * 4 + k))) := rfl
                dsimp only
                rw [e5, e6]
                simp (disch := first | omega | assumption | (simp (disch := omega) only [iN_lit, iN_add, iN_mul, iN_pred, iN_pred', iN_lt, iN_le, iN_eq, iN_nat, nlt_t, nlt_f, nle_t, nle_f, neq_t, neq_f, List.length_nil, List.length_cons, or_false, false_or, or_self, not_false_eq_true, not_true_eq_false, ↓reduceIte, if_true, if_false, Bool.false_eq_true, Nat.reduceAdd])) only [fX12_apart_L70, ↓brK, ↓brR_29, ↓brA_29, ↓brS_29, ↓hb_some, ↓bd_some, ↓letE_eq, h_z0, h_z1, h_zi0, h_zi1, ↓hb_of f1, ↓hb_of f2, ↓hb_of f3, iN_lit, iN_add, iN_mul, iN_pred, iN_pred', iN_lt, iN_le, iN_eq, iN_nat, nlt_t, nlt_f, nle_t, nle_f, neq_t, neq_f, List.length_nil, List.length_cons, or_false, false_or, or_self, not_false_eq_true, not_true_eq_false, ↓reduceIte, if_true, if_false, Bool.false_eq_true, Nat.reduceAdd])
              (fun n' => by simp (disch := first | omega | assumption | (simp (disch := omega) only [iN_lit, iN_add, iN_mul, iN_pred, iN_pred', iN_lt, iN_le, iN_eq, iN_nat, nlt_t, nlt_f, nle_t, nle_f, neq_t, neq_f, List.length_nil, List.length_cons, or_false, false_or, or_self, not_false_eq_true, not_true_eq_false, ↓reduceIte, if_true, if_false, Bool.false_eq_true, Nat.reduceAdd])) only [fX12_apart_L70, ↓brK, ↓brR_29, ↓brA_29, ↓brS_29, ↓hb_of (r_humour _ _ _ _), ↓hb_of (r_tell _ _), ↓hb_some, ↓bd_some, ↓letE_eq, h_z0, h_z1, h_zi0, h_zi1, iN_lit, iN_add, iN_mul, iN_pred, iN_pred', iN_lt, iN_le, iN_eq, iN_nat, nlt_t, nlt_f, nle_t, nle_f, neq_t, neq_f, List.length_nil, List.length_cons, or_false, false_or, or_self, not_false_eq_true, not_true_eq_false, ↓reduceIte, if_true, if_false, Bool.false_eq_true, Nat.reduceAdd]) FU (by unfold FU; omega)
            dsimp only at key
            have k0 : aS (daN A pu G P (A 28) n) p q 0 = iN 0 := rfl
            have k1 : aL M (daN A pu G P (A 28) n) p q 0 = M := rfl
            rw [k0, k1] at key
            refine ⟨u1 J1 12 (iN 4), B1, aL M (daN A pu G P (A 28) n) p q 4, rdv1, ?_, ((frRJ.u (by decide)).trans e2.r).trans (frRJ.u (by decide)), e3, by rw [aR_len]; decide, by rw [u1_eq, if_pos rfl]; exact aR_C 4⟩
            refine Eq.trans ?_ key
            unfold fX12_apart
            simp only [iN_lit]
            rw [brW_13, brK, hb_of (r_isMan hMb hp), if_neg (by decide), brK, hb_of (r_isMan hMb hq), if_neg (by decide), if_neg e, hb_of (in_y (Nat.zero_le n) hn (by decide)), if_neg (by decide), brR_0, brR_29, hb_of l1, brR_29, brK, hb_of e1, brW_12]
        · exact nos x y (Or.inr (Or.inr (Or.inr hzz)))
    · exact nos x y (Or.inr (Or.inl hy))
  · exact nos x y (Or.inl hx)
end LB
