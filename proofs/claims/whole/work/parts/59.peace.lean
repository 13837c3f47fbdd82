/-! CALLS: quarrels, peace: class and model -/
section QV
variable {I A E I' A' : Nat → Nat → Int32} {L L' : Nat → Int64} {pr ot s : Nat} {J J' : Nat → Int32} {B B' : Nat → Nat → Int32} {M M' : Nat → Int64} {rdv rdv' : Value} {ru : Nat} {T : PH} {G P W p q g n nr sz ro oa w t k : Nat} {Z Z' R X : Nat → Int32} {x y z i2 m : Int32} {out : Nat → Int64} {pu : (Nat → Int32) → Int32} {a b : Nat}
theorem row_first {L : Nat → Int64} {v w : Int64} : rowC (iN 2) (vp_updL (vp_updL L 0 v) 1 w) [v, w] := row_2 rfl
theorem c_quar39 (hF : FS I G P W) (h8 : G ≤ 8) (ha : a < G) {st : Nat × List Int64} {c : Nat} (hc : c ≤ 100) (hq : qOK c st) (hL : rowC (iN st.2.length) L st.2) :
    ∃ L', (∀ kx : Int32 → PH → Option (Int32 × PH), fX11_quarrels_L39 0 x (iN a) kx FU (iN st.1) (iN (a + 1)) (encC (u2 I 9 1 (iN st.2.length)) A L pr ot T) = kx (iN (qI A x a st (G - (a + 1))).1) (encC (u2 I 9 1 (iN (qI A x a st (G - (a + 1))).2.length)) A L' pr ot T)) ∧ rowC (iN (qI A x a st (G - (a + 1))).2.length) L' (qI A x a st (G - (a + 1))).2 := by
  have hG := hF.1
  have hG0 : ∀ v, (u2 I 9 1 v) 11 9 = iN G := fun v => hG
  have key := lp_k (fun (kx : Int32 → PH → Option (Int32 × PH)) n k (L' : Nat → Int64) => fX11_quarrels_L39 0 x (iN a) kx n (iN (qI A x a st k).1) (iN (a + 1 + k)) (encC (u2 I 9 1 (iN (qI A x a st k).2.length)) A L' pr ot T)) (fun kx L' => kx (iN (qI A x a st (G - (a + 1))).1) (encC (u2 I 9 1 (iN (qI A x a st (G - (a + 1))).2.length)) A L' pr ot T)) (fun k L' => rowC (iN (qI A x a st k).2.length) L' (qI A x a st k).2) (G - (a + 1))
    (fun k L' hk hi => by
      obtain ⟨q1, q2, q3⟩ := hq.in_ (A := A) (x := x) (a := a) k
      have hF2 : FS (u2 I 9 1 (iN (qI A x a st k).2.length)) G P W := hF
      have hG2 : (u2 I 9 1 (iN (qI A x a st k).2.length)) 11 9 = iN G := hG
      have f1 := c_odds (I := u2 I 9 1 (iN (qI A x a st k).2.length)) (A := A) (L := L') (pr := pr) (ot := ot) (T := T) (x := x) hF2 ha (show a + 1 + k < G by omega)
      have e1 : qI A x a st (k + 1) = qStep A x a (a + 1 + k) (qI A x a st k) := rfl
      unfold qStep at e1
      cases ho : odB A x a (a + 1 + k) with
      | false =>
        rw [ho] at f1 e1
        rw [if_neg (by decide)] at e1
        refine ⟨L', by rw [e1]; exact hi, fun kx n => ?_⟩
        rw [e1]
        simp only [iN_lit, Bool.false_eq_true, if_false] at f1
        simp (disch := first | omega | assumption | (simp (disch := omega) only [iN_lit, iN_add, iN_mul, iN_pred, iN_pred', iN_lt, iN_le, iN_eq, iN_nat, nlt_t, nlt_f, nle_t, nle_f, neq_t, neq_f, List.length_nil, List.length_cons, or_false, false_or, or_self, not_false_eq_true, not_true_eq_false, ↓reduceIte, if_true, if_false, Bool.false_eq_true, Nat.reduceAdd])) only [fX11_quarrels_L39, ↓bK_11, ↓bK_0, ↓bR_0_7, fX11_quarrels_J76_39, ↓hb_of (c_groundSize), ↓hb_some, ↓bd_some, ↓letE_eq, h_z0, h_z1, h_zi0, h_zi1, ↓hb_of f1, iN_lit, iN_add, iN_mul, iN_pred, iN_pred', iN_lt, iN_le, iN_eq, iN_nat, nlt_t, nlt_f, nle_t, nle_f, neq_t, neq_f, List.length_nil, List.length_cons, or_false, false_or, or_self, not_false_eq_true, not_true_eq_false, ↓reduceIte, if_true, if_false, Bool.false_eq_true, Nat.reduceAdd, hG2, hG0, ← Nat.add_assoc]
      | true =>
        rw [ho] at f1 e1
        rw [if_pos rfl] at e1
        simp only [iN_lit, if_true] at f1
        by_cases h0 : (qI A x a st k).1 = 0
        · have h2 := q3 h0
          rw [if_pos h0] at e1
          have a1 := c_add (I := I) (A := A) (L := L') (pr := pr) (ot := ot) (T := T) (v := (iN a).toInt64) (n := 0) (by decide)
          have a2 := c_add (I := I) (A := A) (L := vp_updL L' 0 (iN a).toInt64) (pr := pr) (ot := ot) (T := T) (v := (iN (a + 1 + k)).toInt64) (n := 1) (by decide)
          refine ⟨vp_updL (vp_updL L' 0 (iN a).toInt64) 1 (iN (a + 1 + k)).toInt64, by rw [e1]; exact row_first, fun kx n => ?_⟩
          rw [e1]
          rw [h0, h2] at ⊢
          rw [h2] at f1
          dsimp only [List.length_nil] at f1 ⊢
          simp (disch := first | omega | assumption | (simp (disch := omega) only [iN_lit, iN_add, iN_mul, iN_pred, iN_pred', iN_lt, iN_le, iN_eq, iN_nat, nlt_t, nlt_f, nle_t, nle_f, neq_t, neq_f, List.length_nil, List.length_cons, or_false, false_or, or_self, not_false_eq_true, not_true_eq_false, ↓reduceIte, if_true, if_false, Bool.false_eq_true, Nat.reduceAdd])) only [fX11_quarrels_L39, ↓bK_11, ↓bK_0, ↓bR_0_7, fX11_quarrels_J76_39, fX11_tellFirstPair, ↓bK_9, ↓bR_0_6, ↓hb_of (c_groundSize), ↓hb_some, ↓bd_some, ↓letE_eq, h_z0, h_z1, h_zi0, h_zi1, ↓hb_of f1, ↓hb_of a1, ↓hb_of a2, iN_lit, iN_add, iN_mul, iN_pred, iN_pred', iN_lt, iN_le, iN_eq, iN_nat, nlt_t, nlt_f, nle_t, nle_f, neq_t, neq_f, List.length_nil, List.length_cons, or_false, false_or, or_self, not_false_eq_true, not_true_eq_false, ↓reduceIte, if_true, if_false, Bool.false_eq_true, Nat.reduceAdd, hG2, hG0, ← Nat.add_assoc]
        · rw [if_neg h0] at e1
          refine ⟨L', by rw [e1]; exact hi, fun kx n => ?_⟩
          rw [e1]
          simp (disch := first | omega | assumption | (simp (disch := omega) only [iN_lit, iN_add, iN_mul, iN_pred, iN_pred', iN_lt, iN_le, iN_eq, iN_nat, nlt_t, nlt_f, nle_t, nle_f, neq_t, neq_f, List.length_nil, List.length_cons, or_false, false_or, or_self, not_false_eq_true, not_true_eq_false, ↓reduceIte, if_true, if_false, Bool.false_eq_true, Nat.reduceAdd])) only [fX11_quarrels_L39, ↓bK_11, ↓bK_0, ↓bR_0_7, fX11_quarrels_J76_39, fX11_tellFirstPair, ↓bK_9, ↓bR_0_6, ↓hb_of (c_groundSize), ↓hb_some, ↓bd_some, ↓letE_eq, h_z0, h_z1, h_zi0, h_zi1, ↓hb_of f1, iN_lit, iN_add, iN_mul, iN_pred, iN_pred', iN_lt, iN_le, iN_eq, iN_nat, nlt_t, nlt_f, nle_t, nle_f, neq_t, neq_f, List.length_nil, List.length_cons, or_false, false_or, or_self, not_false_eq_true, not_true_eq_false, ↓reduceIte, if_true, if_false, Bool.false_eq_true, Nat.reduceAdd, hG2, hG0, ← Nat.add_assoc])
    (fun L' hi kx n => by
      have hG2 : (u2 I 9 1 (iN (qI A x a st (G - (a + 1))).2.length)) 11 9 = iN G := hG
      have e : a + 1 + (G - (a + 1)) = G := by omega
      rw [e]
      simp (disch := first | omega | assumption | (simp (disch := omega) only [iN_lit, iN_add, iN_mul, iN_pred, iN_pred', iN_lt, iN_le, iN_eq, iN_nat, nlt_t, nlt_f, nle_t, nle_f, neq_t, neq_f, List.length_nil, List.length_cons, or_false, false_or, or_self, not_false_eq_true, not_true_eq_false, ↓reduceIte, if_true, if_false, Bool.false_eq_true, Nat.reduceAdd])) only [fX11_quarrels_L39, ↓bK_11, ↓bK_0, ↓bR_0_7, fX11_quarrels_J76_39, ↓hb_of (c_groundSize), ↓hb_of (c_odds _ _ _), ↓hb_some, ↓bd_some, ↓letE_eq, h_z0, h_z1, h_zi0, h_zi1, iN_lit, iN_add, iN_mul, iN_pred, iN_pred', iN_lt, iN_le, iN_eq, iN_nat, nlt_t, nlt_f, nle_t, nle_f, neq_t, neq_f, List.length_nil, List.length_cons, or_false, false_or, or_self, not_false_eq_true, not_true_eq_false, ↓reduceIte, if_true, if_false, Bool.false_eq_true, Nat.reduceAdd, hG2]) (G - (a + 1)) 0 L (by omega) hL
  obtain ⟨L', k1, k2⟩ := key
  exact ⟨L', fun kx => k2 kx FU (by unfold FU; omega), k1⟩
theorem quar_C (ck : CK I A G P W ro pu) {kq : Nat} (hk : kq ≤ 9) : qC I A L pr ot T (fX11_quarrels 0 (iN kq)) (iN (qO A G (iN kq) G).1) (some (qO A G (iN kq) G).2) := by
  have hF := ck.1
  have h8 := hF.2.2.2.1
  have hG := hF.1
  have key := lp_k (fun (_ : Unit) n k (L' : Nat → Int64) => fX11_quarrels_L23 0 (iN kq) (fun x5 h6 => some (x5, h6)) n (iN (qO A G (iN kq) k).1) (iN k) (encC (u2 I 9 1 (iN (qO A G (iN kq) k).2.length)) A L' pr ot T)) (fun _ L' => some (iN (qO A G (iN kq) G).1, (encC (u2 I 9 1 (iN (qO A G (iN kq) G).2.length)) A L' pr ot T))) (fun k L' => rowC (iN (qO A G (iN kq) k).2.length) L' (qO A G (iN kq) k).2) G
    (fun k L' hk hi => by
      have hG2 : (u2 I 9 1 (iN (qO A G (iN kq) k).2.length)) 11 9 = iN G := hG
      have hb : k * G ≤ 64 := by
        have : k * G ≤ 8 * 8 := Nat.mul_le_mul (by omega) h8
        omega
      obtain ⟨L2, f1, f2⟩ := c_quar39 (I := I) (A := A) (L := L') (pr := pr) (ot := ot) (T := T) (x := iN kq) hF h8 hk (show k * G ≤ 100 by omega) (qOK.out k) hi
      refine ⟨L2, f2, fun _ n => ?_⟩
      have e1 : qO A G (iN kq) (k + 1) = qI A (iN kq) k (qO A G (iN kq) k) (G - (k + 1)) := rfl
      rw [e1]
      simp (disch := first | omega | assumption | (simp (disch := omega) only [iN_lit, iN_add, iN_mul, iN_pred, iN_pred', iN_lt, iN_le, iN_eq, iN_nat, nlt_t, nlt_f, nle_t, nle_f, neq_t, neq_f, List.length_nil, List.length_cons, or_false, false_or, or_self, not_false_eq_true, not_true_eq_false, ↓reduceIte, if_true, if_false, Bool.false_eq_true, Nat.reduceAdd])) only [fX11_quarrels_L23, ↓bK_11, ↓bR_0_7, fX11_quarrels_J76_39, ↓hb_of (c_groundSize), ↓hb_some, ↓bd_some, ↓letE_eq, h_z0, h_z1, h_zi0, h_zi1, iN_lit, iN_add, iN_mul, iN_pred, iN_pred', iN_lt, iN_le, iN_eq, iN_nat, nlt_t, nlt_f, nle_t, nle_f, neq_t, neq_f, List.length_nil, List.length_cons, or_false, false_or, or_self, not_false_eq_true, not_true_eq_false, ↓reduceIte, if_true, if_false, Bool.false_eq_true, Nat.reduceAdd, hG2, f1])
    (fun L' hi _ n => by
      have hG2 : (u2 I 9 1 (iN (qO A G (iN kq) G).2.length)) 11 9 = iN G := hG
      simp (disch := first | omega | assumption | (simp (disch := omega) only [iN_lit, iN_add, iN_mul, iN_pred, iN_pred', iN_lt, iN_le, iN_eq, iN_nat, nlt_t, nlt_f, nle_t, nle_f, neq_t, neq_f, List.length_nil, List.length_cons, or_false, false_or, or_self, not_false_eq_true, not_true_eq_false, ↓reduceIte, if_true, if_false, Bool.false_eq_true, Nat.reduceAdd])) only [fX11_quarrels_L23, ↓bK_11, ↓bR_0_7, fX11_quarrels_J76_39, ↓hb_of (c_groundSize), ↓hb_some, ↓bd_some, ↓letE_eq, h_z0, h_z1, h_zi0, h_zi1, iN_lit, iN_add, iN_mul, iN_pred, iN_pred', iN_lt, iN_le, iN_eq, iN_nat, nlt_t, nlt_f, nle_t, nle_f, neq_t, neq_f, List.length_nil, List.length_cons, or_false, false_or, or_self, not_false_eq_true, not_true_eq_false, ↓reduceIte, if_true, if_false, Bool.false_eq_true, Nat.reduceAdd, hG2]) G 0 L (by omega) row_0
  obtain ⟨L', k1, k2⟩ := key
  have k3 := k2 () FU (by unfold FU; omega)
  have hq := qOK.out (A := A) (x := iN kq) (G := G) G
  refine ⟨u2 I 9 1 (iN (qO A G (iN kq) G).2.length), A, L', ?_, frI.u, frQ.refl, by have := hq.2.1; omega, k1⟩
  unfold fX11_quarrels
  rw [hb_of (show fX11_within (iN kq) (0 : Int32) (9 : Int32) (encC I A L pr ot T) = some (1, (encC I A L pr ot T)) from within_y (Nat.zero_le kq) hk (by decide)), if_1z, bR_0_6, bK_9, hb_of c_start]
  exact k3
theorem r_quar39 (hM : FM A J B G P W) (h8 : G ≤ 8) (ha : a < G) {st : Nat × List Int64} {c : Nat} (hc : c ≤ 100) (hq : qOK c st) (hL : rowC (iN st.2.length) M st.2) :
    ∃ M', (∀ kx : Int32 → PH → Option (Int32 × PH), fX12_quarrels_L39 45 x (iN a) kx FU (iN st.1) (iN (a + 1)) (encC I E L pr ot (encR (u1 J 12 (iN st.2.length)) B M rdv ru T)) = kx (iN (qI A x a st (G - (a + 1))).1) (encC I E L pr ot (encR (u1 J 12 (iN (qI A x a st (G - (a + 1))).2.length)) B M' rdv ru T))) ∧ rowC (iN (qI A x a st (G - (a + 1))).2.length) M' (qI A x a st (G - (a + 1))).2 := by
  have hG := hM.1
  have hG0 : ∀ v, (u1 J 12 v) 1 = iN G := fun v => hG
  have key := lp_k (fun (kx : Int32 → PH → Option (Int32 × PH)) n k (M' : Nat → Int64) => fX12_quarrels_L39 45 x (iN a) kx n (iN (qI A x a st k).1) (iN (a + 1 + k)) (encC I E L pr ot (encR (u1 J 12 (iN (qI A x a st k).2.length)) B M' rdv ru T))) (fun kx M' => kx (iN (qI A x a st (G - (a + 1))).1) (encC I E L pr ot (encR (u1 J 12 (iN (qI A x a st (G - (a + 1))).2.length)) B M' rdv ru T))) (fun k M' => rowC (iN (qI A x a st k).2.length) M' (qI A x a st k).2) (G - (a + 1))
    (fun k M' hk hi => by
      obtain ⟨q1, q2, q3⟩ := hq.in_ (A := A) (x := x) (a := a) k
      have hM2 : FM A (u1 J 12 (iN (qI A x a st k).2.length)) B G P W := hM.j0 (by decide)
      have hG2 : (u1 J 12 (iN (qI A x a st k).2.length)) 1 = iN G := hG
      have f1 := r_odds (I := I) (E := E) (L := L) (pr := pr) (ot := ot) (M := M') (rdv := rdv) (ru := ru) (T := T) (J := u1 J 12 (iN (qI A x a st k).2.length)) (x := x) hM2 ha (show a + 1 + k < G by omega)
      have e1 : qI A x a st (k + 1) = qStep A x a (a + 1 + k) (qI A x a st k) := rfl
      unfold qStep at e1
      cases ho : odB A x a (a + 1 + k) with
      | false =>
        rw [ho] at f1 e1
        rw [if_neg (by decide)] at e1
        refine ⟨M', by rw [e1]; exact hi, fun kx n => ?_⟩
        rw [e1]
        simp only [iN_lit, Bool.false_eq_true, if_false] at f1
        simp (disch := first | omega | assumption | (simp (disch := omega) only [iN_lit, iN_add, iN_mul, iN_pred, iN_pred', iN_lt, iN_le, iN_eq, iN_nat, nlt_t, nlt_f, nle_t, nle_f, neq_t, neq_f, List.length_nil, List.length_cons, or_false, false_or, or_self, not_false_eq_true, not_true_eq_false, ↓reduceIte, if_true, if_false, Bool.false_eq_true, Nat.reduceAdd])) only [fX12_quarrels_L39, ↓brK, ↓brG_1, fX12_quarrels_J82_39, fX12_quarrels_J79_39, ↓hb_of (r_tell _ _), ↓hb_some, ↓bd_some, ↓letE_eq, h_z0, h_z1, h_zi0, h_zi1, ↓hb_of f1, iN_lit, iN_add, iN_mul, iN_pred, iN_pred', iN_lt, iN_le, iN_eq, iN_nat, nlt_t, nlt_f, nle_t, nle_f, neq_t, neq_f, List.length_nil, List.length_cons, or_false, false_or, or_self, not_false_eq_true, not_true_eq_false, ↓reduceIte, if_true, if_false, Bool.false_eq_true, Nat.reduceAdd, hG2, hG0, ← Nat.add_assoc]
      | true =>
        rw [ho] at f1 e1
        rw [if_pos rfl] at e1
        simp only [iN_lit, if_true] at f1
        by_cases h0 : (qI A x a st k).1 = 0
        · have h2 := q3 h0
          rw [if_pos h0] at e1
          have a1 := r_tell (I := I) (E := E) (L := L) (pr := pr) (ot := ot) (J := u1 J 12 (iN 0)) (B := B) (M := M') (rdv := rdv) (ru := ru) (T := T) (v := (iN a).toInt64) (n := 0) (by rw [u1_eq, if_pos rfl]) (by decide)
          have a2 := r_tell (I := I) (E := E) (L := L) (pr := pr) (ot := ot) (J := u1 J 12 (iN 1)) (B := B) (M := vp_updL M' 0 (iN a).toInt64) (rdv := rdv) (ru := ru) (T := T) (v := (iN (a + 1 + k)).toInt64) (n := 1) (by rw [u1_eq, if_pos rfl]) (by decide)
          rw [u1_u1] at a1 a2
          refine ⟨vp_updL (vp_updL M' 0 (iN a).toInt64) 1 (iN (a + 1 + k)).toInt64, by rw [e1]; exact row_first, fun kx n => ?_⟩
          rw [e1]
          rw [h0, h2] at ⊢
          rw [h2] at f1
          dsimp only [List.length_nil] at f1 ⊢
          simp (disch := first | omega | assumption | (simp (disch := omega) only [iN_lit, iN_add, iN_mul, iN_pred, iN_pred', iN_lt, iN_le, iN_eq, iN_nat, nlt_t, nlt_f, nle_t, nle_f, neq_t, neq_f, List.length_nil, List.length_cons, or_false, false_or, or_self, not_false_eq_true, not_true_eq_false, ↓reduceIte, if_true, if_false, Bool.false_eq_true, Nat.reduceAdd])) only [fX12_quarrels_L39, ↓brK, ↓brG_1, fX12_quarrels_J82_39, fX12_quarrels_J79_39, ↓hb_some, ↓bd_some, ↓letE_eq, h_z0, h_z1, h_zi0, h_zi1, ↓hb_of f1, ↓hb_of a1, ↓hb_of a2, iN_lit, iN_add, iN_mul, iN_pred, iN_pred', iN_lt, iN_le, iN_eq, iN_nat, nlt_t, nlt_f, nle_t, nle_f, neq_t, neq_f, List.length_nil, List.length_cons, or_false, false_or, or_self, not_false_eq_true, not_true_eq_false, ↓reduceIte, if_true, if_false, Bool.false_eq_true, Nat.reduceAdd, hG2, hG0, ← Nat.add_assoc]
        · rw [if_neg h0] at e1
          refine ⟨M', by rw [e1]; exact hi, fun kx n => ?_⟩
          rw [e1]
          simp (disch := first | omega | assumption | (simp (disch := omega) only [iN_lit, iN_add, iN_mul, iN_pred, iN_pred', iN_lt, iN_le, iN_eq, iN_nat, nlt_t, nlt_f, nle_t, nle_f, neq_t, neq_f, List.length_nil, List.length_cons, or_false, false_or, or_self, not_false_eq_true, not_true_eq_false, ↓reduceIte, if_true, if_false, Bool.false_eq_true, Nat.reduceAdd])) only [fX12_quarrels_L39, ↓brK, ↓brG_1, fX12_quarrels_J82_39, fX12_quarrels_J79_39, ↓hb_some, ↓bd_some, ↓letE_eq, h_z0, h_z1, h_zi0, h_zi1, ↓hb_of f1, iN_lit, iN_add, iN_mul, iN_pred, iN_pred', iN_lt, iN_le, iN_eq, iN_nat, nlt_t, nlt_f, nle_t, nle_f, neq_t, neq_f, List.length_nil, List.length_cons, or_false, false_or, or_self, not_false_eq_true, not_true_eq_false, ↓reduceIte, if_true, if_false, Bool.false_eq_true, Nat.reduceAdd, hG2, hG0, ← Nat.add_assoc])
    (fun M' hi kx n => by
      have hG2 : (u1 J 12 (iN (qI A x a st (G - (a + 1))).2.length)) 1 = iN G := hG
      have e : a + 1 + (G - (a + 1)) = G := by omega
      rw [e]
      simp (disch := first | omega | assumption | (simp (disch := omega) only [iN_lit, iN_add, iN_mul, iN_pred, iN_pred', iN_lt, iN_le, iN_eq, iN_nat, nlt_t, nlt_f, nle_t, nle_f, neq_t, neq_f, List.length_nil, List.length_cons, or_false, false_or, or_self, not_false_eq_true, not_true_eq_false, ↓reduceIte, if_true, if_false, Bool.false_eq_true, Nat.reduceAdd])) only [fX12_quarrels_L39, ↓brK, ↓brG_1, fX12_quarrels_J82_39, fX12_quarrels_J79_39, ↓hb_of (r_odds _ _ _), ↓hb_of (r_tell _ _), ↓hb_some, ↓bd_some, ↓letE_eq, h_z0, h_z1, h_zi0, h_zi1, iN_lit, iN_add, iN_mul, iN_pred, iN_pred', iN_lt, iN_le, iN_eq, iN_nat, nlt_t, nlt_f, nle_t, nle_f, neq_t, neq_f, List.length_nil, List.length_cons, or_false, false_or, or_self, not_false_eq_true, not_true_eq_false, ↓reduceIte, if_true, if_false, Bool.false_eq_true, Nat.reduceAdd, hG2]) (G - (a + 1)) 0 M (by omega) hL
  obtain ⟨M', k1, k2⟩ := key
  exact ⟨M', fun kx => k2 kx FU (by unfold FU; omega), k1⟩
theorem quar_M (hM : FM A J B G P W) {kq : Nat} (hk : kq ≤ 9) : qM J B M rdv ru (fX12_quarrels 45 (iN kq)) (iN (qO A G (iN kq) G).1) (some (qO A G (iN kq) G).2) := by
  intro I E L pr ot T
  have h8 := hM.2.2.2.1
  have hM1 : FM A (u1 J 13 0) B G P W := hM.j0 (by decide)
  have hG := hM1.1
  have hG0 : ∀ v w, (u1 (u1 J 13 v) 12 w) 1 = iN G := fun v w => hM.1
  have key := lp_k (fun (_ : Unit) n k (M' : Nat → Int64) => fX12_quarrels_L26 45 (iN kq) (fun x5 h6 => some (x5, h6)) n (iN (qO A G (iN kq) k).1) (iN k) (encC I E L pr ot (encR (u1 (u1 J 13 0) 12 (iN (qO A G (iN kq) k).2.length)) B M' rdv ru T))) (fun _ M' => some (iN (qO A G (iN kq) G).1, (encC I E L pr ot (encR (u1 (u1 J 13 0) 12 (iN (qO A G (iN kq) G).2.length)) B M' rdv ru T)))) (fun k M' => rowC (iN (qO A G (iN kq) k).2.length) M' (qO A G (iN kq) k).2) G
    (fun k M' hk hi => by
      have hG2 : (u1 (u1 J 13 0) 12 (iN (qO A G (iN kq) k).2.length)) 1 = iN G := hG
      have hb : k * G ≤ 64 := by
        have : k * G ≤ 8 * 8 := Nat.mul_le_mul (by omega) h8
        omega
      obtain ⟨M2, f1, f2⟩ := r_quar39 (I := I) (E := E) (L := L) (pr := pr) (ot := ot) (M := M') (rdv := rdv) (ru := ru) (T := T) (x := iN kq) hM1 h8 hk (show k * G ≤ 100 by omega) (qOK.out k) hi
      refine ⟨M2, f2, fun _ n => ?_⟩
      have e1 : qO A G (iN kq) (k + 1) = qI A (iN kq) k (qO A G (iN kq) k) (G - (k + 1)) := rfl
      rw [e1]
      simp only [iN_lit] at f1
      simp (disch := first | omega | assumption | (simp (disch := omega) only [iN_lit, iN_add, iN_mul, iN_pred, iN_pred', iN_lt, iN_le, iN_eq, iN_nat, nlt_t, nlt_f, nle_t, nle_f, neq_t, neq_f, List.length_nil, List.length_cons, or_false, false_or, or_self, not_false_eq_true, not_true_eq_false, ↓reduceIte, if_true, if_false, Bool.false_eq_true, Nat.reduceAdd])) only [fX12_quarrels_L26, ↓brG_1, fX12_quarrels_J82_39, fX12_quarrels_J79_39, ↓hb_some, ↓bd_some, ↓letE_eq, h_z0, h_z1, h_zi0, h_zi1, iN_lit, iN_add, iN_mul, iN_pred, iN_pred', iN_lt, iN_le, iN_eq, iN_nat, nlt_t, nlt_f, nle_t, nle_f, neq_t, neq_f, List.length_nil, List.length_cons, or_false, false_or, or_self, not_false_eq_true, not_true_eq_false, ↓reduceIte, if_true, if_false, Bool.false_eq_true, Nat.reduceAdd, hG0, f1])
    (fun M' hi _ n => by
      have hG2 : (u1 (u1 J 13 0) 12 (iN (qO A G (iN kq) G).2.length)) 1 = iN G := hG
      simp (disch := first | omega | assumption | (simp (disch := omega) only [iN_lit, iN_add, iN_mul, iN_pred, iN_pred', iN_lt, iN_le, iN_eq, iN_nat, nlt_t, nlt_f, nle_t, nle_f, neq_t, neq_f, List.length_nil, List.length_cons, or_false, false_or, or_self, not_false_eq_true, not_true_eq_false, ↓reduceIte, if_true, if_false, Bool.false_eq_true, Nat.reduceAdd])) only [fX12_quarrels_L26, ↓brG_1, fX12_quarrels_J82_39, fX12_quarrels_J79_39, ↓hb_some, ↓bd_some, ↓letE_eq, h_z0, h_z1, h_zi0, h_zi1, iN_lit, iN_add, iN_mul, iN_pred, iN_pred', iN_lt, iN_le, iN_eq, iN_nat, nlt_t, nlt_f, nle_t, nle_f, neq_t, neq_f, List.length_nil, List.length_cons, or_false, false_or, or_self, not_false_eq_true, not_true_eq_false, ↓reduceIte, if_true, if_false, Bool.false_eq_true, Nat.reduceAdd, hG0]) G 0 M (by omega) row_0
  obtain ⟨M', k1, k2⟩ := key
  have k3 := k2 () FU (by unfold FU; omega)
  have hq := qOK.out (A := A) (x := iN kq) (G := G) G
  refine ⟨u1 (u1 J 13 0) 12 (iN (qO A G (iN kq) G).2.length), B, M', rdv, ?_, (frRJ.u (by decide)).trans (frRJ.u (by decide)), frRB.refl, by have := hq.2.1; omega, by rw [u1_eq, if_pos rfl]; exact k1⟩
  unfold fX12_quarrels
  rw [brW_13, hb_of (show fX12_in (iN kq) (0 : Int32) (9 : Int32) (encC I E L pr ot (encR (u1 J 13 0) B M rdv ru T)) = some (1, (encC I E L pr ot (encR (u1 J 13 0) B M rdv ru T))) from in_y (Nat.zero_le kq) hk (by decide)), if_1z, brW_12]
  exact k3
theorem p_quarrels (h : INV s I A L pr ot J B M ru G P W) (x : Int32) : pairG s I A L pr ot J B M rdv ru out (fX11_quarrels 0 x) (fX12_quarrels 45 x) := by
  have hI := h
  obtain ⟨pu, ck, -, mk⟩ := h.km
  obtain ⟨hF, hM, hpl, hz, hc, hn2, -⟩ := h
  rcases arg_le 9 (by decide) x with ⟨k, hk, rfl⟩ | hx
  · exact pairG_q hI (fun T => quar_C ck hk) (quar_M hM hk)
  · refine pairG_q (ans := -1) hI (fun T => qC_no ?_) (qM_no (fun I E L pr ot T => ?_))
    · simp (disch := first | omega | assumption | (simp (disch := omega) only [iN_lit, iN_add, iN_mul, iN_pred, iN_pred', iN_lt, iN_le, iN_eq, iN_nat, nlt_t, nlt_f, nle_t, nle_f, neq_t, neq_f, List.length_nil, List.length_cons, or_false, false_or, or_self, not_false_eq_true, not_true_eq_false, ↓reduceIte, if_true, if_false, Bool.false_eq_true, Nat.reduceAdd])) only [fX11_quarrels, ↓bK_9, ↓bR_0_6, ↓hb_of (within_y _ _ _), ↓hb_of (within_n _), ↓hb_of (c_start), ↓hb_some, ↓bd_some, ↓letE_eq, h_z0, h_z1, h_zi0, h_zi1, iN_lit, iN_add, iN_mul, iN_pred, iN_pred', iN_lt, iN_le, iN_eq, iN_nat, nlt_t, nlt_f, nle_t, nle_f, neq_t, neq_f, List.length_nil, List.length_cons, or_false, false_or, or_self, not_false_eq_true, not_true_eq_false, ↓reduceIte, if_true, if_false, Bool.false_eq_true, Nat.reduceAdd]
    · unfold fX12_quarrels
      simp only [iN_lit]
      rw [brW_13, hb_of (in_n (show ¬ (iN 0 ≤ x ∧ x ≤ iN 9) from hx)), if_00]
theorem pcF_le {A : Nat → Nat → Int32} {G : Nat} {x : Int32} : ∀ k, pcF A G x k ≤ k
  | 0 => Nat.le_refl _
  | k + 1 => by
    have := pcF_le (A := A) (G := G) (x := x) k
    unfold pcF
    split
    · omega
    · split <;> omega
def kxP : Int32 → PH → Option (Int32 × PH) := fun x3 h4 => (h_gr 10 6 h4 0).bind fun q5 => (h_ck 2 h4 q5).bind fun _ => h_bd (fX3_start q5 h4) fun _ h6 => (h_gr 10 6 h6 0).bind fun q7 => (h_ck 2 h6 q7).bind fun _ => h_bd (fX3_add q7 (x3.toInt64) h6) fun _ h8 => h_bd (fJ6_bitCount_0f7a4 x3 h8) fun x9 h10 => some (x9, h10)
def kxPm : Int32 → PH → Option (Int32 × PH) := fun x4 h5 => (h_pv 11 12 h5 45 (.int (0 : Int32))).bind fun h6 => (h_ck 11 h6 45).bind fun _ => h_bd (fX12_tell 45 (x4.toInt64) h6) fun _ h7 => h_bd (fJ6_bitCount_0f7a4 x4 h7) fun x8 h9 => some (x8, h9)
theorem p_peace (h : INV s I A L pr ot J B M ru G P W) (x : Int32) : pairG s I A L pr ot J B M rdv ru out (fX11_peace 0 x) (fX12_peace 45 x) := by
  have hI := h
  obtain ⟨pu, ck, -, mk⟩ := h.km
  obtain ⟨hF, hM, hpl, hz, hc, hn2, -⟩ := h
  have h8 := hM.2.2.2.1
  have hG := hF.1
  have hM1 : FM A (u1 J 13 (iN 0)) B G P W := hM.j0 (by decide)
  obtain ⟨N, hN⟩ : ∃ N, N = 2 ^ G := ⟨_, rfl⟩
  have hp2 := p2 h8
  have hsh : (1 : Int32) <<< (iN G &&& 31) = iN N := by rw [hN]; exact shl_n ⟨G, by omega⟩
  have hsh' : iN 1 <<< (iN G &&& iN 31) = iN N := hsh
  have hall : iN N - iN 1 = iN (N - 1) := iN_sub (by omega)
  rcases arg_le 9 (by decide) x with ⟨kq, hk, rfl⟩ | hx
  · obtain ⟨r, hr⟩ : ∃ r, r = pcF A G (iN kq) (N - 1) := ⟨_, rfl⟩
    have hrl : r ≤ 255 := by have := pcF_le (A := A) (G := G) (x := iN kq) (N - 1); omega
    refine pairG_q (ans := bc (iN r)) (rw := some [(iN r).toInt64]) hI (fun T => ?_) (fun I E L pr ot T => ?_)
    · have key := lp_det (fun n k (v : Int32) => fX11_peace_L16 0 (iN kq) kxP n v (iN (k + 1)) (encC I A L pr ot T)) (fun v => kxP v (encC I A L pr ot T)) (fun k => iN (pcF A G (iN kq) k)) (N - 1)
        (fun k hk n => by
          have f1 := c_peace (A := A) (L := L) (pr := pr) (ot := ot) (T := T) (x := iN kq) (m := iN (k + 1)) hF
          have e1 : pcF A G (iN kq) (k + 1) = if bc (iN (k + 1)) ≤ bc (iN (pcF A G (iN kq) k)) then pcF A G (iN kq) k else if peB A G (iN kq) (iN (k + 1)) then k + 1 else pcF A G (iN kq) k := rfl
          rw [e1]
          by_cases h1 : bc (iN (k + 1)) ≤ bc (iN (pcF A G (iN kq) k))
          · rw [if_pos h1]
            simp (disch := first | omega | assumption | (simp (disch := omega) only [iN_lit, iN_add, iN_mul, iN_pred, iN_pred', iN_lt, iN_le, iN_eq, iN_nat, nlt_t, nlt_f, nle_t, nle_f, neq_t, neq_f, List.length_nil, List.length_cons, or_false, false_or, or_self, not_false_eq_true, not_true_eq_false, ↓reduceIte, if_true, if_false, Bool.false_eq_true, Nat.reduceAdd])) only [fX11_peace_L16, ↓bK_11, ↓bR_0_7, fX11_peace_J54_16, ↓hb_of (c_groundSize), ↓hb_of (c_bitCount), ↓hb_some, ↓bd_some, ↓letE_eq, h_z0, h_z1, h_zi0, h_zi1, ↓hb_of c_bitCount, iN_lit, iN_add, iN_mul, iN_pred, iN_pred', iN_lt, iN_le, iN_eq, iN_nat, nlt_t, nlt_f, nle_t, nle_f, neq_t, neq_f, List.length_nil, List.length_cons, or_false, false_or, or_self, not_false_eq_true, not_true_eq_false, ↓reduceIte, if_true, if_false, Bool.false_eq_true, Nat.reduceAdd, hG, hsh', h1]
          · rw [if_neg h1]
            cases h2 : peB A G (iN kq) (iN (k + 1)) with
            | true =>
              rw [h2] at f1
              simp only [iN_lit, if_true] at f1
              simp (disch := first | omega | assumption | (simp (disch := omega) only [iN_lit, iN_add, iN_mul, iN_pred, iN_pred', iN_lt, iN_le, iN_eq, iN_nat, nlt_t, nlt_f, nle_t, nle_f, neq_t, neq_f, List.length_nil, List.length_cons, or_false, false_or, or_self, not_false_eq_true, not_true_eq_false, ↓reduceIte, if_true, if_false, Bool.false_eq_true, Nat.reduceAdd])) only [fX11_peace_L16, ↓bK_11, ↓bR_0_7, fX11_peace_J54_16, ↓hb_of (c_groundSize), ↓hb_of (c_bitCount), ↓hb_some, ↓bd_some, ↓letE_eq, h_z0, h_z1, h_zi0, h_zi1, ↓hb_of c_bitCount, ↓hb_of f1, iN_lit, iN_add, iN_mul, iN_pred, iN_pred', iN_lt, iN_le, iN_eq, iN_nat, nlt_t, nlt_f, nle_t, nle_f, neq_t, neq_f, List.length_nil, List.length_cons, or_false, false_or, or_self, not_false_eq_true, not_true_eq_false, ↓reduceIte, if_true, if_false, Bool.false_eq_true, Nat.reduceAdd, hG, hsh', h1]
            | false =>
              rw [h2] at f1
              simp only [iN_lit, Bool.false_eq_true, if_false] at f1
              simp (disch := first | omega | assumption | (simp (disch := omega) only [iN_lit, iN_add, iN_mul, iN_pred, iN_pred', iN_lt, iN_le, iN_eq, iN_nat, nlt_t, nlt_f, nle_t, nle_f, neq_t, neq_f, List.length_nil, List.length_cons, or_false, false_or, or_self, not_false_eq_true, not_true_eq_false, ↓reduceIte, if_true, if_false, Bool.false_eq_true, Nat.reduceAdd])) only [fX11_peace_L16, ↓bK_11, ↓bR_0_7, fX11_peace_J54_16, ↓hb_of (c_groundSize), ↓hb_of (c_bitCount), ↓hb_some, ↓bd_some, ↓letE_eq, h_z0, h_z1, h_zi0, h_zi1, ↓hb_of c_bitCount, ↓hb_of f1, iN_lit, iN_add, iN_mul, iN_pred, iN_pred', iN_lt, iN_le, iN_eq, iN_nat, nlt_t, nlt_f, nle_t, nle_f, neq_t, neq_f, List.length_nil, List.length_cons, or_false, false_or, or_self, not_false_eq_true, not_true_eq_false, ↓reduceIte, if_true, if_false, Bool.false_eq_true, Nat.reduceAdd, hG, hsh', h1])
        (fun n => by
          rw [show N - 1 + 1 = N by omega]
          simp (disch := first | omega | assumption | (simp (disch := omega) only [iN_lit, iN_add, iN_mul, iN_pred, iN_pred', iN_lt, iN_le, iN_eq, iN_nat, nlt_t, nlt_f, nle_t, nle_f, neq_t, neq_f, List.length_nil, List.length_cons, or_false, false_or, or_self, not_false_eq_true, not_true_eq_false, ↓reduceIte, if_true, if_false, Bool.false_eq_true, Nat.reduceAdd])) only [fX11_peace_L16, ↓bK_11, ↓bR_0_7, fX11_peace_J54_16, ↓hb_of (c_groundSize), ↓hb_of (c_bitCount), ↓hb_of (c_peace _), ↓hb_some, ↓bd_some, ↓letE_eq, h_z0, h_z1, h_zi0, h_zi1, iN_lit, iN_add, iN_mul, iN_pred, iN_pred', iN_lt, iN_le, iN_eq, iN_nat, nlt_t, nlt_f, nle_t, nle_f, neq_t, neq_f, List.length_nil, List.length_cons, or_false, false_or, or_self, not_false_eq_true, not_true_eq_false, ↓reduceIte, if_true, if_false, Bool.false_eq_true, Nat.reduceAdd, hG, hsh']) FU (by unfold FU; omega)
      rw [← hr] at key
      have a1 := c_add (I := I) (A := A) (L := L) (pr := pr) (ot := ot) (T := T) (v := (iN r).toInt64) (n := 0) (by decide)
      refine ⟨u2 I 9 1 (iN 1), A, vp_updL L 0 (iN r).toInt64, ?_, frI.u, frQ.refl, by simp, row_1 rfl⟩
      unfold fX11_peace
      rw [hb_of (show fX11_within (iN kq) (0 : Int32) (9 : Int32) (encC I A L pr ot T) = some (1, (encC I A L pr ot T)) from within_y (Nat.zero_le kq) hk (by decide)), if_1z]
      refine key.trans ?_
      unfold kxP
      rw [bR_0_6, bK_9, hb_of c_start, bR_0_6, bK_9, hb_of a1, hb_of c_bitCount]
    · have hJ1 : (u1 J 13 (iN 0)) 1 = iN G := hM1.1
      have key := lp_det (fun n k (v : Int32) => fX12_peace_L21 45 (iN kq) kxPm n v (iN (k + 1)) (encC I E L pr ot (encR (u1 J 13 (iN 0)) B M rdv ru T))) (fun v => kxPm v (encC I E L pr ot (encR (u1 J 13 (iN 0)) B M rdv ru T))) (fun k => iN (pcF A G (iN kq) k)) (N - 1)
        (fun k hk n => by
          have f1 := r_peace (I := I) (E := E) (L := L) (pr := pr) (ot := ot) (M := M) (rdv := rdv) (ru := ru) (T := T) (x := iN kq) (m := iN (k + 1)) hM1
          have e1 : pcF A G (iN kq) (k + 1) = if bc (iN (k + 1)) ≤ bc (iN (pcF A G (iN kq) k)) then pcF A G (iN kq) k else if peB A G (iN kq) (iN (k + 1)) then k + 1 else pcF A G (iN kq) k := rfl
          rw [e1]
          by_cases h1 : bc (iN (k + 1)) ≤ bc (iN (pcF A G (iN kq) k))
          · rw [if_pos h1]
            simp (disch := first | omega | assumption | (simp (disch := omega) only [iN_lit, iN_add, iN_mul, iN_pred, iN_pred', iN_lt, iN_le, iN_eq, iN_nat, nlt_t, nlt_f, nle_t, nle_f, neq_t, neq_f, List.length_nil, List.length_cons, or_false, false_or, or_self, not_false_eq_true, not_true_eq_false, ↓reduceIte, if_true, if_false, Bool.false_eq_true, Nat.reduceAdd])) only [fX12_peace_L21, ↓brK, fX12_peace_J51_21, fX12_all, ↓brG_1, ↓hb_of (c_bitCount), ↓hb_some, ↓bd_some, ↓letE_eq, h_z0, h_z1, h_zi0, h_zi1, ↓hb_of c_bitCount, iN_lit, iN_add, iN_mul, iN_pred, iN_pred', iN_lt, iN_le, iN_eq, iN_nat, nlt_t, nlt_f, nle_t, nle_f, neq_t, neq_f, List.length_nil, List.length_cons, or_false, false_or, or_self, not_false_eq_true, not_true_eq_false, ↓reduceIte, if_true, if_false, Bool.false_eq_true, Nat.reduceAdd, hJ1, hsh', hall, h1]
          · rw [if_neg h1]
            cases h2 : peB A G (iN kq) (iN (k + 1)) with
            | true =>
              rw [h2] at f1
              simp only [iN_lit, if_true] at f1
              simp (disch := first | omega | assumption | (simp (disch := omega) only [iN_lit, iN_add, iN_mul, iN_pred, iN_pred', iN_lt, iN_le, iN_eq, iN_nat, nlt_t, nlt_f, nle_t, nle_f, neq_t, neq_f, List.length_nil, List.length_cons, or_false, false_or, or_self, not_false_eq_true, not_true_eq_false, ↓reduceIte, if_true, if_false, Bool.false_eq_true, Nat.reduceAdd])) only [fX12_peace_L21, ↓brK, fX12_peace_J51_21, fX12_all, ↓brG_1, ↓hb_of (c_bitCount), ↓hb_some, ↓bd_some, ↓letE_eq, h_z0, h_z1, h_zi0, h_zi1, ↓hb_of c_bitCount, ↓hb_of f1, iN_lit, iN_add, iN_mul, iN_pred, iN_pred', iN_lt, iN_le, iN_eq, iN_nat, nlt_t, nlt_f, nle_t, nle_f, neq_t, neq_f, List.length_nil, List.length_cons, or_false, false_or, or_self, not_false_eq_true, not_true_eq_false, ↓reduceIte, if_true, if_false, Bool.false_eq_true, Nat.reduceAdd, hJ1, hsh', hall, h1]
            | false =>
              rw [h2] at f1
              simp only [iN_lit, Bool.false_eq_true, if_false] at f1
              simp (disch := first | omega | assumption | (simp (disch := omega) only [iN_lit, iN_add, iN_mul, iN_pred, iN_pred', iN_lt, iN_le, iN_eq, iN_nat, nlt_t, nlt_f, nle_t, nle_f, neq_t, neq_f, List.length_nil, List.length_cons, or_false, false_or, or_self, not_false_eq_true, not_true_eq_false, ↓reduceIte, if_true, if_false, Bool.false_eq_true, Nat.reduceAdd])) only [fX12_peace_L21, ↓brK, fX12_peace_J51_21, fX12_all, ↓brG_1, ↓hb_of (c_bitCount), ↓hb_some, ↓bd_some, ↓letE_eq, h_z0, h_z1, h_zi0, h_zi1, ↓hb_of c_bitCount, ↓hb_of f1, iN_lit, iN_add, iN_mul, iN_pred, iN_pred', iN_lt, iN_le, iN_eq, iN_nat, nlt_t, nlt_f, nle_t, nle_f, neq_t, neq_f, List.length_nil, List.length_cons, or_false, false_or, or_self, not_false_eq_true, not_true_eq_false, ↓reduceIte, if_true, if_false, Bool.false_eq_true, Nat.reduceAdd, hJ1, hsh', hall, h1])
        (fun n => by
          rw [show N - 1 + 1 = N by omega]
          simp (disch := first | omega | assumption | (simp (disch := omega) only [iN_lit, iN_add, iN_mul, iN_pred, iN_pred', iN_lt, iN_le, iN_eq, iN_nat, nlt_t, nlt_f, nle_t, nle_f, neq_t, neq_f, List.length_nil, List.length_cons, or_false, false_or, or_self, not_false_eq_true, not_true_eq_false, ↓reduceIte, if_true, if_false, Bool.false_eq_true, Nat.reduceAdd])) only [fX12_peace_L21, ↓brK, fX12_peace_J51_21, fX12_all, ↓brG_1, ↓hb_of (c_bitCount), ↓hb_of (r_peace _), ↓hb_some, ↓bd_some, ↓letE_eq, h_z0, h_z1, h_zi0, h_zi1, iN_lit, iN_add, iN_mul, iN_pred, iN_pred', iN_lt, iN_le, iN_eq, iN_nat, nlt_t, nlt_f, nle_t, nle_f, neq_t, neq_f, List.length_nil, List.length_cons, or_false, false_or, or_self, not_false_eq_true, not_true_eq_false, ↓reduceIte, if_true, if_false, Bool.false_eq_true, Nat.reduceAdd, hJ1, hsh', hall]) FU (by unfold FU; omega)
      rw [← hr] at key
      have a1 := r_tell (I := I) (E := E) (L := L) (pr := pr) (ot := ot) (J := u1 (u1 J 13 (iN 0)) 12 0) (B := B) (M := M) (rdv := rdv) (ru := ru) (T := T) (v := (iN r).toInt64) (n := 0) rfl (by decide)
      rw [u1_u1] at a1
      refine ⟨u1 (u1 J 13 (iN 0)) 12 (iN 1), B, vp_updL M 0 (iN r).toInt64, rdv, ?_, (frRJ.u (by decide)).trans (frRJ.u (by decide)), frRB.refl, by simp, by rw [u1_eq, if_pos rfl]; exact row_1 rfl⟩
      unfold fX12_peace
      rw [brW_13, hb_of (show fX12_in (iN kq) (0 : Int32) (9 : Int32) (encC I E L pr ot (encR (u1 J 13 0) B M rdv ru T)) = some (1, (encC I E L pr ot (encR (u1 J 13 0) B M rdv ru T))) from in_y (Nat.zero_le kq) hk (by decide)), if_1z]
      refine key.trans ?_
      unfold kxPm
      rw [brW_12, brK, hb_of a1, hb_of c_bitCount]
  · refine pairG_q (ans := -1) hI (fun T => qC_no ?_) (qM_no (fun I E L pr ot T => ?_))
    · simp (disch := first | omega | assumption | (simp (disch := omega) only [iN_lit, iN_add, iN_mul, iN_pred, iN_pred', iN_lt, iN_le, iN_eq, iN_nat, nlt_t, nlt_f, nle_t, nle_f, neq_t, neq_f, List.length_nil, List.length_cons, or_false, false_or, or_self, not_false_eq_true, not_true_eq_false, ↓reduceIte, if_true, if_false, Bool.false_eq_true, Nat.reduceAdd])) only [fX11_peace, ↓bK_9, ↓bR_0_6, ↓hb_of (within_y _ _ _), ↓hb_of (within_n _), ↓hb_of (c_start), ↓hb_of (c_add _), ↓hb_of (c_bitCount), ↓hb_some, ↓bd_some, ↓letE_eq, h_z0, h_z1, h_zi0, h_zi1, iN_lit, iN_add, iN_mul, iN_pred, iN_pred', iN_lt, iN_le, iN_eq, iN_nat, nlt_t, nlt_f, nle_t, nle_f, neq_t, neq_f, List.length_nil, List.length_cons, or_false, false_or, or_self, not_false_eq_true, not_true_eq_false, ↓reduceIte, if_true, if_false, Bool.false_eq_true, Nat.reduceAdd]
    · unfold fX12_peace
      simp only [iN_lit]
      rw [brW_13, hb_of (in_n (show ¬ (iN 0 ≤ x ∧ x ≤ iN 9) from hx)), if_00]
end QV
