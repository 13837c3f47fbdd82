/-! CALLS: fits (3) -/
def fiB (A : Nat → Nat → Int32) (pu : (Nat → Int32) → Int32) (G m p g : Nat) : Bool := !hdB (A 28) p g && seN A pu G m p (upd (A 28) (32 + p * 8 + g) 0) 31
def ntM (A B : Nat → Nat → Int32) (m : Nat) : Prop := ∀ k, k < m → B 34 k = A 36 k ∧ B 35 k = A 37 k ∧ B 36 k = A 38 k
section FV
variable {I A E I' A' : Nat → Nat → Int32} {L L' : Nat → Int64} {pr ot s : Nat} {J J' : Nat → Int32} {B B' : Nat → Nat → Int32} {M M' : Nat → Int64} {rdv rdv' : Value} {ru : Nat} {T : PH} {G P W p q g n nr sz ro oa w t k N d m : Nat} {Z Z' R X a : Nat → Int32} {x y z i2 acc : Int32} {out : Nat → Int64} {pu : (Nat → Int32) → Int32}
theorem NTS.mc (h : NTS I A J B) : ∃ m, m ≤ 12 ∧ I 35 13 = iN m ∧ J 37 = iN m ∧ ntC A m ∧ ntM A B m := by
  obtain ⟨m, h1, h2, h3, h4⟩ := h
  refine ⟨m, h1, h2, h3, fun k hk => ?_, fun k hk => ?_⟩
  · obtain ⟨n, h, v, a1, a2, a3, a4, a5, a6, a7, a8, a9⟩ := h4 k hk
    exact ⟨⟨n, a1, a4⟩, h, a2, a6⟩
  · obtain ⟨n, h, v, a1, a2, a3, a4, a5, a6, a7, a8, a9⟩ := h4 k hk
    exact ⟨a5.trans a4.symm, a7.trans a6.symm, a9.trans a8.symm⟩
theorem CK.fits (c : CK I A G P W pr pu) (hm : I 35 13 = iN m) (hm2 : m ≤ 12) (hn : ntC A m) (i1 : frQ A A') (hp : p < P) :
    ∃ A2, fX4_fitting 35 (iN p) (encC I A' L pr ot T) = some (bt (fiB A pu G m p) G, (encC I A2 L pr ot T)) ∧ frQ A A2 := by
  have hF := c.1
  have h8 := hF.2.2.2.1
  have h6 := hF.2.2.2.2.1
  have hG := hF.1
  have hz := c.2.2.2.2.1
  have key := lp_k (fun (_ : Unit) n' k (A1 : Nat → Nat → Int32) => fX4_fitting_L4 35 (iN p) (fun x1 h2 => some (x1, h2)) n' (bt (fiB A pu G m p) k) (iN k) (encC I A1 L pr ot T)) (fun _ A1 => some (bt (fiB A pu G m p) G, (encC I A1 L pr ot T))) (fun k A1 => frQ A A1) G
    (fun k A1 hk hi => by
      have e28 : A1 28 = A 28 := hi.1 28 (by omega)
      have hh := c_holds (I := I) (A := A1) (L := L) (pr := pr) (ot := ot) (T := T) (o := 27) (p := p) (g := k) (Or.inl rfl) (by omega) (by omega)
      rw [show A1 (27 + 1) = A 28 from e28] at hh
      have e1 : bt (fiB A pu G m p) (k + 1) = bt (fiB A pu G m p) k ||| (if fiB A pu G m p k = true then (1 : Int32) <<< (iN k &&& 31) else 0) := rfl
      rw [e1]
      unfold fiB
      cases hb : hdB (A 28) p k with
      | true =>
        rw [hb] at hh
        refine ⟨A1, hi, fun _ n' => ?_⟩
        rw [Bool.not_true, Bool.false_and, if_neg (by decide), Int32.or_zero]
        simp only [iN_lit, if_true] at hh
        simp (disch := first | omega | assumption | (simp (disch := omega) only [iN_lit, iN_add, iN_mul, iN_pred, iN_pred', iN_lt, iN_le, iN_eq, iN_nat, nlt_t, nlt_f, nle_t, nle_f, neq_t, neq_f, List.length_nil, List.length_cons, or_false, false_or, or_self, not_false_eq_true, not_true_eq_false, ↓reduceIte, if_true, if_false, Bool.false_eq_true, Nat.reduceAdd])) only [fX4_fitting_L4, ↓bK_11, ↓zK _, ↓bK_35, ↓bR_35_0, ↓bR_35_1, ↓bR_35_2, fX4_fitting_J65_4, fX4_fitting_J63_4, ↓hb_of (c_groundSize), ↓hb_some, ↓bd_some, ↓letE_eq, h_z0, h_z1, h_zi0, h_zi1, ↓hb_of hh, iN_lit, iN_add, iN_mul, iN_pred, iN_pred', iN_lt, iN_le, iN_eq, iN_nat, nlt_t, nlt_f, nle_t, nle_f, neq_t, neq_f, List.length_nil, List.length_cons, or_false, false_or, or_self, not_false_eq_true, not_true_eq_false, ↓reduceIte, if_true, if_false, Bool.false_eq_true, Nat.reduceAdd, hG]
      | false =>
        rw [hb] at hh
        obtain ⟨f1, f2⟩ := c.copyQ (L := L) (pr := pr) (ot := ot) (T := T) hi
        have e5 := c_lend (I := I) (A := u1 A1 32 (A 28)) (L := L) (pr := pr) (ot := ot) (T := T) (o := 31) (p := p) (g := k) (Or.inr rfl) (by omega) (by omega)
        have e6 : (u1 A1 32 (A 28)) (31 + 1) = A 28 := by rw [u1_eq, if_pos rfl]
        rw [e6, show 31 + 1 = 32 from rfl, u1_u1] at e5
        have hzk : OK G P (upd (A 28) (32 + p * 8 + k) 0) := hz.he (by omega) (by omega) hp hk (Or.inr ⟨by decide, by decide⟩)
        have f3 : frQ A (u1 A1 32 (upd (A 28) (32 + p * 8 + k) 0)) := ⟨fun x hx => by rw [u1_eq, if_neg (by omega)]; exact hi.1 x hx, fun _ => by rw [u1_eq, if_pos rfl]; exact hzk.1⟩
        obtain ⟨A2, g1, g2⟩ := c.fit (L := L) (ot := ot) (T := T) hm hm2 hn f3 (by rw [u1_eq, if_pos rfl]) hzk hp
        refine ⟨A2, g2, fun _ n' => ?_⟩
        rw [Bool.not_false, Bool.true_and]
        simp only [iN_lit, Bool.false_eq_true, if_false] at hh
        cases hs : seN A pu G m p (upd (A 28) (32 + p * 8 + k) 0) 31 with
        | true =>
          rw [hs] at g1
          rw [if_pos rfl]
          simp only [iN_lit, if_true] at g1 e5
          simp (disch := first | omega | assumption | (simp (disch := omega) only [iN_lit, iN_add, iN_mul, iN_pred, iN_pred', iN_lt, iN_le, iN_eq, iN_nat, nlt_t, nlt_f, nle_t, nle_f, neq_t, neq_f, List.length_nil, List.length_cons, or_false, false_or, or_self, not_false_eq_true, not_true_eq_false, ↓reduceIte, if_true, if_false, Bool.false_eq_true, Nat.reduceAdd])) only [fX4_fitting_L4, ↓bK_11, ↓zK _, ↓bK_35, ↓bR_35_0, ↓bR_35_1, ↓bR_35_2, fX4_fitting_J65_4, fX4_fitting_J63_4, ↓hb_of (c_groundSize), ↓hb_some, ↓bd_some, ↓letE_eq, h_z0, h_z1, h_zi0, h_zi1, ↓hb_of hh, ↓hb_of f1, ↓hb_of e5, ↓hb_of g1, iN_lit, iN_add, iN_mul, iN_pred, iN_pred', iN_lt, iN_le, iN_eq, iN_nat, nlt_t, nlt_f, nle_t, nle_f, neq_t, neq_f, List.length_nil, List.length_cons, or_false, false_or, or_self, not_false_eq_true, not_true_eq_false, ↓reduceIte, if_true, if_false, Bool.false_eq_true, Nat.reduceAdd, hG]
        | false =>
          rw [hs] at g1
          rw [if_neg (by decide)]
          simp only [iN_lit, Bool.false_eq_true, if_false] at g1 e5
          simp (disch := first | omega | assumption | (simp (disch := omega) only [iN_lit, iN_add, iN_mul, iN_pred, iN_pred', iN_lt, iN_le, iN_eq, iN_nat, nlt_t, nlt_f, nle_t, nle_f, neq_t, neq_f, List.length_nil, List.length_cons, or_false, false_or, or_self, not_false_eq_true, not_true_eq_false, ↓reduceIte, if_true, if_false, Bool.false_eq_true, Nat.reduceAdd])) only [fX4_fitting_L4, ↓bK_11, ↓zK _, ↓bK_35, ↓bR_35_0, ↓bR_35_1, ↓bR_35_2, fX4_fitting_J65_4, fX4_fitting_J63_4, ↓hb_of (c_groundSize), ↓hb_some, ↓bd_some, ↓letE_eq, h_z0, h_z1, h_zi0, h_zi1, ↓hb_of hh, ↓hb_of f1, ↓hb_of e5, ↓hb_of g1, iN_lit, iN_add, iN_mul, iN_pred, iN_pred', iN_lt, iN_le, iN_eq, iN_nat, nlt_t, nlt_f, nle_t, nle_f, neq_t, neq_f, List.length_nil, List.length_cons, or_false, false_or, or_self, not_false_eq_true, not_true_eq_false, ↓reduceIte, if_true, if_false, Bool.false_eq_true, Nat.reduceAdd, hG])
    (fun A1 hi _ n' => by
      simp (disch := first | omega | assumption | (simp (disch := omega) only [iN_lit, iN_add, iN_mul, iN_pred, iN_pred', iN_lt, iN_le, iN_eq, iN_nat, nlt_t, nlt_f, nle_t, nle_f, neq_t, neq_f, List.length_nil, List.length_cons, or_false, false_or, or_self, not_false_eq_true, not_true_eq_false, ↓reduceIte, if_true, if_false, Bool.false_eq_true, Nat.reduceAdd])) only [fX4_fitting_L4, ↓bK_11, ↓zK _, ↓bK_35, ↓bR_35_0, ↓bR_35_1, ↓bR_35_2, fX4_fitting_J65_4, fX4_fitting_J63_4, ↓hb_of (c_groundSize), ↓hb_some, ↓bd_some, ↓letE_eq, h_z0, h_z1, h_zi0, h_zi1, iN_lit, iN_add, iN_mul, iN_pred, iN_pred', iN_lt, iN_le, iN_eq, iN_nat, nlt_t, nlt_f, nle_t, nle_f, neq_t, neq_f, List.length_nil, List.length_cons, or_false, false_or, or_self, not_false_eq_true, not_true_eq_false, ↓reduceIte, if_true, if_false, Bool.false_eq_true, Nat.reduceAdd, hG]) G 0 A' (by omega) i1
  obtain ⟨A2, k1, k2⟩ := key
  exact ⟨A2, k2 () FU (by unfold FU; omega), k1⟩
theorem CK.fitB (c : CK I A G P W pr pu) (hm : I 35 13 = iN m) (hm2 : m ≤ 12) (hn : ntC A m) (i1 : frQ A A') (hp : p < P) :
    ∃ A2, fX4_fitsBare 35 (iN p) (encC I A' L pr ot T) = some ((if seN A pu G m p (A 28) 31 then 1 else 0), (encC I A2 L pr ot T)) ∧ frQ A A2 := by
  obtain ⟨f1, f2⟩ := c.copyQ (L := L) (pr := pr) (ot := ot) (T := T) i1
  obtain ⟨A2, g1, g2⟩ := c.fit (L := L) (ot := ot) (T := T) hm hm2 hn f2 (by rw [u1_eq, if_pos rfl]) c.2.2.2.2.1 hp
  refine ⟨A2, ?_, g2⟩
  unfold fX4_fitsBare
  rw [bR_35_2, bR_35_1, bK_31, hb_of f1, bK_35, hb_of g1]
  cases seN A pu G m p (A 28) 31
  · exact h_z0
  · exact h_z1
theorem MKK.fits (mk : MKK A J B G P W ru pu) (hm : J 37 = iN m) (hm2 : m ≤ 12) (hn : ntC A m) (hx : ntM A B m) (i1 : frJ J J') (i2 : frRB B B') (hp : p < P) :
    ∃ J2 B2 rdv2, fX12_fitting 45 (iN p) (encC I E L pr ot (encR J' B' M rdv' ru T)) = some (bt (fiB A pu G m p) G, (encC I E L pr ot (encR J2 B2 M rdv2 ru T))) ∧ frJ J J2 ∧ frRB B B2 := by
  have h8 := mk.1.2.2.2.1
  have h6 := mk.1.2.2.2.2.1
  have key := lp_k (fun (_ : Unit) n' k (q : (Nat → Int32) × (Nat → Nat → Int32) × Value) => fX12_fitting_L4 45 (iN p) (fun x1 h2 => some (x1, h2)) n' (bt (fiB A pu G m p) k) (iN k) (encC I E L pr ot (encR (q.1) (q.2.1) M (q.2.2) ru T))) (fun _ q => some (bt (fiB A pu G m p) G, (encC I E L pr ot (encR (q.1) (q.2.1) M (q.2.2) ru T)))) (fun k q => frJ J q.1 ∧ frRB B q.2.1) G
    (fun k q hk hi => by
      obtain ⟨J1, B1, rdv1⟩ := q
      obtain ⟨j1, j2⟩ := hi
      dsimp only at j1 j2
      have hG : J1 1 = iN G := (j1.rj 1 (by omega)).trans mk.1.1
      have hh : hasB (B1 0 (32 + p)) k = hdB (A 28) p k := by
        rw [j2 0 (by omega)]
        exact mk.2.2.2.2.has (show p < 6 by omega) (show k < 8 by omega)
      have e1 : bt (fiB A pu G m p) (k + 1) = bt (fiB A pu G m p) k ||| (if fiB A pu G m p k = true then (1 : Int32) <<< (iN k &&& 31) else 0) := rfl
      rw [e1]
      unfold fiB
      cases hb : hdB (A 28) p k with
      | true =>
        rw [hb] at hh
        refine ⟨(J1, B1, rdv1), ⟨j1, j2⟩, fun _ n' => ?_⟩
        rw [Bool.not_true, Bool.false_and, if_neg (by decide)]
        dsimp only
        simp (disch := first | omega | assumption | (simp (disch := omega) only [iN_lit, iN_add, iN_mul, iN_pred, iN_pred', iN_lt, iN_le, iN_eq, iN_nat, nlt_t, nlt_f, nle_t, nle_f, neq_t, neq_f, List.length_nil, List.length_cons, or_false, false_or, or_self, not_false_eq_true, not_true_eq_false, ↓reduceIte, if_true, if_false, Bool.false_eq_true, Nat.reduceAdd])) only [fX12_fitting_L4, ↓brK, ↓brR_0, ↓brA_0, ↓brS_0, ↓brG_1, fX12_fitting_J47_4, fX12_fitting_J46_4, ↓hb_some, ↓bd_some, ↓letE_eq, h_z0, h_z1, h_zi0, h_zi1, ↓hb_of (has_y hh), iN_lit, iN_add, iN_mul, iN_pred, iN_pred', iN_lt, iN_le, iN_eq, iN_nat, nlt_t, nlt_f, nle_t, nle_f, neq_t, neq_f, List.length_nil, List.length_cons, or_false, false_or, or_self, not_false_eq_true, not_true_eq_false, ↓reduceIte, if_true, if_false, Bool.false_eq_true, Nat.reduceAdd, hG]
      | false =>
        rw [hb] at hh
        have hZ : ldF (A 28) p ((1 : Int32) <<< (iN k &&& 31)) G = upd (A 28) (32 + p * 8 + k) 0 := by rw [ldF_sg (by omega) G h8, if_pos hk]
        obtain ⟨J2, B2, rdv2, g1, g2, g3⟩ := mk.fit (I := I) (E := E) (L := L) (pr := pr) (ot := ot) (M := M) (T := T) (rdv' := rdv1) hm hm2 hn (fun k hk => (hx k hk).1) (fun k hk => (hx k hk).2.1) (fun k hk => (hx k hk).2.2) j1 j2 hp hZ
        refine ⟨(J2, B2, rdv2), ⟨g2, g3⟩, fun _ n' => ?_⟩
        rw [Bool.not_false, Bool.true_and]
        dsimp only
        cases hs : seN A pu G m p (upd (A 28) (32 + p * 8 + k) 0) 31 with
        | true =>
          rw [hs] at g1
          rw [if_pos rfl]
          simp only [iN_lit, if_true] at g1
          simp (disch := first | omega | assumption | (simp (disch := omega) only [iN_lit, iN_add, iN_mul, iN_pred, iN_pred', iN_lt, iN_le, iN_eq, iN_nat, nlt_t, nlt_f, nle_t, nle_f, neq_t, neq_f, List.length_nil, List.length_cons, or_false, false_or, or_self, not_false_eq_true, not_true_eq_false, ↓reduceIte, if_true, if_false, Bool.false_eq_true, Nat.reduceAdd])) only [fX12_fitting_L4, ↓brK, ↓brR_0, ↓brA_0, ↓brS_0, ↓brG_1, fX12_fitting_J47_4, fX12_fitting_J46_4, ↓hb_some, ↓bd_some, ↓letE_eq, h_z0, h_z1, h_zi0, h_zi1, ↓hb_of (has_n hh), ↓hb_of g1, iN_lit, iN_add, iN_mul, iN_pred, iN_pred', iN_lt, iN_le, iN_eq, iN_nat, nlt_t, nlt_f, nle_t, nle_f, neq_t, neq_f, List.length_nil, List.length_cons, or_false, false_or, or_self, not_false_eq_true, not_true_eq_false, ↓reduceIte, if_true, if_false, Bool.false_eq_true, Nat.reduceAdd, hG]
        | false =>
          rw [hs] at g1
          rw [if_neg (by decide)]
          simp only [iN_lit, Bool.false_eq_true, if_false] at g1
          simp (disch := first | omega | assumption | (simp (disch := omega) only [iN_lit, iN_add, iN_mul, iN_pred, iN_pred', iN_lt, iN_le, iN_eq, iN_nat, nlt_t, nlt_f, nle_t, nle_f, neq_t, neq_f, List.length_nil, List.length_cons, or_false, false_or, or_self, not_false_eq_true, not_true_eq_false, ↓reduceIte, if_true, if_false, Bool.false_eq_true, Nat.reduceAdd])) only [fX12_fitting_L4, ↓brK, ↓brR_0, ↓brA_0, ↓brS_0, ↓brG_1, fX12_fitting_J47_4, fX12_fitting_J46_4, ↓hb_some, ↓bd_some, ↓letE_eq, h_z0, h_z1, h_zi0, h_zi1, ↓hb_of (has_n hh), ↓hb_of g1, iN_lit, iN_add, iN_mul, iN_pred, iN_pred', iN_lt, iN_le, iN_eq, iN_nat, nlt_t, nlt_f, nle_t, nle_f, neq_t, neq_f, List.length_nil, List.length_cons, or_false, false_or, or_self, not_false_eq_true, not_true_eq_false, ↓reduceIte, if_true, if_false, Bool.false_eq_true, Nat.reduceAdd, hG])
    (fun q hi _ n' => by
      obtain ⟨J1, B1, rdv1⟩ := q
      have hG : J1 1 = iN G := (hi.1.rj 1 (by omega)).trans mk.1.1
      dsimp only
      simp (disch := first | omega | assumption | (simp (disch := omega) only [iN_lit, iN_add, iN_mul, iN_pred, iN_pred', iN_lt, iN_le, iN_eq, iN_nat, nlt_t, nlt_f, nle_t, nle_f, neq_t, neq_f, List.length_nil, List.length_cons, or_false, false_or, or_self, not_false_eq_true, not_true_eq_false, ↓reduceIte, if_true, if_false, Bool.false_eq_true, Nat.reduceAdd])) only [fX12_fitting_L4, ↓brK, ↓brR_0, ↓brA_0, ↓brS_0, ↓brG_1, fX12_fitting_J47_4, fX12_fitting_J46_4, ↓hb_some, ↓bd_some, ↓letE_eq, h_z0, h_z1, h_zi0, h_zi1, iN_lit, iN_add, iN_mul, iN_pred, iN_pred', iN_lt, iN_le, iN_eq, iN_nat, nlt_t, nlt_f, nle_t, nle_f, neq_t, neq_f, List.length_nil, List.length_cons, or_false, false_or, or_self, not_false_eq_true, not_true_eq_false, ↓reduceIte, if_true, if_false, Bool.false_eq_true, Nat.reduceAdd, hG]) G 0 (J', B', rdv') (by omega) ⟨i1, i2⟩
  obtain ⟨⟨J2, B2, rdv2⟩, ⟨k1, k2⟩, k3⟩ := key
  exact ⟨J2, B2, rdv2, k3 () FU (by unfold FU; omega), k1, k2⟩
end FV
