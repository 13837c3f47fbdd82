/-! CALLS: fits (2) -/
section FU_
variable {I A E I' A' : Nat → Nat → Int32} {L L' : Nat → Int64} {pr ot s : Nat} {J J' : Nat → Int32} {B B' : Nat → Nat → Int32} {M M' : Nat → Int64} {rdv rdv' : Value} {ru : Nat} {T : PH} {G P W p q g n nr sz ro oa w t k N d m : Nat} {Z Z' R X a : Nat → Int32} {x y z i2 acc : Int32} {out : Nat → Int64} {pu : (Nat → Int32) → Int32}
theorem CK.fit (c : CK I A G P W pr pu) (hm : I 35 13 = iN m) (hm2 : m ≤ 12) (hn : ntC A m) (i1 : frQ A A') (e4 : A' 32 = Z) (hz : OK G P Z) (hp : p < P) :
    ∃ A2, fX4_wouldFit 35 (iN p) (encC I A' L pr ot T) = some ((if seN A pu G m p Z 31 then 1 else 0), (encC I A2 L pr ot T)) ∧ frQ A A2 := by
  have hF := c.1
  have h8 := hF.2.2.2.1
  have h6 := hF.2.2.2.2.1
  obtain ⟨D, hD⟩ : ∃ D, D = mxD A m := ⟨_, rfl⟩
  have hD30 : D ≤ 30 := by rw [hD]; exact mxD_le hn m (Nat.le_refl m)
  have hse : seN A pu G m p Z 31 = seN A pu G m p Z (D + 1) := by rw [hD]; exact seN_hi hn 31 (by omega) (Nat.le_refl _)
  have hmax := fun (kx : Int32 → PH → Option (Int32 × PH)) => lp_det (fun n' k (q : Int32) => fX4_wouldFit_L4 35 (iN p) kx n' q (iN k) (encC I A' L pr ot T)) (fun q => kx q (encC I A' L pr ot T)) (fun k => iN (mxD A k)) m
    (fun k hk n' => by
      obtain ⟨⟨n, hn1, en⟩, -⟩ := hn k hk
      have h1 := mxD_le hn k (by omega)
      have eA : A' 36 k = iN n := by rw [i1.1 36 (by omega)]; exact en
      have e1 : mxD A (k + 1) = if mxD A k < n then n else mxD A k := by
        show (if mxD A k < (A 36 k).toNatClampNeg then (A 36 k).toNatClampNeg else mxD A k) = _
        rw [en, iN_nat (by omega)]
      rw [e1]
      by_cases hl : mxD A k < n
      · rw [if_pos hl]
        simp (disch := first | omega | assumption | (simp (disch := omega) only [iN_lit, iN_add, iN_mul, iN_pred, iN_pred', iN_lt, iN_le, iN_eq, iN_nat, nlt_t, nlt_f, nle_t, nle_f, neq_t, neq_f, List.length_nil, List.length_cons, or_false, false_or, or_self, not_false_eq_true, not_true_eq_false, ↓reduceIte, if_true, if_false, Bool.false_eq_true, Nat.reduceAdd])) only [fX4_wouldFit_L4, ↓bR_35_4, ↓bA_36, ↓bS_36, ↓bN_36, ↓bG_35_13, fX4_wouldFit_J86_39, ↓hb_some, ↓bd_some, ↓letE_eq, h_z0, h_z1, h_zi0, h_zi1, iN_lit, iN_add, iN_mul, iN_pred, iN_pred', iN_lt, iN_le, iN_eq, iN_nat, nlt_t, nlt_f, nle_t, nle_f, neq_t, neq_f, List.length_nil, List.length_cons, or_false, false_or, or_self, not_false_eq_true, not_true_eq_false, ↓reduceIte, if_true, if_false, Bool.false_eq_true, Nat.reduceAdd, hm, eA, hl]
      · rw [if_neg hl]
        simp (disch := first | omega | assumption | (simp (disch := omega) only [iN_lit, iN_add, iN_mul, iN_pred, iN_pred', iN_lt, iN_le, iN_eq, iN_nat, nlt_t, nlt_f, nle_t, nle_f, neq_t, neq_f, List.length_nil, List.length_cons, or_false, false_or, or_self, not_false_eq_true, not_true_eq_false, ↓reduceIte, if_true, if_false, Bool.false_eq_true, Nat.reduceAdd])) only [fX4_wouldFit_L4, ↓bR_35_4, ↓bA_36, ↓bS_36, ↓bN_36, ↓bG_35_13, fX4_wouldFit_J86_39, ↓hb_some, ↓bd_some, ↓letE_eq, h_z0, h_z1, h_zi0, h_zi1, iN_lit, iN_add, iN_mul, iN_pred, iN_pred', iN_lt, iN_le, iN_eq, iN_nat, nlt_t, nlt_f, nle_t, nle_f, neq_t, neq_f, List.length_nil, List.length_cons, or_false, false_or, or_self, not_false_eq_true, not_true_eq_false, ↓reduceIte, if_true, if_false, Bool.false_eq_true, Nat.reduceAdd, hm, eA, hl])
    (fun n' => by simp (disch := first | omega | assumption | (simp (disch := omega) only [iN_lit, iN_add, iN_mul, iN_pred, iN_pred', iN_lt, iN_le, iN_eq, iN_nat, nlt_t, nlt_f, nle_t, nle_f, neq_t, neq_f, List.length_nil, List.length_cons, or_false, false_or, or_self, not_false_eq_true, not_true_eq_false, ↓reduceIte, if_true, if_false, Bool.false_eq_true, Nat.reduceAdd])) only [fX4_wouldFit_L4, ↓bR_35_4, ↓bA_36, ↓bS_36, ↓bN_36, ↓bG_35_13, fX4_wouldFit_J86_39, ↓hb_some, ↓bd_some, ↓letE_eq, h_z0, h_z1, h_zi0, h_zi1, iN_lit, iN_add, iN_mul, iN_pred, iN_pred', iN_lt, iN_le, iN_eq, iN_nat, nlt_t, nlt_f, nle_t, nle_f, neq_t, neq_f, List.length_nil, List.length_cons, or_false, false_or, or_self, not_false_eq_true, not_true_eq_false, ↓reduceIte, if_true, if_false, Bool.false_eq_true, Nat.reduceAdd, hm]) FU (by unfold FU; omega)
  have key := lp_br (fun n' d (A1 : Nat → Nat → Int32) => fX4_wouldFit_L31 35 (iN p) (iN D) (fun h3 => h_z (1 : Int32) (some ((1 : Int32), h3))) n' (iN d) (encC I A1 L pr ot T)) (fun d A1 => frQ A A1 ∧ A1 32 = psZ A pu G p Z d ∧ seN A pu G m p Z d = true) (fun z => ∃ A2, z = some ((if seN A pu G m p Z 31 then 1 else 0), (encC I A2 L pr ot T)) ∧ frQ A A2) (D + 1) ?_ ?_ (D + 1) 0 A' (by omega) ⟨i1, e4, rfl⟩
  · obtain ⟨z, ⟨A2, hz1, hz2⟩, hz3⟩ := key
    refine ⟨A2, ?_, hz2⟩
    unfold fX4_wouldFit
    refine (hmax _).trans ?_
    rw [← hD]
    exact (hz3 FU (by unfold FU; omega)).trans hz1
  · intro d A1 hd hi
    obtain ⟨j1, j2, j3⟩ := hi
    have f1 := fun kx => fit39_C (I := I) (A := A) (A' := A1) (L := L) (pr := pr) (ot := ot) (T := T) (x := iN D) (m := m) (d := d) hm hm2 hn (j1.1 36 (by omega)) (j1.1 37 (by omega)) (j1.1 38 (by omega)) j2 (show p < 6 by omega) (by omega) kx
    cases hb : nOK A m (psZ A pu G p Z d) p d with
    | true =>
      right
      obtain ⟨A2, g1, g2, g3⟩ := c.pass (L := L) (ot := ot) (T := T) (n := 1) j1 j2 (hz.ps h8 (by omega) d) hp (by decide)
      refine ⟨A2, ⟨g2, g3, ?_⟩, fun n' => ?_⟩
      · show (seN A pu G m p Z d && nOK A m (psZ A pu G p Z d) p d) = true
        rw [j3, hb]; rfl
      · rw [hb] at f1
        simp only [if_true, iN_lit] at f1 g1
        simp (disch := first | omega | assumption | (simp (disch := omega) only [iN_lit, iN_add, iN_mul, iN_pred, iN_pred', iN_lt, iN_le, iN_eq, iN_nat, nlt_t, nlt_f, nle_t, nle_f, neq_t, neq_f, List.length_nil, List.length_cons, or_false, false_or, or_self, not_false_eq_true, not_true_eq_false, ↓reduceIte, if_true, if_false, Bool.false_eq_true, Nat.reduceAdd])) only [fX4_wouldFit_L31, ↓bK_11, ↓zK _, ↓bR_35_2, ↓bR_35_0, fX4_wouldFit_J86_39, fX0_presentRule, ↓bR_11_7, ↓hb_of (c_presentRule), ↓hb_some, ↓bd_some, ↓letE_eq, h_z0, h_z1, h_zi0, h_zi1, iN_lit, iN_add, iN_mul, iN_pred, iN_pred', iN_lt, iN_le, iN_eq, iN_nat, nlt_t, nlt_f, nle_t, nle_f, neq_t, neq_f, List.length_nil, List.length_cons, or_false, false_or, or_self, not_false_eq_true, not_true_eq_false, ↓reduceIte, if_true, if_false, Bool.false_eq_true, Nat.reduceAdd, f1]
        rw [hb_of g1]
    | false =>
      left
      refine ⟨_, ⟨A1, rfl, j1⟩, fun n' => ?_⟩
      have e : seN A pu G m p Z 31 = false := by rw [hse]; exact allB_lt hd hb
      rw [e]
      rw [hb] at f1
      simp only [Bool.false_eq_true, if_false, iN_lit] at f1
      simp (disch := first | omega | assumption | (simp (disch := omega) only [iN_lit, iN_add, iN_mul, iN_pred, iN_pred', iN_lt, iN_le, iN_eq, iN_nat, nlt_t, nlt_f, nle_t, nle_f, neq_t, neq_f, List.length_nil, List.length_cons, or_false, false_or, or_self, not_false_eq_true, not_true_eq_false, ↓reduceIte, if_true, if_false, Bool.false_eq_true, Nat.reduceAdd])) only [fX4_wouldFit_L31, ↓bK_11, ↓zK _, ↓bR_35_2, ↓bR_35_0, fX4_wouldFit_J86_39, ↓hb_of (c_presentRule), ↓hb_some, ↓bd_some, ↓letE_eq, h_z0, h_z1, h_zi0, h_zi1, iN_lit, iN_add, iN_mul, iN_pred, iN_pred', iN_lt, iN_le, iN_eq, iN_nat, nlt_t, nlt_f, nle_t, nle_f, neq_t, neq_f, List.length_nil, List.length_cons, or_false, false_or, or_self, not_false_eq_true, not_true_eq_false, ↓reduceIte, if_true, if_false, Bool.false_eq_true, Nat.reduceAdd, f1]
  · intro A1 hi
    refine ⟨_, ⟨A1, rfl, hi.1⟩, fun n' => ?_⟩
    rw [hse, hi.2.2]
    simp (disch := first | omega | assumption | (simp (disch := omega) only [iN_lit, iN_add, iN_mul, iN_pred, iN_pred', iN_lt, iN_le, iN_eq, iN_nat, nlt_t, nlt_f, nle_t, nle_f, neq_t, neq_f, List.length_nil, List.length_cons, or_false, false_or, or_self, not_false_eq_true, not_true_eq_false, ↓reduceIte, if_true, if_false, Bool.false_eq_true, Nat.reduceAdd])) only [fX4_wouldFit_L31, ↓bK_11, ↓zK _, ↓bR_35_2, ↓bR_35_0, fX4_wouldFit_J86_39, ↓hb_of (c_presentRule), ↓hb_some, ↓bd_some, ↓letE_eq, h_z0, h_z1, h_zi0, h_zi1, iN_lit, iN_add, iN_mul, iN_pred, iN_pred', iN_lt, iN_le, iN_eq, iN_nat, nlt_t, nlt_f, nle_t, nle_f, neq_t, neq_f, List.length_nil, List.length_cons, or_false, false_or, or_self, not_false_eq_true, not_true_eq_false, ↓reduceIte, if_true, if_false, Bool.false_eq_true, Nat.reduceAdd]
theorem MKK.fit (mk : MKK A J B G P W ru pu) (hm : J 37 = iN m) (hm2 : m ≤ 12) (hn : ntC A m) (e1 : ∀ k, k < m → B 34 k = A 36 k) (e2 : ∀ k, k < m → B 35 k = A 37 k) (e3 : ∀ k, k < m → B 36 k = A 38 k) (i1 : frJ J J') (i2 : frRB B B') (hp : p < P) (hZ : ldF (A 28) p x G = Z) :
    ∃ J2 B2 rdv2, fX12_isSeen 45 (iN p) x (encC I E L pr ot (encR J' B' M rdv' ru T)) = some ((if seN A pu G m p Z 31 then 1 else 0), (encC I E L pr ot (encR J2 B2 M rdv2 ru T))) ∧ frJ J J2 ∧ frRB B B2 := by
  have h8 := mk.1.2.2.2.1
  have h6 := mk.1.2.2.2.2.1
  have hzZ : OK G P Z := by rw [← hZ]; exact mk.2.2.2.1.ld h8 h6 hp G (Nat.le_refl _)
  obtain ⟨J1, B1, rdv1, f1, f2, f3, f4⟩ := mk.go (I := I) (E := E) (L := L) (pr := pr) (ot := ot) (M := M) (rdv' := rdv') (T := T) (m := x) (n := 0) i1 i2 hp (by decide)
  have f4' : CP Z (B1 29) := by rw [← hZ]; exact f4
  have key := lp_br (fun n' d (q : (Nat → Int32) × (Nat → Nat → Int32) × Value) => fX12_isSeen_L9 45 (iN p) (fun h2 => h_z (1 : Int32) (some ((1 : Int32), h2))) n' (iN d) (encC I E L pr ot (encR (q.1) (q.2.1) M (q.2.2) ru T))) (fun d q => frJ J q.1 ∧ frRB B q.2.1 ∧ CP (psZ A pu G p Z d) (q.2.1 29) ∧ seN A pu G m p Z d = true) (fun z => ∃ J2 B2 rdv2, z = some ((if seN A pu G m p Z 31 then 1 else 0), (encC I E L pr ot (encR J2 B2 M rdv2 ru T))) ∧ frJ J J2 ∧ frRB B B2) 31 ?_ ?_ 31 0 (J1, B1, rdv1) (by omega) ⟨f2, f3, f4', rfl⟩
  · obtain ⟨z, ⟨J2, B2, rdv2, hz1, hz2, hz4⟩, hz3⟩ := key
    refine ⟨J2, B2, rdv2, ?_, hz2, hz4⟩
    unfold fX12_isSeen
    rw [brK, hb_of (show fX12_goWith 45 (iN p) x (0 : Int32) (encC I E L pr ot (encR J' B' M rdv' ru T)) = _ from f1)]
    exact (hz3 FU (by unfold FU; omega)).trans hz1
  · intro d q hd hi
    obtain ⟨J3, B3, rdv3⟩ := q
    obtain ⟨j1, j2, j3, j4⟩ := hi
    dsimp only at j1 j2 j3
    have g1 := fun kx => fit18_M (I := I) (E := E) (L := L) (pr := pr) (ot := ot) (J := J3) (B := B3) (M := M) (rdv := rdv3) (ru := ru) (T := T) (A := A) (m := m) (p := p) (d := d) ((j1.rj 37 (by omega)).trans hm) hm2 hn (fun k hk => by rw [j2 34 (by omega)]; exact e1 k hk) (fun k hk => by rw [j2 35 (by omega)]; exact e2 k hk) (fun k hk => by rw [j2 36 (by omega)]; exact e3 k hk) j3 (by omega) (by omega) kx
    cases hb : nOK A m (psZ A pu G p Z d) p d with
    | true =>
      right
      obtain ⟨J4, B4, rdv4, k1, k2, k3, k4⟩ := mk.alone (I := I) (E := E) (L := L) (pr := pr) (ot := ot) (M := M) (T := T) (rdv' := rdv3) j1 j2 j3 (hzZ.ps h8 (by omega) d) hp
      refine ⟨(J4, B4, rdv4), ⟨k2, k3, k4, ?_⟩, fun n' => ?_⟩
      · show (seN A pu G m p Z d && nOK A m (psZ A pu G p Z d) p d) = true
        rw [j4, hb]; rfl
      · rw [hb] at g1
        simp only [if_true, iN_lit] at g1
        dsimp only
        simp (disch := first | omega | assumption | (simp (disch := omega) only [iN_lit, iN_add, iN_mul, iN_pred, iN_pred', iN_lt, iN_le, iN_eq, iN_nat, nlt_t, nlt_f, nle_t, nle_f, neq_t, neq_f, List.length_nil, List.length_cons, or_false, false_or, or_self, not_false_eq_true, not_true_eq_false, ↓reduceIte, if_true, if_false, Bool.false_eq_true, Nat.reduceAdd])) only [fX12_isSeen_L9, ↓brK, fX12_isSeen_J65_18, ↓hb_some, ↓bd_some, ↓letE_eq, h_z0, h_z1, h_zi0, h_zi1, ↓hb_of k1, iN_lit, iN_add, iN_mul, iN_pred, iN_pred', iN_lt, iN_le, iN_eq, iN_nat, nlt_t, nlt_f, nle_t, nle_f, neq_t, neq_f, List.length_nil, List.length_cons, or_false, false_or, or_self, not_false_eq_true, not_true_eq_false, ↓reduceIte, if_true, if_false, Bool.false_eq_true, Nat.reduceAdd, g1]
    | false =>
      left
      refine ⟨_, ⟨J3, B3, rdv3, rfl, j1, j2⟩, fun n' => ?_⟩
      have e : seN A pu G m p Z 31 = false := allB_lt hd hb
      rw [e]
      rw [hb] at g1
      simp only [Bool.false_eq_true, if_false, iN_lit] at g1
      dsimp only
      simp (disch := first | omega | assumption | (simp (disch := omega) only [iN_lit, iN_add, iN_mul, iN_pred, iN_pred', iN_lt, iN_le, iN_eq, iN_nat, nlt_t, nlt_f, nle_t, nle_f, neq_t, neq_f, List.length_nil, List.length_cons, or_false, false_or, or_self, not_false_eq_true, not_true_eq_false, ↓reduceIte, if_true, if_false, Bool.false_eq_true, Nat.reduceAdd])) only [fX12_isSeen_L9, ↓brK, fX12_isSeen_J65_18, ↓hb_some, ↓bd_some, ↓letE_eq, h_z0, h_z1, h_zi0, h_zi1, iN_lit, iN_add, iN_mul, iN_pred, iN_pred', iN_lt, iN_le, iN_eq, iN_nat, nlt_t, nlt_f, nle_t, nle_f, neq_t, neq_f, List.length_nil, List.length_cons, or_false, false_or, or_self, not_false_eq_true, not_true_eq_false, ↓reduceIte, if_true, if_false, Bool.false_eq_true, Nat.reduceAdd, g1]
  · intro q hi
    obtain ⟨J3, B3, rdv3⟩ := q
    refine ⟨_, ⟨J3, B3, rdv3, rfl, hi.1, hi.2.1⟩, fun n' => ?_⟩
    rw [hi.2.2.2]
    dsimp only
    simp (disch := first | omega | assumption | (simp (disch := omega) only [iN_lit, iN_add, iN_mul, iN_pred, iN_pred', iN_lt, iN_le, iN_eq, iN_nat, nlt_t, nlt_f, nle_t, nle_f, neq_t, neq_f, List.length_nil, List.length_cons, or_false, false_or, or_self, not_false_eq_true, not_true_eq_false, ↓reduceIte, if_true, if_false, Bool.false_eq_true, Nat.reduceAdd])) only [fX12_isSeen_L9, ↓brK, fX12_isSeen_J65_18, ↓hb_some, ↓bd_some, ↓letE_eq, h_z0, h_z1, h_zi0, h_zi1, iN_lit, iN_add, iN_mul, iN_pred, iN_pred', iN_lt, iN_le, iN_eq, iN_nat, nlt_t, nlt_f, nle_t, nle_f, neq_t, neq_f, List.length_nil, List.length_cons, or_false, false_or, or_self, not_false_eq_true, not_true_eq_false, ↓reduceIte, if_true, if_false, Bool.false_eq_true, Nat.reduceAdd]
end FU_
