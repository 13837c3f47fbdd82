/-! CALLS: looks (4) -/
section LO
variable {I A E I' A' : Nat → Nat → Int32} {L L' : Nat → Int64} {pr ot s : Nat} {J J' : Nat → Int32} {B B' : Nat → Nat → Int32} {M M' : Nat → Int64} {rdv rdv' : Value} {ru : Nat} {T : PH} {G P W p q g n nr sz ro oa w t k N d m h : Nat} {Z Z' R X a : Nat → Int32} {x y z i2 i4 i5 acc mm : Int32} {out : Nat → Int64} {pu : (Nat → Int32) → Int32} {V : Nat → Nat}
theorem look75_M (hc : CP Z (B 29)) (hp : p < 6) (hg : g < 8) : ∃ F, (∀ kx : PH → Option (Int32 × PH), fX12_looks_L75 45 (iN p) x mm (iN g) kx FU (iN 0) (encC I E L pr ot (encR J B M rdv ru T)) = kx (encC I E L pr ot (encR J (u1 B 38 F) M rdv ru T))) ∧ (∀ i, i < 4 * g → F i = B 38 i) ∧ ∀ h, h < 4 → F (4 * g + h) = Z (8 + p * 4 + h) := by
  have key := lp_k (fun (kx : PH → Option (Int32 × PH)) n k (F : Nat → Int32) => fX12_looks_L75 45 (iN p) x mm (iN g) kx n (iN k) (encC I E L pr ot (encR J (u1 B 38 F) M rdv ru T))) (fun kx F => kx (encC I E L pr ot (encR J (u1 B 38 F) M rdv ru T))) (fun k F => (∀ i, i < 4 * g → F i = B 38 i) ∧ ∀ h, h < k → F (4 * g + h) = Z (8 + p * 4 + h)) 4
    (fun k F hk hi => by
      have f1 := r_humour (I := I) (E := E) (L := L) (pr := pr) (ot := ot) (J := J) (B := u1 B 38 F) (M := M) (rdv := rdv) (ru := ru) (T := T) (oa := 61) (p := p) (h := k) (Z := Z) (Or.inr rfl) hp hk (by rw [fb_61]; exact hc)
      refine ⟨upd F (4 * g + k) (Z (8 + p * 4 + k)), ⟨fun i hi2 => ?_, fun h hh => ?_⟩, fun kx n => ?_⟩
      · rw [upd_if, if_neg (by omega)]; exact hi.1 i hi2
      · rw [upd_if]
        by_cases e : h = k
        · rw [e, if_pos rfl]
        · rw [if_neg (by omega)]; exact hi.2 h (by omega)
      · show fX12_looks_L75 45 (iN p) x mm (iN g) kx (n + 1) (iN k) (encC I E L pr ot (encR J (u1 B 38 F) M rdv ru T)) = _
        rw [fX12_looks_L75, if_neg (show ¬ (4 : Int32) ≤ iN k by rw [show (4 : Int32) = iN 4 from rfl, iN_le (by omega) (by omega)]; omega), brR_38, brR_29, hb_of f1, show (4 : Int32) * iN g = iN (4 * g) from iN_mul, iN_add, brS_38 (by rw [show (0 : Int32) = iN 0 from rfl, iN_lt (by omega) (by omega), iN_nat (by omega)]; omega), iN_nat (by omega), letE_eq, show iN k + (1 : Int32) = iN (k + 1) from iN_add, u1_u1, u1_eq, if_pos rfl])
    (fun F hi kx n => by
      show fX12_looks_L75 45 (iN p) x mm (iN g) kx (n + 1) (iN 4) (encC I E L pr ot (encR J (u1 B 38 F) M rdv ru T)) = _
      rw [fX12_looks_L75, if_pos (show (4 : Int32) ≤ iN 4 by decide)]) 4 0 (B 38) (by omega) ⟨fun _ _ => rfl, fun h hh => absurd hh (Nat.not_lt_zero _)⟩
  obtain ⟨F, k1, k2⟩ := key
  refine ⟨F, fun kx => ?_, k1.1, k1.2⟩
  have k3 := k2 kx FU (by unfold FU; omega)
  rw [u1_self] at k3
  exact k3
theorem look41_M (mk : MKK A J B G P W ru pu) (i1 : frJ J J') (i2 : frRB B B') (hp : p < P) (hn : n < 2000) :
    ∃ J2 B2 rdv2, (∀ kx : PH → Option (Int32 × PH), fX12_looks_L41 45 (iN p) (iN n) mm kx FU (iN 0) (encC I E L pr ot (encR J' B' M rdv' ru T)) = kx (encC I E L pr ot (encR J2 B2 M rdv2 ru T))) ∧ frJ J J2 ∧ frRB B B2 ∧ ∀ g, g < G → hasB mm g = true → ∀ h, h < 4 → B2 38 (4 * g + h) = lkZ A pu G p n g (8 + p * 4 + h) := by
  have h8 := mk.1.2.2.2.1
  have h6 := mk.1.2.2.2.2.1
  have key := lp_k (fun (kx : PH → Option (Int32 × PH)) n' k (q : (Nat → Int32) × (Nat → Nat → Int32) × Value) => fX12_looks_L41 45 (iN p) (iN n) mm kx n' (iN k) (encC I E L pr ot (encR (q.1) (q.2.1) M (q.2.2) ru T))) (fun kx q => kx (encC I E L pr ot (encR (q.1) (q.2.1) M (q.2.2) ru T))) (fun k q => frJ J q.1 ∧ frRB B q.2.1 ∧ ∀ g, g < k → hasB mm g = true → ∀ h, h < 4 → q.2.1 38 (4 * g + h) = lkZ A pu G p n g (8 + p * 4 + h)) G
    (fun k q hk hi => by
      obtain ⟨J1, B1, rdv1⟩ := q
      obtain ⟨j1, j2, j3⟩ := hi
      dsimp only at j1 j2 j3
      have hG : J1 1 = iN G := (j1.rj 1 (by omega)).trans mk.1.1
      cases hb : hasB mm k with
      | false =>
        refine ⟨(J1, B1, rdv1), ⟨j1, j2, fun g hg hgb => ?_⟩, fun kx n' => ?_⟩
        · by_cases e : g = k
          · rw [e, hb] at hgb; cases hgb
          · exact j3 g (by omega) hgb
        · dsimp only
          simp (disch := first | omega | assumption | (simp (disch := omega) only [iN_lit, iN_add, iN_mul, iN_pred, iN_pred', iN_lt, iN_le, iN_eq, iN_nat, nlt_t, nlt_f, nle_t, nle_f, neq_t, neq_f, List.length_nil, List.length_cons, or_false, false_or, or_self, not_false_eq_true, not_true_eq_false, ↓reduceIte, if_true, if_false, Bool.false_eq_true, Nat.reduceAdd])) only [fX12_looks_L41, ↓brK, ↓brG_1, fX12_looks_J109_41, fX12_looks_J228_162, fX12_looks_J252_126, ↓hb_some, ↓bd_some, ↓letE_eq, h_z0, h_z1, h_zi0, h_zi1, ↓hb_of (has_n hb), iN_lit, iN_add, iN_mul, iN_pred, iN_pred', iN_lt, iN_le, iN_eq, iN_nat, nlt_t, nlt_f, nle_t, nle_f, neq_t, neq_f, List.length_nil, List.length_cons, or_false, false_or, or_self, not_false_eq_true, not_true_eq_false, ↓reduceIte, if_true, if_false, Bool.false_eq_true, Nat.reduceAdd, hG]
      | true =>
        obtain ⟨J2, B2, rdv2, f1, f2, f3, f4, f5⟩ := mk.go2 (I := I) (E := E) (L := L) (pr := pr) (ot := ot) (M := M) (rdv' := rdv1) (T := T) (m := (1 : Int32) <<< (iN k &&& 31)) (n := n) j1 j2 hp hn
        have e38 : B2 38 = B1 38 := f5 38 (by decide) (by decide) (by decide)
        obtain ⟨F, g1, g2, g3⟩ := look75_M (I := I) (E := E) (L := L) (pr := pr) (ot := ot) (J := J2) (B := B2) (M := M) (rdv := rdv2) (ru := ru) (T := T) (x := iN n) (mm := mm) (g := k) f4 (show p < 6 by omega) (by omega)
        refine ⟨(J2, u1 B2 38 F, rdv2), ⟨f2, f3.trans (frRB.w (by decide)), fun g hg hgb h hh => ?_⟩, fun kx n' => ?_⟩
        · dsimp only
          rw [u1_eq, if_pos rfl]
          by_cases e : g = k
          · rw [e]; exact g3 h hh
          · rw [g2 _ (by omega), e38]; exact j3 g (by omega) hgb h hh
        · dsimp only
          simp only [iN_lit] at f1 g1
          simp (disch := first | omega | assumption | (simp (disch := omega) only [iN_lit, iN_add, iN_mul, iN_pred, iN_pred', iN_lt, iN_le, iN_eq, iN_nat, nlt_t, nlt_f, nle_t, nle_f, neq_t, neq_f, List.length_nil, List.length_cons, or_false, false_or, or_self, not_false_eq_true, not_true_eq_false, ↓reduceIte, if_true, if_false, Bool.false_eq_true, Nat.reduceAdd])) only [fX12_looks_L41, ↓brK, ↓brG_1, fX12_looks_J109_41, fX12_looks_J228_162, fX12_looks_J252_126, ↓hb_some, ↓bd_some, ↓letE_eq, h_z0, h_z1, h_zi0, h_zi1, ↓hb_of (has_y hb), ↓hb_of f1, iN_lit, iN_add, iN_mul, iN_pred, iN_pred', iN_lt, iN_le, iN_eq, iN_nat, nlt_t, nlt_f, nle_t, nle_f, neq_t, neq_f, List.length_nil, List.length_cons, or_false, false_or, or_self, not_false_eq_true, not_true_eq_false, ↓reduceIte, if_true, if_false, Bool.false_eq_true, Nat.reduceAdd, hG, g1])
    (fun q hi kx n' => by
      obtain ⟨J1, B1, rdv1⟩ := q
      have hG : J1 1 = iN G := (hi.1.rj 1 (by omega)).trans mk.1.1
      dsimp only
      simp (disch := first | omega | assumption | (simp (disch := omega) only [iN_lit, iN_add, iN_mul, iN_pred, iN_pred', iN_lt, iN_le, iN_eq, iN_nat, nlt_t, nlt_f, nle_t, nle_f, neq_t, neq_f, List.length_nil, List.length_cons, or_false, false_or, or_self, not_false_eq_true, not_true_eq_false, ↓reduceIte, if_true, if_false, Bool.false_eq_true, Nat.reduceAdd])) only [fX12_looks_L41, ↓brK, ↓brG_1, fX12_looks_J109_41, fX12_looks_J228_162, fX12_looks_J252_126, ↓hb_some, ↓bd_some, ↓letE_eq, h_z0, h_z1, h_zi0, h_zi1, iN_lit, iN_add, iN_mul, iN_pred, iN_pred', iN_lt, iN_le, iN_eq, iN_nat, nlt_t, nlt_f, nle_t, nle_f, neq_t, neq_f, List.length_nil, List.length_cons, or_false, false_or, or_self, not_false_eq_true, not_true_eq_false, ↓reduceIte, if_true, if_false, Bool.false_eq_true, Nat.reduceAdd, hG]) G 0 (J', B', rdv') (by omega) ⟨i1, i2, fun g hg => absurd hg (Nat.not_lt_zero _)⟩
  obtain ⟨⟨J2, B2, rdv2⟩, ⟨k1, k2, k3⟩, k4⟩ := key
  exact ⟨J2, B2, rdv2, fun kx => k4 kx FU (by unfold FU; omega), k1, k2, k3⟩
theorem look138_M {i7 : Int32} : ∃ F, (∀ kx : PH → Option (Int32 × PH), fX12_looks_L138 45 mm i4 i5 x i7 kx FU (iN 0) (encC I E L pr ot (encR J B M rdv ru T)) = kx (encC I E L pr ot (encR J (u1 B 39 F) M rdv ru T))) ∧ ∀ i, i < 10 → F i = 0 := by
  have key := lp_k (fun (kx : PH → Option (Int32 × PH)) n k (F : Nat → Int32) => fX12_looks_L138 45 mm i4 i5 x i7 kx n (iN k) (encC I E L pr ot (encR J (u1 B 39 F) M rdv ru T))) (fun kx F => kx (encC I E L pr ot (encR J (u1 B 39 F) M rdv ru T))) (fun k F => ∀ i, i < k → F i = 0) 10
    (fun k F hk hi => by
      refine ⟨upd F k 0, fun i hi2 => ?_, fun kx n => ?_⟩
      · rw [upd_if]
        split
        · rfl
        · exact hi i (by omega)
      · show fX12_looks_L138 45 mm i4 i5 x i7 kx (n + 1) (iN k) (encC I E L pr ot (encR J (u1 B 39 F) M rdv ru T)) = _
        rw [fX12_looks_L138, if_neg (show ¬ (9 : Int32) < iN k by rw [show (9 : Int32) = iN 9 from rfl, iN_lt (by omega) (by omega)]; omega), brR_39, brS_39 (by rw [show (0 : Int32) = iN 0 from rfl, iN_lt (by omega) (by omega), iN_nat (by omega)]; omega), iN_nat (by omega), letE_eq, show iN k + (1 : Int32) = iN (k + 1) from iN_add, u1_u1, u1_eq, if_pos rfl])
    (fun F hi kx n => by
      show fX12_looks_L138 45 mm i4 i5 x i7 kx (n + 1) (iN 10) (encC I E L pr ot (encR J (u1 B 39 F) M rdv ru T)) = _
      rw [fX12_looks_L138, if_pos (show (9 : Int32) < iN 10 by decide)]) 10 0 (B 39) (by omega) (fun i hi => absurd hi (Nat.not_lt_zero _))
  obtain ⟨F, k1, k2⟩ := key
  refine ⟨F, fun kx => ?_, k1⟩
  have k3 := k2 kx FU (by unfold FU; omega)
  rw [u1_self] at k3
  exact k3
theorem look162_M (hG : J 1 = iN G) (h8 : G ≤ 8) (hh : h < 4) (ht : ∀ g, g < G → hasB mm g = true → B 38 (4 * g + h) = iN (V g)) (hV : ∀ g, V g < 10) (h0 : ∀ i, i < 10 → B 39 i = 0) : ∃ F, ∀ kx : Int32 → PH → Option (Int32 × PH), fX12_looks_L162 45 mm i4 i5 (iN h) kx FU (iN 0) (iN 0) (encC I E L pr ot (encR J B M rdv ru T)) = kx (iN (rM (hasB mm) V G)) (encC I E L pr ot (encR J (u1 B 39 F) M rdv ru T)) := by
  have key := lp_k (fun (kx : Int32 → PH → Option (Int32 × PH)) n k (F : Nat → Int32) => fX12_looks_L162 45 mm i4 i5 (iN h) kx n (iN (rM (hasB mm) V k)) (iN k) (encC I E L pr ot (encR J (u1 B 39 F) M rdv ru T))) (fun kx F => kx (iN (rM (hasB mm) V G)) (encC I E L pr ot (encR J (u1 B 39 F) M rdv ru T))) (fun k F => ∀ v, v < 10 → F v = iN (cN (hasB mm) V v k)) G
    (fun k F hk hi => by
      have hl : rM (hasB mm) V k ≤ 100 := by
        rw [rM_eq k (fun g _ => hV g)]
        exact mM_le (fun v hv => Nat.le_trans (cN_le k) (by omega))
      have e1 : rM (hasB mm) V (k + 1) = if hasB mm k then (if rM (hasB mm) V k < cN (hasB mm) V (V k) (k + 1) then cN (hasB mm) V (V k) (k + 1) else rM (hasB mm) V k) else rM (hasB mm) V k := rfl
      have e2 : ∀ v, cN (hasB mm) V v (k + 1) = if hasB mm k && decide (V k = v) then cN (hasB mm) V v k + 1 else cN (hasB mm) V v k := fun v => rfl
      cases hb : hasB mm k with
      | false =>
        refine ⟨F, fun v hv => ?_, fun kx n => ?_⟩
        · rw [e2, hb, Bool.false_and, if_neg (by decide)]; exact hi v hv
        · rw [e1, hb, if_neg (by decide)]
          simp (disch := first | omega | assumption | (simp (disch := omega) only [iN_lit, iN_add, iN_mul, iN_pred, iN_pred', iN_lt, iN_le, iN_eq, iN_nat, nlt_t, nlt_f, nle_t, nle_f, neq_t, neq_f, List.length_nil, List.length_cons, or_false, false_or, or_self, not_false_eq_true, not_true_eq_false, ↓reduceIte, if_true, if_false, Bool.false_eq_true, Nat.reduceAdd])) only [fX12_looks_L162, ↓brR_39, ↓brA_39, ↓brS_39, ↓brR_38, ↓brA_38, ↓brS_38, ↓brG_1, fX12_looks_J109_41, fX12_looks_J228_162, fX12_looks_J252_126, ↓hb_some, ↓bd_some, ↓letE_eq, h_z0, h_z1, h_zi0, h_zi1, ↓hb_of (has_n hb), iN_lit, iN_add, iN_mul, iN_pred, iN_pred', iN_lt, iN_le, iN_eq, iN_nat, nlt_t, nlt_f, nle_t, nle_f, neq_t, neq_f, List.length_nil, List.length_cons, or_false, false_or, or_self, not_false_eq_true, not_true_eq_false, ↓reduceIte, if_true, if_false, Bool.false_eq_true, Nat.reduceAdd, hG]
      | true =>
        have hv := hV k
        have hc1 := cN_le (c := hasB mm) (V := V) (v := V k) (k + 1)
        have e3 : F (V k) + iN 1 = iN (cN (hasB mm) V (V k) (k + 1)) := by
          rw [hi (V k) hv, e2, hb, decide_eq_true rfl, Bool.and_self, if_pos rfl, iN_add]
        have hb38 := ht k hk hb
        have hb38' : (u1 B 39 F) 38 (4 * k + h) = iN (V k) := hb38
        refine ⟨upd F (V k) (iN (cN (hasB mm) V (V k) (k + 1))), fun v hv2 => ?_, fun kx n => ?_⟩
        · rw [upd_if]
          by_cases e : v = V k
          · rw [if_pos e, e]
          · rw [if_neg e, e2, decide_eq_false (fun c => e c.symm), Bool.and_false, if_neg (by decide)]; exact hi v hv2
        · rw [e1, hb, if_pos rfl]
          generalize cN (hasB mm) V (V k) (k + 1) = cc at e3 hc1 ⊢
          generalize rM (hasB mm) V k = rr at hl ⊢
          generalize V k = vk at hv e3 hb38' ⊢
          have hix : (4 : Int32) * iN k + iN h = iN (4 * k + h) := by rw [show (4 : Int32) = iN 4 from rfl, iN_mul, iN_add]
          show fX12_looks_L162 45 mm i4 i5 (iN h) kx (n + 1) (iN rr) (iN k) (encC I E L pr ot (encR J (u1 B 39 F) M rdv ru T)) = _
          rw [fX12_looks_L162, brG_1, hG, if_neg (show ¬ iN G ≤ iN k by rw [iN_le (by omega) (by omega)]; omega), hb_of (has_y hb), if_1z, brR_39, brR_38, hix, brA_38 (by rw [show (0 : Int32) = iN 0 from rfl, iN_lt (by omega) (by omega), iN_nat (by omega)]; omega), iN_nat (by omega), hb38', brA_39 (by rw [show (0 : Int32) = iN 0 from rfl, iN_lt (by omega) (by omega), iN_nat (by omega)]; omega), iN_nat (by omega)]
          rw [show (u1 B 39 F) 39 vk = F vk from rfl, show F vk + (1 : Int32) = iN cc from e3, brS_39 (by rw [show (0 : Int32) = iN 0 from rfl, iN_lt (by omega) (by omega), iN_nat (by omega)]; omega), iN_nat (by omega), brR_39, brR_38, brA_38 (by rw [show (0 : Int32) = iN 0 from rfl, iN_lt (by omega) (by omega), iN_nat (by omega)]; omega), iN_nat (by omega), show (u1 (u1 B 39 F) 39 (upd ((u1 B 39 F) 39) vk (iN cc))) 38 (4 * k + h) = iN vk from hb38', brA_39 (by rw [show (0 : Int32) = iN 0 from rfl, iN_lt (by omega) (by omega), iN_nat (by omega)]; omega), iN_nat (by omega), show (u1 (u1 B 39 F) 39 (upd ((u1 B 39 F) 39) vk (iN cc))) 39 vk = iN cc from upd_eq, letE_eq, u1_u1, show (u1 B 39 F) 39 = F from rfl]
          unfold fX12_looks_J228_162
          rw [letE_eq, show iN k + (1 : Int32) = iN (k + 1) from iN_add]
          by_cases hlt : rr < cc
          · rw [if_pos hlt, if_pos (by rw [iN_lt (by omega) (by omega)]; exact hlt)]
          · rw [if_neg hlt, if_neg (by rw [iN_lt (by omega) (by omega)]; exact hlt)])
    (fun F hi kx n => by
      simp (disch := first | omega | assumption | (simp (disch := omega) only [iN_lit, iN_add, iN_mul, iN_pred, iN_pred', iN_lt, iN_le, iN_eq, iN_nat, nlt_t, nlt_f, nle_t, nle_f, neq_t, neq_f, List.length_nil, List.length_cons, or_false, false_or, or_self, not_false_eq_true, not_true_eq_false, ↓reduceIte, if_true, if_false, Bool.false_eq_true, Nat.reduceAdd])) only [fX12_looks_L162, ↓brR_39, ↓brA_39, ↓brS_39, ↓brR_38, ↓brA_38, ↓brS_38, ↓brG_1, fX12_looks_J109_41, fX12_looks_J228_162, fX12_looks_J252_126, ↓hb_some, ↓bd_some, ↓letE_eq, h_z0, h_z1, h_zi0, h_zi1, iN_lit, iN_add, iN_mul, iN_pred, iN_pred', iN_lt, iN_le, iN_eq, iN_nat, nlt_t, nlt_f, nle_t, nle_f, neq_t, neq_f, List.length_nil, List.length_cons, or_false, false_or, or_self, not_false_eq_true, not_true_eq_false, ↓reduceIte, if_true, if_false, Bool.false_eq_true, Nat.reduceAdd, hG]) G 0 (B 39) (by omega) (fun v hv => h0 v hv)
  obtain ⟨F, k1, k2⟩ := key
  refine ⟨F, fun kx => ?_⟩
  have k3 := k2 kx FU (by unfold FU; omega)
  rw [u1_self] at k3
  exact k3
end LO
