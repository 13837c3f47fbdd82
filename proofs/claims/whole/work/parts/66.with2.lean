/-! WITH SOME GROUNDS MORE, what stays of the other arrays -/
section WJ
variable {I A E I' A' : Nat → Nat → Int32} {L L' : Nat → Int64} {pr ot s : Nat} {J J' : Nat → Int32} {B B' : Nat → Nat → Int32} {M M' : Nat → Int64} {rdv rdv' : Value} {ru : Nat} {T : PH} {G P W p q g n nr sz ro oa w t : Nat} {Z Z' R X a : Nat → Int32} {x y z i2 m : Int32} {out : Nat → Int64} {pu : (Nat → Int32) → Int32}
theorem frL.rf {o ro : Nat} : frL o ro A A := fun _ _ _ _ _ => rfl
theorem frL.tr {o ro : Nat} {A1 A2 : Nat → Nat → Int32} (h1 : frL o ro A A1) (h2 : frL o ro A1 A2) : frL o ro A A2 := fun x a b c d => (h2 x a b c d).trans (h1 x a b c d)
theorem frL.u {ro : Nat} {X : Nat → Int32} : frL 31 ro A (u1 A 32 X) := fun x a b c d => by rw [u1_eq, if_neg a]
theorem frB.rf {b : Nat} : frB b B B := fun _ _ _ _ => rfl
theorem frB.tr {b : Nat} {B1 B2 : Nat → Nat → Int32} (h1 : frB b B B1) (h2 : frB b B1 B2) : frB b B B2 := fun x a b c => (h2 x a b c).trans (h1 x a b c)
theorem frB.u {X : Nat → Int32} : frB 29 B (u1 B 29 X) := fun x a b c => by rw [u1_eq, if_neg c]
theorem CK.pass2 (c : CK I A G P W ro pu) (i1 : frQ A A') (i2 : A' 32 = Z) (hz : OK G P Z) (hp : p < P) (hn : n < 2000) : ∃ A2, fX8_pass 31 (iN p) (iN n) ro (encC I A' L pr ot T) = some ((), (encC I A2 L pr ot T)) ∧ frQ A A2 ∧ A2 32 = psZ A pu G p Z n ∧ frL 31 ro A' A2 := by
  obtain ⟨hF, hT, hro, hr, -⟩ := c
  have h6 := hF.2.2.2.2.1
  obtain ⟨A2, f1, f2, f3⟩ := c_pass (I := I) (A := A') (L := L) (pr := pr) (ot := ot) (T := T) (o := 31) (W := W) (N := n) hF (Or.inr rfl) hro (i1.rr hro hr) hp (by show okH (A' 32) p; rw [i2]; exact hz.2.2.1 p (by omega)) hn
  have f4 : A2 32 = psZ A pu G p Z n := by
    refine f3.trans ?_
    show psZ A' pu G p (A' 32) n = _
    rw [i2]
    exact psZ_congr (i1.1 12 (by omega)) (i1.1 13 (by omega)) (i1.1 14 (by omega)) n
  exact ⟨A2, f1, i1.trans (f2.q hro (by rw [f4]; exact (hz.ps hF.2.2.2.1 (by omega) n).1)), f4, f2⟩
theorem CK.with2 (c : CK I A G P W pr pu) (i1 : frQ A A') (hp : p < P) (hn : n < 2000) : ∃ A2, fX4_wantsWith 35 (iN p) m (iN n) (encC I A' L pr ot T) = some (wwS A pu G W p m n (A 28), (encC I A2 L pr ot T)) ∧ frQ A A2 ∧ A2 32 = psZ A pu G p (ldF (A 28) p m G) n ∧ frL 31 pr A' A2 := by
  have hF := c.1
  have h8 := hF.2.2.2.1
  have h6 := hF.2.2.2.2.1
  have hG := hF.1
  obtain ⟨e1, e2⟩ := c.copyQ (L := L) (pr := pr) (ot := ot) (T := T) i1
  have hz := c.2.2.2.2.1
  have hzk := fun k (hk : k ≤ G) => hz.ld (m := m) h8 h6 hp k hk
  have e3 : frQ A (u1 A' 32 (ldF (A 28) p m G)) := ⟨fun x hx => by rw [u1_eq, if_neg (by omega)]; exact i1.1 x hx, fun _ => by rw [u1_eq, if_pos rfl]; exact (hzk G (Nat.le_refl _)).1⟩
  obtain ⟨A2, f1, f2, f3, f5⟩ := c.pass2 (L := L) (pr := pr) (ot := ot) (T := T) (n := n) e3 rfl (hzk G (Nat.le_refl _)) hp hn
  have f4 := c.wants (L := L) (pr := pr) (ot := ot) (T := T) f2 f3 hp
  refine ⟨A2, ?_, f2, f3, frL.u.tr f5⟩
  have key := fun kx => lp_det (fun n' k (a : Nat → Int32) => fX4_wantsWith_L14 35 (iN p) m (iN n) kx n' (iN k) (encC I (u1 A' 32 a) L pr ot T)) (fun a => kx (encC I (u1 A' 32 a) L pr ot T)) (fun k => ldF (A 28) p m k) G
    (fun k hk n' => by
      cases hb : hasB m k with
      | true =>
        have e4 : ldF (A 28) p m (k + 1) = upd (ldF (A 28) p m k) (32 + p * 8 + k) 0 := if_pos hb
        have e5 := c_lend (I := I) (A := u1 A' 32 (ldF (A 28) p m k)) (L := L) (pr := pr) (ot := ot) (T := T) (o := 31) (p := p) (g := k) (Or.inr rfl) (by omega) (by omega)
        have e6 : (u1 A' 32 (ldF (A 28) p m k)) (31 + 1) = ldF (A 28) p m k := by rw [u1_eq, if_pos rfl]
        rw [e6, show 31 + 1 = 32 from rfl, u1_u1] at e5
        rw [e4]
        simp (disch := first | omega | assumption | (simp (disch := omega) only [iN_lit, iN_add, iN_mul, iN_pred, iN_pred', iN_lt, iN_le, iN_eq, iN_nat, nlt_t, nlt_f, nle_t, nle_f, neq_t, neq_f, List.length_nil, List.length_cons, or_false, false_or, or_self, not_false_eq_true, not_true_eq_false, ↓reduceIte, if_true, if_false, Bool.false_eq_true, Nat.reduceAdd])) only [fX4_wantsWith_L14, ↓bK_11, ↓zK _, ↓bR_35_0, ↓bR_35_2, fX4_wantsWith_J45_14, ↓hb_of (c_groundSize), ↓hb_some, ↓bd_some, ↓letE_eq, h_z0, h_z1, h_zi0, h_zi1, ↓hb_of e5, ↓hb_of (isIn_y hb), iN_lit, iN_add, iN_mul, iN_pred, iN_pred', iN_lt, iN_le, iN_eq, iN_nat, nlt_t, nlt_f, nle_t, nle_f, neq_t, neq_f, List.length_nil, List.length_cons, or_false, false_or, or_self, not_false_eq_true, not_true_eq_false, ↓reduceIte, if_true, if_false, Bool.false_eq_true, Nat.reduceAdd, hG]
      | false =>
        have e4 : ldF (A 28) p m (k + 1) = ldF (A 28) p m k := if_neg (by rw [hb]; decide)
        rw [e4]
        simp (disch := first | omega | assumption | (simp (disch := omega) only [iN_lit, iN_add, iN_mul, iN_pred, iN_pred', iN_lt, iN_le, iN_eq, iN_nat, nlt_t, nlt_f, nle_t, nle_f, neq_t, neq_f, List.length_nil, List.length_cons, or_false, false_or, or_self, not_false_eq_true, not_true_eq_false, ↓reduceIte, if_true, if_false, Bool.false_eq_true, Nat.reduceAdd])) only [fX4_wantsWith_L14, ↓bK_11, ↓zK _, ↓bR_35_0, ↓bR_35_2, fX4_wantsWith_J45_14, ↓hb_of (c_groundSize), ↓hb_some, ↓bd_some, ↓letE_eq, h_z0, h_z1, h_zi0, h_zi1, ↓hb_of (isIn_n hb), iN_lit, iN_add, iN_mul, iN_pred, iN_pred', iN_lt, iN_le, iN_eq, iN_nat, nlt_t, nlt_f, nle_t, nle_f, neq_t, neq_f, List.length_nil, List.length_cons, or_false, false_or, or_self, not_false_eq_true, not_true_eq_false, ↓reduceIte, if_true, if_false, Bool.false_eq_true, Nat.reduceAdd, hG])
    (fun n' => by simp (disch := first | omega | assumption | (simp (disch := omega) only [iN_lit, iN_add, iN_mul, iN_pred, iN_pred', iN_lt, iN_le, iN_eq, iN_nat, nlt_t, nlt_f, nle_t, nle_f, neq_t, neq_f, List.length_nil, List.length_cons, or_false, false_or, or_self, not_false_eq_true, not_true_eq_false, ↓reduceIte, if_true, if_false, Bool.false_eq_true, Nat.reduceAdd])) only [fX4_wantsWith_L14, ↓bK_11, ↓zK _, ↓bR_35_0, ↓bR_35_2, fX4_wantsWith_J45_14, ↓hb_of (c_groundSize), ↓hb_of (isIn_y _), ↓hb_of (isIn_n _), ↓hb_of (c_isIn_gs _ _), ↓hb_of (c_lend _ _ _), ↓hb_some, ↓bd_some, ↓letE_eq, h_z0, h_z1, h_zi0, h_zi1, iN_lit, iN_add, iN_mul, iN_pred, iN_pred', iN_lt, iN_le, iN_eq, iN_nat, nlt_t, nlt_f, nle_t, nle_f, neq_t, neq_f, List.length_nil, List.length_cons, or_false, false_or, or_self, not_false_eq_true, not_true_eq_false, ↓reduceIte, if_true, if_false, Bool.false_eq_true, Nat.reduceAdd, hG]) FU (by unfold FU; omega)
  have e7 : ldF (A 28) p m 0 = A 28 := rfl
  rw [e7] at key
  unfold fX4_wantsWith
  simp only [iN_lit] at key ⊢
  rw [bR_35_2, bR_35_1, bK_31, hb_of e1, key]
  simp (disch := first | omega | assumption | (simp (disch := omega) only [iN_lit, iN_add, iN_mul, iN_pred, iN_pred', iN_lt, iN_le, iN_eq, iN_nat, nlt_t, nlt_f, nle_t, nle_f, neq_t, neq_f, List.length_nil, List.length_cons, or_false, false_or, or_self, not_false_eq_true, not_true_eq_false, ↓reduceIte, if_true, if_false, Bool.false_eq_true, Nat.reduceAdd])) only [fX4_wantsWith, ↓zK _, ↓bK_11, ↓bR_35_2, ↓bR_35_1, ↓bR_35_0, ↓hb_of (c_presentRule), ↓hb_some, ↓bd_some, ↓letE_eq, h_z0, h_z1, h_zi0, h_zi1, ↓hb_of f1, ↓hb_of f4, iN_lit, iN_add, iN_mul, iN_pred, iN_pred', iN_lt, iN_le, iN_eq, iN_nat, nlt_t, nlt_f, nle_t, nle_f, neq_t, neq_f, List.length_nil, List.length_cons, or_false, false_or, or_self, not_false_eq_true, not_true_eq_false, ↓reduceIte, if_true, if_false, Bool.false_eq_true, Nat.reduceAdd]
  rfl
theorem MKK.alone2 (m : MKK A J B G P W ru pu) (i1 : frJ J J') (i2 : frRB B B') (i3 : CP Z (B' 29)) (hz : OK G P Z) (hp : p < P) : ∃ J2 B2 rdv2, fX12_goAlone 45 (iN p) (encC I E L pr ot (encR J' B' M rdv' ru T)) = some ((), (encC I E L pr ot (encR J2 B2 M rdv2 ru T))) ∧ frJ J J2 ∧ frRB B B2 ∧ CP (dyP A pu G p Z) (B2 29) ∧ frB 29 B' B2 := by
  obtain ⟨h1, h2, ⟨nr, h3, h4⟩, h5⟩ := m
  obtain ⟨J2, B2, rdv2, e1, e2, e4, e5⟩ := r_goAlone (I := I) (E := E) (L := L) (pr := pr) (ot := ot) (M := M) (rdv := rdv') (ru := ru) (T := T) (J := J') (B := B') (R := B 21) (h1.q i1.k.r i2) h3 ((i1.k.r 23 (by omega)).trans h4) (by subst h2; exact i2 21 (by omega)) (Or.inl h2) hp i3 hz
  exact ⟨J2, B2, rdv2, e1, i1.trans e2, i2.trans e4.r, e5, e4⟩
theorem MKK.alones2 (mk : MKK A J B G P W ru pu) (i1 : frJ J J') (i2 : frRB B B') (i3 : CP Z (B' 29)) (hz : OK G P Z) (hp : p < P) (hn : n < 2000) : ∃ J2 B2 rdv2, (∀ kx : PH → Option (Unit × PH), fX12_goWith_L52 45 (iN p) (iN n) kx FU (iN 0) (encC I E L pr ot (encR J' B' M rdv' ru T)) = kx (encC I E L pr ot (encR J2 B2 M rdv2 ru T))) ∧ frJ J J2 ∧ frRB B B2 ∧ CP (psZ A pu G p Z n) (B2 29) ∧ frB 29 B' B2 := by
  have h8 := mk.1.2.2.2.1
  have h6 := mk.1.2.2.2.2.1
  have key := lp_k (fun (c : PH → Option (Unit × PH)) n' k (q : (Nat → Int32) × (Nat → Nat → Int32) × Value) => fX12_goWith_L52 45 (iN p) (iN n) c n' (iN k) (encC I E L pr ot (encR (q.1) (q.2.1) M (q.2.2) ru T))) (fun c q => c (encC I E L pr ot (encR (q.1) (q.2.1) M (q.2.2) ru T))) (fun k q => frJ J q.1 ∧ frRB B q.2.1 ∧ CP (psZ A pu G p Z k) (q.2.1 29) ∧ frB 29 B' q.2.1) n
    (fun k q hk hi => by
      obtain ⟨J1, B1, rdv1⟩ := q
      obtain ⟨k1, k2, k3, k4⟩ := hi
      obtain ⟨J2, B2, rdv2, d1, d2, d3, d4, d5⟩ := mk.alone2 (I := I) (E := E) (L := L) (pr := pr) (ot := ot) (M := M) (T := T) (rdv' := rdv1) k1 k2 k3 (hz.ps h8 (by omega) k) hp
      refine ⟨(J2, B2, rdv2), ⟨d2, d3, d4, k4.tr d5⟩, fun c n' => ?_⟩
      dsimp only
      simp (disch := first | omega | assumption | (simp (disch := omega) only [iN_lit, iN_add, iN_mul, iN_pred, iN_pred', iN_lt, iN_le, iN_eq, iN_nat, nlt_t, nlt_f, nle_t, nle_f, neq_t, neq_f, List.length_nil, List.length_cons, or_false, false_or, or_self, not_false_eq_true, not_true_eq_false, ↓reduceIte, if_true, if_false, Bool.false_eq_true, Nat.reduceAdd])) only [fX12_goWith_L52, ↓brK, fX12_goWith_J43_15, ↓hb_some, ↓bd_some, ↓letE_eq, h_z0, h_z1, h_zi0, h_zi1, ↓hb_of d1, iN_lit, iN_add, iN_mul, iN_pred, iN_pred', iN_lt, iN_le, iN_eq, iN_nat, nlt_t, nlt_f, nle_t, nle_f, neq_t, neq_f, List.length_nil, List.length_cons, or_false, false_or, or_self, not_false_eq_true, not_true_eq_false, ↓reduceIte, if_true, if_false, Bool.false_eq_true, Nat.reduceAdd])
    (fun q hi c n' => by
      simp (disch := first | omega | assumption | (simp (disch := omega) only [iN_lit, iN_add, iN_mul, iN_pred, iN_pred', iN_lt, iN_le, iN_eq, iN_nat, nlt_t, nlt_f, nle_t, nle_f, neq_t, neq_f, List.length_nil, List.length_cons, or_false, false_or, or_self, not_false_eq_true, not_true_eq_false, ↓reduceIte, if_true, if_false, Bool.false_eq_true, Nat.reduceAdd])) only [fX12_goWith_L52, ↓brK, fX12_goWith_J43_15, ↓hb_some, ↓bd_some, ↓letE_eq, h_z0, h_z1, h_zi0, h_zi1, iN_lit, iN_add, iN_mul, iN_pred, iN_pred', iN_lt, iN_le, iN_eq, iN_nat, nlt_t, nlt_f, nle_t, nle_f, neq_t, neq_f, List.length_nil, List.length_cons, or_false, false_or, or_self, not_false_eq_true, not_true_eq_false, ↓reduceIte, if_true, if_false, Bool.false_eq_true, Nat.reduceAdd]) n 0 (J', B', rdv') (by omega) ⟨i1, i2, i3, frB.rf⟩
  obtain ⟨⟨J2, B2, rdv2⟩, ⟨k1, k2, k3, k5⟩, k4⟩ := key
  exact ⟨J2, B2, rdv2, fun kx => k4 kx FU (by unfold FU; omega), k1, k2, k3, k5⟩
theorem MKK.go2 (mk : MKK A J B G P W ru pu) (i1 : frJ J J') (i2 : frRB B B') (hp : p < P) (hn : n < 2000) : ∃ J2 B2 rdv2, fX12_goWith 45 (iN p) m (iN n) (encC I E L pr ot (encR J' B' M rdv' ru T)) = some ((), (encC I E L pr ot (encR J2 B2 M rdv2 ru T))) ∧ frJ J J2 ∧ frRB B B2 ∧ CP (psZ A pu G p (ldF (A 28) p m G) n) (B2 29) ∧ frB 29 B' B2 := by
  have h8 := mk.1.2.2.2.1
  have h6 := mk.1.2.2.2.2.1
  have hz := mk.2.2.2.1
  obtain ⟨X, l1, l2, l3⟩ := mk.layQ (I := I) (E := E) (L := L) (pr := pr) (ot := ot) (J' := J') (M := M) (rdv' := rdv') (T := T) i2
  have hG : J' 1 = iN G := (i1.rj 1 (by omega)).trans mk.1.1
  have key := lp_k (fun (kx : PH → Option (Unit × PH)) n' k (a : Nat → Int32) => fX12_goWith_L15 45 (iN p) m (iN n) kx n' (iN k) (encC I E L pr ot (encR J' (u1 B' 29 a) M rdv' ru T))) (fun kx a => kx (encC I E L pr ot (encR J' (u1 B' 29 a) M rdv' ru T))) (fun k a => CP (ldF (A 28) p m k) a) G
    (fun k a hk hi => by
      cases hb : hasB m k with
      | true =>
        have e4 : ldF (A 28) p m (k + 1) = upd (ldF (A 28) p m k) (32 + p * 8 + k) 0 := if_pos hb
        have e5 := r_hold (I := I) (E := E) (L := L) (pr := pr) (ot := ot) (J := J') (B := u1 B' 29 a) (M := M) (rdv := rdv') (ru := ru) (T := T) (oa := 61) (p := p) (g := k) (Or.inr rfl) (by omega) (by omega)
        have e6 : (u1 B' 29 a) (fb 61) = a := by rw [fb_61, u1_eq, if_pos rfl]
        rw [e6, fb_61, u1_u1] at e5
        refine ⟨hlA a p k, by rw [e4]; exact hi.hl (by omega) (by omega), fun kx n' => ?_⟩
        simp (disch := first | omega | assumption | (simp (disch := omega) only [iN_lit, iN_add, iN_mul, iN_pred, iN_pred', iN_lt, iN_le, iN_eq, iN_nat, nlt_t, nlt_f, nle_t, nle_f, neq_t, neq_f, List.length_nil, List.length_cons, or_false, false_or, or_self, not_false_eq_true, not_true_eq_false, ↓reduceIte, if_true, if_false, Bool.false_eq_true, Nat.reduceAdd])) only [fX12_goWith_L15, ↓brR_29, ↓brA_29, ↓brS_29, ↓brG_1, fX12_goWith_J43_15, ↓hb_some, ↓bd_some, ↓letE_eq, h_z0, h_z1, h_zi0, h_zi1, ↓hb_of e5, ↓hb_of (has_y hb), iN_lit, iN_add, iN_mul, iN_pred, iN_pred', iN_lt, iN_le, iN_eq, iN_nat, nlt_t, nlt_f, nle_t, nle_f, neq_t, neq_f, List.length_nil, List.length_cons, or_false, false_or, or_self, not_false_eq_true, not_true_eq_false, ↓reduceIte, if_true, if_false, Bool.false_eq_true, Nat.reduceAdd, hG]
      | false =>
        have e4 : ldF (A 28) p m (k + 1) = ldF (A 28) p m k := if_neg (by rw [hb]; decide)
        refine ⟨a, by rw [e4]; exact hi, fun kx n' => ?_⟩
        simp (disch := first | omega | assumption | (simp (disch := omega) only [iN_lit, iN_add, iN_mul, iN_pred, iN_pred', iN_lt, iN_le, iN_eq, iN_nat, nlt_t, nlt_f, nle_t, nle_f, neq_t, neq_f, List.length_nil, List.length_cons, or_false, false_or, or_self, not_false_eq_true, not_true_eq_false, ↓reduceIte, if_true, if_false, Bool.false_eq_true, Nat.reduceAdd])) only [fX12_goWith_L15, ↓brR_29, ↓brA_29, ↓brS_29, ↓brG_1, fX12_goWith_J43_15, ↓hb_some, ↓bd_some, ↓letE_eq, h_z0, h_z1, h_zi0, h_zi1, ↓hb_of (has_n hb), iN_lit, iN_add, iN_mul, iN_pred, iN_pred', iN_lt, iN_le, iN_eq, iN_nat, nlt_t, nlt_f, nle_t, nle_f, neq_t, neq_f, List.length_nil, List.length_cons, or_false, false_or, or_self, not_false_eq_true, not_true_eq_false, ↓reduceIte, if_true, if_false, Bool.false_eq_true, Nat.reduceAdd, hG])
    (fun a hi kx n' => by simp (disch := first | omega | assumption | (simp (disch := omega) only [iN_lit, iN_add, iN_mul, iN_pred, iN_pred', iN_lt, iN_le, iN_eq, iN_nat, nlt_t, nlt_f, nle_t, nle_f, neq_t, neq_f, List.length_nil, List.length_cons, or_false, false_or, or_self, not_false_eq_true, not_true_eq_false, ↓reduceIte, if_true, if_false, Bool.false_eq_true, Nat.reduceAdd])) only [fX12_goWith_L15, ↓brR_29, ↓brA_29, ↓brS_29, ↓brG_1, fX12_goWith_J43_15, ↓hb_of (has_y _), ↓hb_of (has_n _), ↓hb_of (r_hold _ _ _), ↓hb_some, ↓bd_some, ↓letE_eq, h_z0, h_z1, h_zi0, h_zi1, iN_lit, iN_add, iN_mul, iN_pred, iN_pred', iN_lt, iN_le, iN_eq, iN_nat, nlt_t, nlt_f, nle_t, nle_f, neq_t, neq_f, List.length_nil, List.length_cons, or_false, false_or, or_self, not_false_eq_true, not_true_eq_false, ↓reduceIte, if_true, if_false, Bool.false_eq_true, Nat.reduceAdd, hG]) G 0 X (by omega) l2
  obtain ⟨a, k1, k2⟩ := key
  have hzk := hz.ld (m := m) h8 h6 hp G (Nat.le_refl _)
  obtain ⟨J2, B2, rdv2, f1, f2, f3, f4, f5⟩ := mk.alones2 (I := I) (E := E) (L := L) (pr := pr) (ot := ot) (J' := J') (B' := u1 B' 29 a) (M := M) (rdv' := rdv') (T := T) (n := n) i1 (i2.trans frRB.lay) (by rw [u1_eq, if_pos rfl]; exact k1) hzk hp hn
  refine ⟨J2, B2, rdv2, ?_, f2, f3, f4, frB.u.tr f5⟩
  have k3 := k2 (fun h4 => fX12_goWith_L52 45 (iN p) (iN n) (fun h5 => some ((), h5)) FU (0 : Int32) h4) FU (by unfold FU; omega)
  unfold fX12_goWith
  simp only [iN_lit] at k3 ⊢
  rw [brR_0, brR_29, hb_of l1, k3, f1]
theorem MKK.with2 (mk : MKK A J B G P W ru pu) (i1 : frJ J J') (i2 : frRB B B') (hp : p < P) (hn : n < 2000) : ∃ J2 B2 rdv2, fX12_hadWith 45 (iN p) m (iN n) (encC I E L pr ot (encR J' B' M rdv' ru T)) = some (wwS A pu G W p m n (A 28), (encC I E L pr ot (encR J2 B2 M rdv2 ru T))) ∧ frJ J J2 ∧ frRB B B2 ∧ frB 29 B' B2 := by
  have h8 := mk.1.2.2.2.1
  have h6 := mk.1.2.2.2.2.1
  obtain ⟨J2, B2, rdv2, f1, f2, f3, f4, f5⟩ := mk.go2 (I := I) (E := E) (L := L) (pr := pr) (ot := ot) (M := M) (rdv' := rdv') (T := T) (m := m) (n := n) i1 i2 hp hn
  have g1 := mk.had (I := I) (E := E) (L := L) (pr := pr) (ot := ot) (M := M) (rdv' := rdv2) (T := T) f2.rj f3 f4 ((mk.2.2.2.1.ld (m := m) h8 h6 hp G (Nat.le_refl _)).ps h8 (by omega) n) hp
  refine ⟨J2, B2, rdv2, ?_, f2, f3, f5⟩
  unfold fX12_hadWith
  rw [brK, hb_of f1, brR_29, brK, hb_of g1]
  rfl
end WJ
