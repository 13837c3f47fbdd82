/-! CALLS: days, undo, keep, again -/
theorem CP.ext {Z a a' : Nat → Int32} (hc : CP Z a) (y3 : ∀ k, k < 88 → a' k = a k) : CP Z a' :=
  ⟨fun k hk => by rw [y3 k (by omega)]; exact hc.1 k hk, fun p hp => by rw [y3 _ (by omega)]; exact hc.2.1 p hp, fun p g hp hg hb => by rw [y3 _ (by omega)]; exact hc.2.2.1 p g hp hg hb, by rw [y3 _ (by omega)]; exact hc.2.2.2.1, by rw [y3 _ (by omega)]; exact hc.2.2.2.2⟩
section AD
variable {I A E I' A' : Nat → Nat → Int32} {L L' : Nat → Int64} {pr ot s : Nat} {J J' : Nat → Int32} {B B' : Nat → Nat → Int32} {M M' : Nat → Int64} {rdv : Value} {ru : Nat} {T : PH} {G P W p g n nr : Nat} {Z R : Nat → Int32} {x y : Int32} {out : Nat → Int64} {pu : (Nat → Int32) → Int32}
theorem INV.now (h : INV s I A L pr ot J B M ru G P W) (i : ∀ o k, ¬ (o = 7 ∧ (k = 1 ∨ k = 2)) → ¬ (o = 9 ∧ k = 1) → I' o k = I o k) (a : ∀ x, ((x ≤ 20 ∧ x ≠ 8) ∨ x = 23 ∨ x = 24 ∨ x = 36 ∨ x = 37 ∨ x = 38) → A' x = A x) (a8 : ∀ i, i < 2 → rwC (A' 8) (12 + i) = rwC (A 8) (12 + i)) (a32 : nz (A' 32))
    (j : ∀ x, (x = 1 ∨ x = 2 ∨ x = 3 ∨ x = 10 ∨ x = 23 ∨ x = 37 ∨ x = 47) → J' x = J x) (b : ∀ x, ((4 ≤ x ∧ x ≤ 9) ∨ x = 21 ∨ x = 34 ∨ x = 35 ∨ x = 36 ∨ x = 48 ∨ x = 49 ∨ x = 50) → B' x = B x) (z1 : OK G P (A' 28)) (z2 : CP (A' 28) (B' 0)) (p : PAS I' A' J' B' G P) (r : RWS I' L' J' M') : INV (s + 1) I' A' L' pr ot J' B' M' ru G P W := by
  have hI := h
  obtain ⟨h1, h2, hpl, h3, h4, h5, h6, h7, h8, h9, h10, h11, h12⟩ := h
  exact hI.mk2 (fun o k ho hk => i o k (by omega) (by omega)) (fun x hx => a x (by omega)) (fun x hx => j x (by omega)) (fun x hx => b x (by omega)) z1 z2 a32 (h6.fr (i 1 1 (by omega) (by omega)) (a 2 (by omega)) (j 10 (by omega)) (b 9 (by omega))) p (h9.fr (i 7 3 (by omega) (by omega)) a8 (j 47 (by omega)) (fun x hx => b x (by omega))) (h10.fr (i 35 13 (by omega) (by omega)) (fun x hx => a x (by omega)) (j 37 (by omega)) (fun x hx => b x (by omega))) r
theorem INV.rule (h : INV s I A L pr ot J B M ru G P W) : (pr = 19 ∨ pr = 23) ∧ ru = 56 ∧ ∃ pu n, n ≤ 40 ∧ RU I A pr pu ∧ MUR n (B (rf ru)) pu ∧ J 23 = iN n := by
  obtain ⟨h1, h2, hpl, h3, h4, h5, h6, ⟨k1, k2, pu, n, k3, k4, k5, k6⟩, -⟩ := h
  refine ⟨by omega, k2, pu, n, k3, k4, ?_, k6⟩
  subst k2
  exact k5
theorem c_daysJ (hF : FS I G P W) (hT : TS A W) (hro : pr = 19 ∨ pr = 23) (hr : RU I A pr pu) (hv : ∀ p, p < 6 → okH (A 28) p) (hn : n < 2000) :
    ∃ B, fX11_days_J27 0 (iN n) (encC I A L pr ot T) = some (sm (fun p => bc (waS A (paZ A pu G P n (A 28)) W p)) P, (encC (u2 I 9 1 (iN 2)) B (vp_updL (vp_updL L 0 (huS (paZ A pu G P n (A 28)) P).toInt64) 1 (spC A pu G W n (A 28) P).toInt64) pr ot T)) ∧ frL 27 pr A B ∧ B 28 = paZ A pu G P n (A 28) := by
  obtain ⟨B, e1, e2, e3⟩ := c_spend (L := L) (pr := pr) (ot := ot) (T := T) (o := 27) hF hT (Or.inl rfl) hro hr hv hn
  have e5 : ∀ x, 15 ≤ x → x ≤ 18 → B x = A x := fun x x1 x2 => e2 x (by omega) (by omega) (by omega) (by omega)
  have hF2 : FS (u2 I 9 1 (iN 0)) G P W := hF
  have hF3 : FS (u2 I 9 1 (iN 2)) G P W := hF
  have f1 := c_humoursOfAll (I := u2 I 9 1 (iN 0)) (A := B) (L := L) (pr := pr) (ot := ot) (T := T) (o := 27) hF2 (Or.inl rfl)
  have f2 := c_wantsOfAll (I := u2 I 9 1 (iN 2)) (A := B) (L := vp_updL (vp_updL L 0 (huS (paZ A pu G P n (A 28)) P).toInt64) 1 (spC A pu G W n (A 28) P).toInt64) (pr := pr) (ot := ot) (T := T) (o := 27) hF3 (hT.congr e5) (Or.inl rfl)
  have e4 : (fun p => bc (waS B (B (27 + 1)) W p)) = (fun p => bc (waS A (paZ A pu G P n (A 28)) W p)) := by
    funext p
    rw [waS_congr e5, e3]
  rw [e4] at f2
  rw [e3] at f1
  refine ⟨B, ?_, e2, e3⟩
  simp (disch := first | omega | assumption | (simp (disch := omega) only [iN_lit, iN_add, iN_mul, iN_pred, iN_pred', iN_lt, iN_le, iN_eq, iN_nat, nlt_t, nlt_f, nle_t, nle_f, neq_t, neq_f, List.length_nil, List.length_cons, or_false, false_or, or_self, not_false_eq_true, not_true_eq_false, ↓reduceIte, if_true, if_false, Bool.false_eq_true, Nat.reduceAdd])) only [fX11_days_J27, ↓bK_11, ↓zK _, ↓bK_9, ↓bR_0_8, ↓bR_0_7, ↓bR_0_6, ↓hb_of (c_presentRule), ↓hb_of (c_start), ↓hb_of (c_add _), ↓hb_some, ↓bd_some, ↓letE_eq, h_z0, h_z1, h_zi0, h_zi1, ↓hb_of e1, ↓hb_of f1, ↓hb_of f2, iN_lit, iN_add, iN_mul, iN_pred, iN_pred', iN_lt, iN_le, iN_eq, iN_nat, nlt_t, nlt_f, nle_t, nle_f, neq_t, neq_f, List.length_nil, List.length_cons, or_false, false_or, or_self, not_false_eq_true, not_true_eq_false, ↓reduceIte, if_true, if_false, Bool.false_eq_true, Nat.reduceAdd]
theorem r_daysJ (hM : FM A J B G P W) (hu : MUR nr R pu) (hJ : J 23 = iN nr) (hR : B (rf ru) = R) (hru : ru = 56 ∨ ru = 57) (hc : CP Z (B 0)) (hz : OK G P Z) (hn : n < 2000) :
    ∃ J' B' rdv', fX12_days_J29 45 (iN n) (encC I E L pr ot (encR J B M rdv ru T)) = some (sm (fun p => bc (waS A (daN A pu G P Z n) W p)) P, (encC I E L pr ot (encR J' B' (vp_updL (vp_updL M 0 (huS (daN A pu G P Z n) P).toInt64) 1 (sm (fun k => sm (cmD A pu G W (daN A pu G P Z k)) P) n).toInt64) rdv' ru T))) ∧ J' 12 = iN 2 ∧ (∀ x, x ≠ 12 → x ≠ 15 → x ≠ 16 → x ≠ 17 → x ≠ 18 → x ≠ 24 → x ≠ 31 → J' x = J x) ∧ frB 0 B B' ∧ CP (daN A pu G P Z n) (B' 0) := by
  have h8 := hM.2.2.2.1
  have h6 := hM.2.2.2.2.1
  obtain ⟨J', B', rdv', e1, e2, e3, e4, e5⟩ := r_goDays (I := I) (E := E) (L := L) (pr := pr) (ot := ot) (M := M) (ru := ru) (T := T) (rdv := rdv) (oa := 46) hM hu hJ hR hru (Or.inl rfl) hc hz hn
  rw [fb_46] at e4 e5
  have hM' : FM A J' B' G P W := hM.frk e2 e4 (Or.inl rfl)
  have hM1 : FM A (u1 J' 12 (iN 0)) B' G P W := hM'.j0 (by decide)
  have hz' := hz.dn (A := A) (pu := pu) h8 h6 n
  have f1 := r_humoursOfAll (I := I) (E := E) (L := L) (pr := pr) (ot := ot) (M := M) (ru := ru) (T := T) (rdv := rdv') (oa := 46) hM1 (Or.inl rfl) e5
  have f2 := r_tell (I := I) (E := E) (L := L) (pr := pr) (ot := ot) (M := M) (ru := ru) (T := T) (rdv := rdv') (J := u1 J' 12 (iN 0)) (B := B') (v := (huS (daN A pu G P Z n) P).toInt64) (n := 0) rfl (by decide)
  have f3 := r_tell (I := I) (E := E) (L := L) (pr := pr) (ot := ot) (M := vp_updL M 0 (huS (daN A pu G P Z n) P).toInt64) (ru := ru) (T := T) (rdv := rdv') (J := u1 (u1 J' 12 (iN 0)) 12 (iN 1)) (B := B') (v := (sm (fun k => sm (cmD A pu G W (daN A pu G P Z k)) P) n).toInt64) (n := 1) rfl (by decide)
  have hM3 : FM A (u1 (u1 (u1 J' 12 (iN 0)) 12 (iN 1)) 12 (iN 2)) B' G P W := (hM1.j0 (by decide)).j0 (by decide)
  have f4 := r_hadByAll (I := I) (E := E) (L := L) (pr := pr) (ot := ot) (M := vp_updL (vp_updL M 0 (huS (daN A pu G P Z n) P).toInt64) 1 (sm (fun k => sm (cmD A pu G W (daN A pu G P Z k)) P) n).toInt64) (ru := ru) (T := T) (rdv := rdv') (oa := 46) hM3 (Or.inl rfl) e5 hz'.2.2.1
  have e6 : (u1 (u1 J' 12 (iN 0)) 12 (iN 1)) 31 = sm (fun k => sm (cmD A pu G W (daN A pu G P Z k)) P) n := e3
  refine ⟨u1 (u1 (u1 J' 12 (iN 0)) 12 (iN 1)) 12 (iN 2), B', rdv', ?_, rfl, fun x x1 x2 x3 x4 x5 x6 x7 => ?_, e4, e5⟩
  · simp (disch := first | omega | assumption | (simp (disch := omega) only [iN_lit, iN_add, iN_mul, iN_pred, iN_pred', iN_lt, iN_le, iN_eq, iN_nat, nlt_t, nlt_f, nle_t, nle_f, neq_t, neq_f, List.length_nil, List.length_cons, or_false, false_or, or_self, not_false_eq_true, not_true_eq_false, ↓reduceIte, if_true, if_false, Bool.false_eq_true, Nat.reduceAdd])) only [fX12_days_J29, ↓brK, ↓brR_0, ↓brA_0, ↓brS_0, ↓brG_31, ↓brW_12, ↓hb_some, ↓bd_some, ↓letE_eq, h_z0, h_z1, h_zi0, h_zi1, ↓hb_of e1, ↓hb_of f1, ↓hb_of f2, ↓hb_of f3, ↓hb_of f4, iN_lit, iN_add, iN_mul, iN_pred, iN_pred', iN_lt, iN_le, iN_eq, iN_nat, nlt_t, nlt_f, nle_t, nle_f, neq_t, neq_f, List.length_nil, List.length_cons, or_false, false_or, or_self, not_false_eq_true, not_true_eq_false, ↓reduceIte, if_true, if_false, Bool.false_eq_true, Nat.reduceAdd, e6]
  · rw [u1_eq, if_neg x1, u1_eq, if_neg x1, u1_eq, if_neg x1]
    exact e2 x x2 x3 x4 x5 x6 x7
end AD
