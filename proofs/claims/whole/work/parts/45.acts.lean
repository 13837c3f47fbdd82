/-! CALLS: days, undo, keep, again: class and model -/
section AQ
variable {I A E I' A' : Nat → Nat → Int32} {L L' : Nat → Int64} {pr ot s : Nat} {J J' : Nat → Int32} {B B' : Nat → Nat → Int32} {M M' : Nat → Int64} {rdv : Value} {ru : Nat} {T : PH} {G P W p g n nr : Nat} {Z R : Nat → Int32} {x y : Int32} {out : Nat → Int64} {pu : (Nat → Int32) → Int32}
theorem le_pos {n : Nat} (h : 0 < n) (hn : n < 2147483648) : (iN n ≤ iN 0) = False := by
  rw [iN_le (by omega) (by omega)]
  exact eq_false (by omega)
theorem RWS_2 {v w : Int64} (h1 : I 9 1 = iN 2) (h2 : J 12 = iN 2) : RWS I (vp_updL (vp_updL L 0 v) 1 w) J (vp_updL (vp_updL M 0 v) 1 w) :=
  ⟨2, by decide, h1, h2, fun k hk => ((row_2 (n := iN 2) rfl).2 k hk).trans ((row_2 (n := iN 2) rfl).2 k hk).symm⟩
theorem p_days (h : INV s I A L pr ot J B M ru G P W) (x : Int32) : pairG s I A L pr ot J B M rdv ru out (fX11_days 0 x) (fX12_days 45 x) := by
  obtain ⟨nx, sz, hn, hs, e1, e2, e3⟩ := h.past
  have hI := h
  obtain ⟨hpr, hru, pu, nr, hnr, hr, hu, hJ⟩ := h.rule
  obtain ⟨hF, hM, hpl, hz, hc, hn2, htx, hrl, hpas, -⟩ := h
  have hT := hM.TS
  have h8 := hM.2.2.2.1
  have h6 := hM.2.2.2.2.1
  have hM0 : FM A (u1 J 13 0) B G P W := hM.j0 (by decide)
  rcases arg_le 60 (by decide) x with ⟨n, hn60, rfl⟩ | hx
  · have ep : paZ A pu G P n (A 28) = daN A pu G P (A 28) n := paZ_daN h8 h6
    have es : spC A pu G W n (A 28) P = sm (fun k => sm (cmD A pu G W (daN A pu G P (A 28) k)) P) n := cmS_day h8 h6 hT
    have hz' := hz.dn (A := A) (pu := pu) h8 h6 n
    by_cases h0 : n = 0
    · subst h0
      obtain ⟨A1, f1, f2, f3⟩ := c_daysJ (I := I) (A := A) (L := L) (pr := pr) (ot := ot) (T := encR J B M rdv ru [.inl (.long, (1, .inr (.inl out)))]) hF hT hpr hr hz.2.2.1 (n := 0) (by decide)
      obtain ⟨J1, B1, rdv1, g1, g2, g3, g4, g5⟩ := r_daysJ (I := u2 I 9 1 (iN 2)) (E := A1) (L := vp_updL (vp_updL L 0 (huS (paZ A pu G P 0 (A 28)) P).toInt64) 1 (spC A pu G W 0 (A 28) P).toInt64) (pr := pr) (ot := ot) (M := M) (rdv := rdv) (ru := ru) (T := [.inl (.long, (1, .inr (.inl out)))]) hM0 hu hJ rfl (Or.inl hru) hc hz (n := 0) (by decide)
      rw [ep, es] at f1
      rw [ep, es] at g1
      refine ⟨sm (fun p => bc (waS A (daN A pu G P (A 28) 0) W p)) P, u2 I 9 1 (iN 2), A1, vp_updL (vp_updL L 0 (huS (daN A pu G P (A 28) 0) P).toInt64) 1 (sm (fun k => sm (cmD A pu G W (daN A pu G P (A 28) k)) P) 0).toInt64, pr, ot, J1, B1, vp_updL (vp_updL M 0 (huS (daN A pu G P (A 28) 0) P).toInt64) 1 (sm (fun k => sm (cmD A pu G W (daN A pu G P (A 28) k)) P) 0).toInt64, rdv1, ru, G, P, W, ?_, ?_, hI.now (I' := u2 I 9 1 (iN 2)) (A' := A1) (J' := J1) (B' := B1) (fun o k _ h2 => ?_) (fun x hx => f2 x (by omega) (by omega) (by omega) (by omega)) (fun i hi => ?_) ?_ (fun x hx => ?_) (fun x hx => g4 x (by omega) (by omega) (by omega)) (by rw [f3, ep]; exact hz') (by rw [f3, ep]; exact g5) (hpas.fr rfl rfl (f2 8 (by omega) (by omega) (by omega) (by omega)) ?_ (g4 26 (by omega) (by omega) (by omega))) (RWS_2 rfl g2)⟩
      · unfold EH
        simp (disch := first | omega | assumption | (simp (disch := omega) only [iN_lit, iN_add, iN_mul, iN_pred, iN_pred', iN_lt, iN_le, iN_eq, iN_nat, nlt_t, nlt_f, nle_t, nle_f, neq_t, neq_f, List.length_nil, List.length_cons, or_false, false_or, or_self, not_false_eq_true, not_true_eq_false, ↓reduceIte, if_true, if_false, Bool.false_eq_true, Nat.reduceAdd])) only [fX11_days, ↓bK_7, ↓bR_0_5, ↓bR_0_8, fX11_days_J27, ↓bK_11, ↓zK _, ↓bK_9, ↓bR_0_7, ↓bR_0_6, ↓hb_of (within_y _ _ _), ↓hb_of (within_n _), ↓hb_of (c_remember _ _ _ _ _), ↓hb_of (c_presentRule), ↓hb_of (c_start), ↓hb_of (c_humoursOfAll _ _), ↓hb_of (c_add _), ↓hb_of (c_wantsOfAll _ _ _), ↓hb_some, ↓bd_some, ↓letE_eq, h_z0, h_z1, h_zi0, h_zi1, iN_lit, iN_add, iN_mul, iN_pred, iN_pred', iN_lt, iN_le, iN_eq, iN_nat, nlt_t, nlt_f, nle_t, nle_f, neq_t, neq_f, List.length_nil, List.length_cons, or_false, false_or, or_self, not_false_eq_true, not_true_eq_false, ↓reduceIte, if_true, if_false, Bool.false_eq_true, Nat.reduceAdd] at f1 ⊢
        exact f1
      · unfold EH
        simp (disch := first | omega | assumption | (simp (disch := omega) only [iN_lit, iN_add, iN_mul, iN_pred, iN_pred', iN_lt, iN_le, iN_eq, iN_nat, nlt_t, nlt_f, nle_t, nle_f, neq_t, neq_f, List.length_nil, List.length_cons, or_false, false_or, or_self, not_false_eq_true, not_true_eq_false, ↓reduceIte, if_true, if_false, Bool.false_eq_true, Nat.reduceAdd])) only [fX12_days, ↓brK, ↓brR_0, ↓brA_0, ↓brS_0, ↓brW_13, ↓hb_of (in_y _ _ _), ↓hb_of (in_n _), ↓hb_some, ↓bd_some, ↓letE_eq, h_z0, h_z1, h_zi0, h_zi1, iN_lit, iN_add, iN_mul, iN_pred, iN_pred', iN_lt, iN_le, iN_eq, iN_nat, nlt_t, nlt_f, nle_t, nle_f, neq_t, neq_f, List.length_nil, List.length_cons, or_false, false_or, or_self, not_false_eq_true, not_true_eq_false, ↓reduceIte, if_true, if_false, Bool.false_eq_true, Nat.reduceAdd] at g1 ⊢
        exact g1
      · rw [u2_eq, if_neg h2]
      · rw [f2 8 (by omega) (by omega) (by omega) (by omega)]
      · rw [f2 32 (by omega) (by omega) (by omega) (by omega)]; exact hn2
      · rw [g3 x (by omega) (by omega) (by omega) (by omega) (by omega) (by omega) (by omega), u1_eq, if_neg (by omega)]
      · rw [g3 27 (by omega) (by omega) (by omega) (by omega) (by omega) (by omega) (by omega)]; rfl
    · have hpos : (iN n ≤ iN 0) = False := le_pos (by omega) (by omega)
      have c1 := c_remember (I := I) (A := A) (L := L) (pr := pr) (ot := ot) (T := encR J B M rdv ru [.inl (.long, (1, .inr (.inl out)))]) (o := 27) (Or.inl rfl) e1 e2 hn hs
      have hFr : FS (u2 (u2 I 7 1 (iN ((nx + 1) % 12))) 7 2 (iN (if sz + 1 < 12 then sz + 1 else 12))) G P W := hF
      have q8 : ∀ x, x ≠ 8 → (u1 A 8 (va_cpy (A 28) (A 8) 0 (nx * 82) 82)) x = A x := fun x hx => by rw [u1_eq, if_neg hx]
      have hrr : RU (u2 (u2 I 7 1 (iN ((nx + 1) % 12))) 7 2 (iN (if sz + 1 < 12 then sz + 1 else 12))) (u1 A 8 (va_cpy (A 28) (A 8) 0 (nx * 82) 82)) pr pu := by
        obtain ⟨m1, m, m2, m3, m4⟩ := hr
        refine ⟨m1, m, m2, ?_, ?_⟩
        · rw [u2_eq, if_neg (by omega), u2_eq, if_neg (by omega)]; exact m3
        · rw [q8 _ (by omega)]; exact m4
      obtain ⟨A1, f1, f2, f3⟩ := c_daysJ (I := u2 (u2 I 7 1 (iN ((nx + 1) % 12))) 7 2 (iN (if sz + 1 < 12 then sz + 1 else 12))) (A := u1 A 8 (va_cpy (A 28) (A 8) 0 (nx * 82) 82)) (L := L) (pr := pr) (ot := ot) (T := encR J B M rdv ru [.inl (.long, (1, .inr (.inl out)))]) hFr (hT.congr (fun x _ _ => q8 x (by omega))) hpr hrr hz.2.2.1 (n := n) (by omega)
      have hJ0 : (u1 J 13 0) 27 = iN sz := e3
      obtain ⟨Y, c2, c3⟩ := r_rem46 (I := u2 (u2 (u2 I 7 1 (iN ((nx + 1) % 12))) 7 2 (iN (if sz + 1 < 12 then sz + 1 else 12))) 9 1 (iN 2)) (E := A1) (L := vp_updL (vp_updL L 0 (huS (daN A pu G P (A 28) n) P).toInt64) 1 (sm (fun k => sm (cmD A pu G W (daN A pu G P (A 28) k)) P) n).toInt64) (pr := pr) (ot := ot) (M := M) (rdv := rdv) (ru := ru) (T := [.inl (.long, (1, .inr (.inl out)))]) (B := B) hJ0 hs
      have hMr : FM A (u1 (u1 J 13 0) 27 (iN (if sz < 12 then sz + 1 else 12))) (u1 B 26 Y) G P W := (hM0.j0 (by decide)).frame (fun _ _ _ => rfl) (fun x _ _ => by rw [u1_eq, if_neg (by omega)])
      have hrf := rf_or ru
      obtain ⟨J1, B1, rdv1, g1, g2, g3, g4, g5⟩ := r_daysJ (I := u2 (u2 (u2 I 7 1 (iN ((nx + 1) % 12))) 7 2 (iN (if sz + 1 < 12 then sz + 1 else 12))) 9 1 (iN 2)) (E := A1) (L := vp_updL (vp_updL L 0 (huS (daN A pu G P (A 28) n) P).toInt64) 1 (sm (fun k => sm (cmD A pu G W (daN A pu G P (A 28) k)) P) n).toInt64) (pr := pr) (ot := ot) (M := M) (rdv := rdv) (ru := ru) (T := [.inl (.long, (1, .inr (.inl out)))]) (J := u1 (u1 J 13 0) 27 (iN (if sz < 12 then sz + 1 else 12))) (B := u1 B 26 Y) (R := B (rf ru)) hMr hu hJ (by rw [u1_eq, if_neg (by omega)]) (Or.inl hru) hc hz (n := n) (by omega)
      have q1 : psZ (u1 A 8 (va_cpy (A 28) (A 8) 0 (nx * 82) 82)) = psZ A := by
        funext pu G p Z n
        exact psZ_congr (q8 12 (by omega)) (q8 13 (by omega)) (q8 14 (by omega)) n
      have q2 : waS (u1 A 8 (va_cpy (A 28) (A 8) 0 (nx * 82) 82)) = waS A := by
        funext Z W p
        exact waS_congr (fun x _ _ => q8 x (by omega))
      have q3 : paF (u1 A 8 (va_cpy (A 28) (A 8) 0 (nx * 82) 82)) pu G n (A 28) = paF A pu G n (A 28) := by
        funext k
        induction k with
        | zero => rfl
        | succ k ih =>
          show psZ _ pu G k (upd (paF _ pu G n (A 28) k) 80 _) n = psZ A pu G k (upd (paF A pu G n (A 28) k) 80 _) n
          rw [ih, q1]
      have q4 : paZ (u1 A 8 (va_cpy (A 28) (A 8) 0 (nx * 82) 82)) pu G P n ((u1 A 8 (va_cpy (A 28) (A 8) 0 (nx * 82) 82)) 28) = daN A pu G P (A 28) n := by
        rw [q8 28 (by omega), ← ep]
        unfold paZ
        rw [q3]
      have q5 : spC (u1 A 8 (va_cpy (A 28) (A 8) 0 (nx * 82) 82)) pu G W n ((u1 A 8 (va_cpy (A 28) (A 8) 0 (nx * 82) 82)) 28) P = sm (fun k => sm (cmD A pu G W (daN A pu G P (A 28) k)) P) n := by
        rw [q8 28 (by omega), ← es]
        unfold spC cmS
        rw [q3, q2, q1]
      rw [q4, q5, q2] at f1
      rw [q4] at f3
      refine ⟨sm (fun p => bc (waS A (daN A pu G P (A 28) n) W p)) P, u2 (u2 (u2 I 7 1 (iN ((nx + 1) % 12))) 7 2 (iN (if sz + 1 < 12 then sz + 1 else 12))) 9 1 (iN 2), A1, vp_updL (vp_updL L 0 (huS (daN A pu G P (A 28) n) P).toInt64) 1 (sm (fun k => sm (cmD A pu G W (daN A pu G P (A 28) k)) P) n).toInt64, pr, ot, J1, B1, vp_updL (vp_updL M 0 (huS (daN A pu G P (A 28) n) P).toInt64) 1 (sm (fun k => sm (cmD A pu G W (daN A pu G P (A 28) k)) P) n).toInt64, rdv1, ru, G, P, W, ?_, ?_, hI.now (I' := u2 (u2 (u2 I 7 1 (iN ((nx + 1) % 12))) 7 2 (iN (if sz + 1 < 12 then sz + 1 else 12))) 9 1 (iN 2)) (A' := A1) (J' := J1) (B' := B1) (fun o k h1 h2 => ?_) (fun x hx => ?_) (fun i hi => ?_) ?_ (fun x hx => ?_) (fun x hx => ?_) (by rw [f3]; exact hz') (by rw [f3]; exact g5) (hpas.rem hz hc hn hs e1 e2 c3 rfl rfl ((f2 8 (by omega) (by omega) (by omega) (by omega)).trans (by rw [u1_eq, if_pos rfl])) ?_ ((g4 26 (by omega) (by omega) (by omega)).trans (by rw [u1_eq, if_pos rfl]))) (RWS_2 rfl g2)⟩
      · unfold EH
        simp (disch := first | omega | assumption | (simp (disch := omega) only [iN_lit, iN_add, iN_mul, iN_pred, iN_pred', iN_lt, iN_le, iN_eq, iN_nat, nlt_t, nlt_f, nle_t, nle_f, neq_t, neq_f, List.length_nil, List.length_cons, or_false, false_or, or_self, not_false_eq_true, not_true_eq_false, ↓reduceIte, if_true, if_false, Bool.false_eq_true, Nat.reduceAdd])) only [fX11_days, ↓bK_7, ↓bR_0_5, ↓bR_0_8, ↓hb_of (within_y _ _ _), ↓hb_of (within_n _), ↓hb_some, ↓bd_some, ↓letE_eq, h_z0, h_z1, h_zi0, h_zi1, ↓hb_of c1, iN_lit, iN_add, iN_mul, iN_pred, iN_pred', iN_lt, iN_le, iN_eq, iN_nat, nlt_t, nlt_f, nle_t, nle_f, neq_t, neq_f, List.length_nil, List.length_cons, or_false, false_or, or_self, not_false_eq_true, not_true_eq_false, ↓reduceIte, if_true, if_false, Bool.false_eq_true, Nat.reduceAdd, hpos] at f1 ⊢
        exact f1
      · unfold EH
        simp only [iN_lit] at c2
        simp (disch := first | omega | assumption | (simp (disch := omega) only [iN_lit, iN_add, iN_mul, iN_pred, iN_pred', iN_lt, iN_le, iN_eq, iN_nat, nlt_t, nlt_f, nle_t, nle_f, neq_t, neq_f, List.length_nil, List.length_cons, or_false, false_or, or_self, not_false_eq_true, not_true_eq_false, ↓reduceIte, if_true, if_false, Bool.false_eq_true, Nat.reduceAdd])) only [fX12_days, ↓brK, ↓brR_0, ↓brA_0, ↓brS_0, ↓brW_13, ↓hb_of (in_y _ _ _), ↓hb_of (in_n _), ↓hb_some, ↓bd_some, ↓letE_eq, h_z0, h_z1, h_zi0, h_zi1, ↓hb_of c2, iN_lit, iN_add, iN_mul, iN_pred, iN_pred', iN_lt, iN_le, iN_eq, iN_nat, nlt_t, nlt_f, nle_t, nle_f, neq_t, neq_f, List.length_nil, List.length_cons, or_false, false_or, or_self, not_false_eq_true, not_true_eq_false, ↓reduceIte, if_true, if_false, Bool.false_eq_true, Nat.reduceAdd, hpos] at g1 ⊢
        exact g1
      · rw [u2_eq, if_neg h2, u2_eq, if_neg (by omega), u2_eq, if_neg (by omega)]
      · rw [f2 x (by omega) (by omega) (by omega) (by omega)]; exact q8 x (by omega)
      · rw [f2 8 (by omega) (by omega) (by omega) (by omega), u1_eq, if_pos rfl, rwC_ne (by omega)]
      · rw [f2 32 (by omega) (by omega) (by omega) (by omega)]; exact hn2
      · rw [g3 x (by omega) (by omega) (by omega) (by omega) (by omega) (by omega) (by omega), u1_eq, if_neg (by omega), u1_eq, if_neg (by omega)]
      · rw [g4 x (by omega) (by omega) (by omega), u1_eq, if_neg (by omega)]
      · rw [g3 27 (by omega) (by omega) (by omega) (by omega) (by omega) (by omega) (by omega), u1_eq, if_pos rfl]
  · refine pairG_q (ans := -1) hI (fun T => qC_no ?_) (qM_no (fun I E L pr ot T => ?_))
    · simp (disch := first | omega | assumption | (simp (disch := omega) only [iN_lit, iN_add, iN_mul, iN_pred, iN_pred', iN_lt, iN_le, iN_eq, iN_nat, nlt_t, nlt_f, nle_t, nle_f, neq_t, neq_f, List.length_nil, List.length_cons, or_false, false_or, or_self, not_false_eq_true, not_true_eq_false, ↓reduceIte, if_true, if_false, Bool.false_eq_true, Nat.reduceAdd])) only [fX11_days, ↓bK_7, ↓bR_0_5, ↓bR_0_8, ↓hb_of (within_y _ _ _), ↓hb_of (within_n _), ↓hb_of (c_remember _ _ _ _ _), ↓hb_some, ↓bd_some, ↓letE_eq, h_z0, h_z1, h_zi0, h_zi1, iN_lit, iN_add, iN_mul, iN_pred, iN_pred', iN_lt, iN_le, iN_eq, iN_nat, nlt_t, nlt_f, nle_t, nle_f, neq_t, neq_f, List.length_nil, List.length_cons, or_false, false_or, or_self, not_false_eq_true, not_true_eq_false, ↓reduceIte, if_true, if_false, Bool.false_eq_true, Nat.reduceAdd]
    · simp (disch := first | omega | assumption | (simp (disch := omega) only [iN_lit, iN_add, iN_mul, iN_pred, iN_pred', iN_lt, iN_le, iN_eq, iN_nat, nlt_t, nlt_f, nle_t, nle_f, neq_t, neq_f, List.length_nil, List.length_cons, or_false, false_or, or_self, not_false_eq_true, not_true_eq_false, ↓reduceIte, if_true, if_false, Bool.false_eq_true, Nat.reduceAdd])) only [fX12_days, ↓brK, ↓brR_0, ↓brA_0, ↓brS_0, ↓brW_13, ↓hb_of (in_y _ _ _), ↓hb_of (in_n _), ↓hb_some, ↓bd_some, ↓letE_eq, h_z0, h_z1, h_zi0, h_zi1, iN_lit, iN_add, iN_mul, iN_pred, iN_pred', iN_lt, iN_le, iN_eq, iN_nat, nlt_t, nlt_f, nle_t, nle_f, neq_t, neq_f, List.length_nil, List.length_cons, or_false, false_or, or_self, not_false_eq_true, not_true_eq_false, ↓reduceIte, if_true, if_false, Bool.false_eq_true, Nat.reduceAdd]
end AQ
