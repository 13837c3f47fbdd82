/-! CALLS: undo, keep, again: class and model -/
section AR
variable {I A E I' A' : Nat → Nat → Int32} {L L' : Nat → Int64} {pr ot s : Nat} {J J' : Nat → Int32} {B B' : Nat → Nat → Int32} {M M' : Nat → Int64} {rdv : Value} {ru : Nat} {T : PH} {G P W p g n nr sz : Nat} {Z R : Nat → Int32} {x y : Int32} {out : Nat → Int64} {pu : (Nat → Int32) → Int32}
theorem rwC_ld {X Y : Nat → Int32} {i : Nat} (hz : nz Y) : va_cpy X Y (i * 82) 0 82 = rwC X i := by
  funext k
  unfold va_cpy rwC
  by_cases c : k < 82
  · rw [if_pos c, if_pos (by omega), Nat.sub_zero]
  · rw [if_neg c, if_neg (by omega), hz k (by omega)]
/-- now is laid from a row X at n -/
def ldA (a X : Nat → Int32) (n : Nat) : Nat → Int32 := fun j => if j < 88 then X (88 * n + j) else a j
theorem r_undo26 (hJ : J 27 = iN sz) (hs : sz < 12) (kx : PH → Option (Int32 × PH)) : fX12_undo_L26 45 kx FU (iN 0) (encC I E L pr ot (encR J B M rdv ru T)) = kx (encC I E L pr ot (encR J (u1 B 0 (ldA (B 0) (B 26) sz)) M rdv ru T)) := by
  have key := lp_up (fun n k (X : Nat → Int32) => fX12_undo_L26 45 kx n (iN k) (encC I E L pr ot (encR J (u1 B 0 X) M rdv ru T))) (fun X => kx (encC I E L pr ot (encR J (u1 B 0 X) M rdv ru T))) (fun k X => ∀ j, X j = if j < k then B 26 (88 * sz + j) else B 0 j) 88
    (fun k X hk hi => by
      refine ⟨upd X k (B 26 (88 * sz + k)), fun j => ?_, fun n => ?_⟩
      · unfold upd
        by_cases e : j = k
        · rw [if_pos e, if_pos (by omega), e]
        · rw [if_neg e, hi j]
          by_cases d : j < k
          · rw [if_pos d, if_pos (by omega)]
          · rw [if_neg d, if_neg (by omega)]
      · simp (disch := first | omega | assumption | (simp (disch := omega) only [iN_lit, iN_add, iN_mul, iN_pred, iN_pred', iN_lt, iN_le, iN_eq, iN_nat, nlt_t, nlt_f, nle_t, nle_f, neq_t, neq_f, List.length_nil, List.length_cons, or_false, false_or, or_self, not_false_eq_true, not_true_eq_false, ↓reduceIte, if_true, if_false, Bool.false_eq_true, Nat.reduceAdd])) only [fX12_undo_L26, ↓brR_0, ↓brA_0, ↓brS_0, ↓brR_26, ↓brA_26, ↓brS_26, ↓brG_27, ↓hb_some, ↓bd_some, ↓letE_eq, h_z0, h_z1, h_zi0, h_zi1, iN_lit, iN_add, iN_mul, iN_pred, iN_pred', iN_lt, iN_le, iN_eq, iN_nat, nlt_t, nlt_f, nle_t, nle_f, neq_t, neq_f, List.length_nil, List.length_cons, or_false, false_or, or_self, not_false_eq_true, not_true_eq_false, ↓reduceIte, if_true, if_false, Bool.false_eq_true, Nat.reduceAdd, hJ, u1_eq, u1_u1])
    (fun X hi n => by simp (disch := first | omega | assumption | (simp (disch := omega) only [iN_lit, iN_add, iN_mul, iN_pred, iN_pred', iN_lt, iN_le, iN_eq, iN_nat, nlt_t, nlt_f, nle_t, nle_f, neq_t, neq_f, List.length_nil, List.length_cons, or_false, false_or, or_self, not_false_eq_true, not_true_eq_false, ↓reduceIte, if_true, if_false, Bool.false_eq_true, Nat.reduceAdd])) only [fX12_undo_L26, ↓brR_0, ↓brA_0, ↓brS_0, ↓brR_26, ↓brA_26, ↓brS_26, ↓brG_27, ↓hb_some, ↓bd_some, ↓letE_eq, h_z0, h_z1, h_zi0, h_zi1, iN_lit, iN_add, iN_mul, iN_pred, iN_pred', iN_lt, iN_le, iN_eq, iN_nat, nlt_t, nlt_f, nle_t, nle_f, neq_t, neq_f, List.length_nil, List.length_cons, or_false, false_or, or_self, not_false_eq_true, not_true_eq_false, ↓reduceIte, if_true, if_false, Bool.false_eq_true, Nat.reduceAdd]) 88 0 (B 0) (by omega) (fun j => by rw [if_neg (by omega)])
  obtain ⟨X, h1, h2⟩ := key
  have h3 := h2 FU (by unfold FU; omega)
  rw [u1_self] at h3
  have e : X = ldA (B 0) (B 26) sz := by
    funext j; exact h1 j
  rw [e] at h3
  exact h3
theorem r_again40 (hk : n < 2) (kx : PH → Option (Int32 × PH)) : fX12_again_L40 45 (iN n) kx FU (iN 0) (encC I E L pr ot (encR J B M rdv ru T)) = kx (encC I E L pr ot (encR J (u1 B 0 (ldA (B 0) (B 48) n)) M rdv ru T)) := by
  have key := lp_up (fun m k (X : Nat → Int32) => fX12_again_L40 45 (iN n) kx m (iN k) (encC I E L pr ot (encR J (u1 B 0 X) M rdv ru T))) (fun X => kx (encC I E L pr ot (encR J (u1 B 0 X) M rdv ru T))) (fun k X => ∀ j, X j = if j < k then B 48 (88 * n + j) else B 0 j) 88
    (fun k X hk hi => by
      refine ⟨upd X k (B 48 (88 * n + k)), fun j => ?_, fun m => ?_⟩
      · unfold upd
        by_cases e : j = k
        · rw [if_pos e, if_pos (by omega), e]
        · rw [if_neg e, hi j]
          by_cases d : j < k
          · rw [if_pos d, if_pos (by omega)]
          · rw [if_neg d, if_neg (by omega)]
      · simp (disch := first | omega | assumption | (simp (disch := omega) only [iN_lit, iN_add, iN_mul, iN_pred, iN_pred', iN_lt, iN_le, iN_eq, iN_nat, nlt_t, nlt_f, nle_t, nle_f, neq_t, neq_f, List.length_nil, List.length_cons, or_false, false_or, or_self, not_false_eq_true, not_true_eq_false, ↓reduceIte, if_true, if_false, Bool.false_eq_true, Nat.reduceAdd])) only [fX12_again_L40, ↓brR_0, ↓brA_0, ↓brS_0, ↓brR_48, ↓brA_48, ↓brS_48, ↓hb_some, ↓bd_some, ↓letE_eq, h_z0, h_z1, h_zi0, h_zi1, iN_lit, iN_add, iN_mul, iN_pred, iN_pred', iN_lt, iN_le, iN_eq, iN_nat, nlt_t, nlt_f, nle_t, nle_f, neq_t, neq_f, List.length_nil, List.length_cons, or_false, false_or, or_self, not_false_eq_true, not_true_eq_false, ↓reduceIte, if_true, if_false, Bool.false_eq_true, Nat.reduceAdd, u1_eq, u1_u1])
    (fun X hi m => by simp (disch := first | omega | assumption | (simp (disch := omega) only [iN_lit, iN_add, iN_mul, iN_pred, iN_pred', iN_lt, iN_le, iN_eq, iN_nat, nlt_t, nlt_f, nle_t, nle_f, neq_t, neq_f, List.length_nil, List.length_cons, or_false, false_or, or_self, not_false_eq_true, not_true_eq_false, ↓reduceIte, if_true, if_false, Bool.false_eq_true, Nat.reduceAdd])) only [fX12_again_L40, ↓brR_0, ↓brA_0, ↓brS_0, ↓brR_48, ↓brA_48, ↓brS_48, ↓hb_some, ↓bd_some, ↓letE_eq, h_z0, h_z1, h_zi0, h_zi1, iN_lit, iN_add, iN_mul, iN_pred, iN_pred', iN_lt, iN_le, iN_eq, iN_nat, nlt_t, nlt_f, nle_t, nle_f, neq_t, neq_f, List.length_nil, List.length_cons, or_false, false_or, or_self, not_false_eq_true, not_true_eq_false, ↓reduceIte, if_true, if_false, Bool.false_eq_true, Nat.reduceAdd]) 88 0 (B 0) (by omega) (fun j => by rw [if_neg (by omega)])
  obtain ⟨X, h1, h2⟩ := key
  have h3 := h2 FU (by unfold FU; omega)
  rw [u1_self] at h3
  have e : X = ldA (B 0) (B 48) n := by
    funext j; exact h1 j
  rw [e] at h3
  exact h3
theorem CP.ld {a X : Nat → Int32} (hc : CP Z (rwM X n)) : CP Z (ldA a X n) := hc.ext (fun k hk => by unfold ldA rwM; rw [if_pos hk])
theorem p_undo (h : INV s I A L pr ot J B M ru G P W) : pairG s I A L pr ot J B M rdv ru out (fX11_undo 0) (fX12_undo 45) := by
  have hI := h
  obtain ⟨hF, hM, hpl, hz, hc, hn2, htx, hrl, ⟨nx, sz, hn, hs, e1, e2, e3, e4⟩, hkp, hnt, hrw, hfm⟩ := h
  have hJ0 : (u1 J 13 0) 27 = iN sz := e3
  by_cases h0 : sz = 0
  · subst h0
    refine pairG_q (ans := -1) hI (fun T => qC_no ?_) (qM_no (fun I E L pr ot T => ?_))
    · have f1 := c_bringBack0 (I := I) (A := A) (L := L) (pr := pr) (ot := ot) (T := T) e2
      simp (disch := first | omega | assumption | (simp (disch := omega) only [iN_lit, iN_add, iN_mul, iN_pred, iN_pred', iN_lt, iN_le, iN_eq, iN_nat, nlt_t, nlt_f, nle_t, nle_f, neq_t, neq_f, List.length_nil, List.length_cons, or_false, false_or, or_self, not_false_eq_true, not_true_eq_false, ↓reduceIte, if_true, if_false, Bool.false_eq_true, Nat.reduceAdd])) only [fX11_undo, ↓bK_7, ↓bR_0_5, ↓bR_0_8, ↓hb_some, ↓bd_some, ↓letE_eq, h_z0, h_z1, h_zi0, h_zi1, ↓hb_of f1, iN_lit, iN_add, iN_mul, iN_pred, iN_pred', iN_lt, iN_le, iN_eq, iN_nat, nlt_t, nlt_f, nle_t, nle_f, neq_t, neq_f, List.length_nil, List.length_cons, or_false, false_or, or_self, not_false_eq_true, not_true_eq_false, ↓reduceIte, if_true, if_false, Bool.false_eq_true, Nat.reduceAdd]
    · simp (disch := first | omega | assumption | (simp (disch := omega) only [iN_lit, iN_add, iN_mul, iN_pred, iN_pred', iN_lt, iN_le, iN_eq, iN_nat, nlt_t, nlt_f, nle_t, nle_f, neq_t, neq_f, List.length_nil, List.length_cons, or_false, false_or, or_self, not_false_eq_true, not_true_eq_false, ↓reduceIte, if_true, if_false, Bool.false_eq_true, Nat.reduceAdd])) only [fX12_undo, ↓brG_27, ↓brW_13, ↓brW_27, ↓hb_some, ↓bd_some, ↓letE_eq, h_z0, h_z1, h_zi0, h_zi1, iN_lit, iN_add, iN_mul, iN_pred, iN_pred', iN_lt, iN_le, iN_eq, iN_nat, nlt_t, nlt_f, nle_t, nle_f, neq_t, neq_f, List.length_nil, List.length_cons, or_false, false_or, or_self, not_false_eq_true, not_true_eq_false, ↓reduceIte, if_true, if_false, Bool.false_eq_true, Nat.reduceAdd, u1_eq, e3]
  · obtain ⟨m, rfl⟩ : ∃ m, sz = m + 1 := ⟨sz - 1, by omega⟩
    obtain ⟨f1, f2⟩ := e4 m (by omega)
    have e5 : (nx + 12 - (m + 1) + m) % 12 = (nx + 11) % 12 := by omega
    rw [e5] at f1 f2
    have g1 := c_bringBack (I := I) (A := A) (L := L) (pr := pr) (ot := ot) (T := encR J B M rdv ru [.inl (.long, (1, .inr (.inl out)))]) e1 e2 hn (by omega)
    rw [rwC_ld hz.1] at g1
    have g2 := r_undo26 (I := u2 (u2 I 7 1 (iN ((nx + 11) % 12))) 7 2 (iN m)) (E := u1 A 28 (rwC (A 8) ((nx + 11) % 12))) (L := L) (pr := pr) (ot := ot) (M := M) (rdv := rdv) (ru := ru) (T := [.inl (.long, (1, .inr (.inl out)))]) (J := u1 (u1 J 13 (iN 0)) 27 (iN m)) (B := B) (sz := m) (by rw [u1_eq, if_pos rfl]) (by omega)
    refine ⟨iN m, u2 (u2 I 7 1 (iN ((nx + 11) % 12))) 7 2 (iN m), u1 A 28 (rwC (A 8) ((nx + 11) % 12)), L, pr, ot, u1 (u1 J 13 (iN 0)) 27 (iN m), u1 B 0 (ldA (B 0) (B 26) m), M, rdv, ru, G, P, W, ?_, ?_, hI.now (fun o k h1 h2 => ?_) (fun x hx => ?_) (fun i hi => rfl) hn2 (fun x hx => ?_) (fun x hx => ?_) f1 f2.ld ⟨(nx + 11) % 12, m, by omega, by omega, ?_, ?_, ?_, fun j hj => ?_⟩ (hrw.fr rfl rfl)⟩
    · unfold EH
      have e7 : (u2 (u2 I 7 1 (iN ((nx + 11) % 12))) 7 2 (iN m)) 7 2 = iN m := by rw [u2_eq, if_pos ⟨rfl, rfl⟩]
      simp (disch := first | omega | assumption | (simp (disch := omega) only [iN_lit, iN_add, iN_mul, iN_pred, iN_pred', iN_lt, iN_le, iN_eq, iN_nat, nlt_t, nlt_f, nle_t, nle_f, neq_t, neq_f, List.length_nil, List.length_cons, or_false, false_or, or_self, not_false_eq_true, not_true_eq_false, ↓reduceIte, if_true, if_false, Bool.false_eq_true, Nat.reduceAdd])) only [fX11_undo, ↓bK_7, ↓bR_0_5, ↓bR_0_8, fX5_size, ↓bG_7_2, ↓hb_some, ↓bd_some, ↓letE_eq, h_z0, h_z1, h_zi0, h_zi1, ↓hb_of g1, iN_lit, iN_add, iN_mul, iN_pred, iN_pred', iN_lt, iN_le, iN_eq, iN_nat, nlt_t, nlt_f, nle_t, nle_f, neq_t, neq_f, List.length_nil, List.length_cons, or_false, false_or, or_self, not_false_eq_true, not_true_eq_false, ↓reduceIte, if_true, if_false, Bool.false_eq_true, Nat.reduceAdd, e7]
    · unfold EH
      have e6 : iN (m + 1) - iN 1 = iN m := iN_pred
      have e8 : ¬ m + 1 = 0 := by omega
      have g3 := g2 (fun h5 => (h_gi 11 27 h5 45).bind fun x6 => some (x6, h5))
      have e9 : (u1 (u1 J 13 (iN 0)) 27 (iN m)) 27 = iN m := by rw [u1_eq, if_pos rfl]
      rw [brG_27, e9] at g3
      simp (disch := first | omega | assumption | (simp (disch := omega) only [iN_lit, iN_add, iN_mul, iN_pred, iN_pred', iN_lt, iN_le, iN_eq, iN_nat, nlt_t, nlt_f, nle_t, nle_f, neq_t, neq_f, List.length_nil, List.length_cons, or_false, false_or, or_self, not_false_eq_true, not_true_eq_false, ↓reduceIte, if_true, if_false, Bool.false_eq_true, Nat.reduceAdd])) only [fX12_undo, ↓brG_27, ↓brW_13, ↓brW_27, ↓hb_some, ↓bd_some, ↓letE_eq, h_z0, h_z1, h_zi0, h_zi1, iN_lit, iN_add, iN_mul, iN_pred, iN_pred', iN_lt, iN_le, iN_eq, iN_nat, nlt_t, nlt_f, nle_t, nle_f, neq_t, neq_f, List.length_nil, List.length_cons, or_false, false_or, or_self, not_false_eq_true, not_true_eq_false, ↓reduceIte, if_true, if_false, Bool.false_eq_true, Nat.reduceAdd, u1_eq, e3, e8]
      exact g3
    · rw [u2_eq, if_neg (by omega), u2_eq, if_neg (by omega)]
    · rw [u1_eq, if_neg (by omega)]
    · rw [u1_eq, if_neg (by omega), u1_eq, if_neg (by omega)]
    · rw [u1_eq, if_neg (by omega)]
    · rw [u2_eq, if_neg (by omega), u2_eq, if_pos ⟨rfl, rfl⟩]
    · rw [u2_eq, if_pos ⟨rfl, rfl⟩]
    · rw [u1_eq, if_pos rfl]
    · obtain ⟨k1, k2⟩ := e4 j (by omega)
      have e6 : ((nx + 11) % 12 + 12 - m + j) % 12 = (nx + 12 - (m + 1) + j) % 12 := by omega
      rw [e6]
      exact ⟨k1, k2⟩
theorem hasB_bt {kp : Nat → Bool} {k : Nat} (hk : k < 8) : hasB (bt kp 8) k = kp k := by
  rw [bt_has (Nat.le_refl 8) hk, decide_eq_true hk, Bool.true_and]
theorem p_keep (h : INV s I A L pr ot J B M ru G P W) (x : Int32) : pairG s I A L pr ot J B M rdv ru out (fX11_keep 0 x) (fX12_keep 45 x) := by
  have hI := h
  obtain ⟨hF, hM, hpl, hz, hc, hn2, htx, hrl, hpas, ⟨c, kp, k1, k2, k3, k4⟩, hnt, hrw, hfm⟩ := h
  rcases arg_le 1 (by decide) x with ⟨k, hk, rfl⟩ | hx
  · have g1 := c_keepAs (I := I) (A := A) (L := L) (pr := pr) (ot := ot) (T := encR J B M rdv ru [.inl (.long, (1, .inr (.inl out)))]) hk
    have e1 : I 7 3 ||| ((1 : Int32) <<< (iN k &&& 31)) = bt (fun i => (i == k) || kp i) 8 := by rw [k3, bt_or (by omega)]
    rw [e1] at g1
    have g2 := r_layK (I := u2 I 7 3 (bt (fun i => (i == k) || kp i) 8)) (E := u1 A 8 (va_cpy (A 28) (A 8) 0 ((12 + k) * 82) 82)) (L := L) (pr := pr) (ot := ot) (M := M) (rdv := rdv) (ru := ru) (T := [.inl (.long, (1, .inr (.inl out)))]) (J := u1 J 13 (iN 0)) (B := u1 (u1 B 49 (upd (B 49) k (iN 1))) 50 (upd (B 50) k (J 47))) (k := k) (by omega)
    have e2 : vp_nar .boolean (iN 1) = iN 1 := by decide
    refine ⟨1, u2 I 7 3 (bt (fun i => (i == k) || kp i) 8), u1 A 8 (va_cpy (A 28) (A 8) 0 ((12 + k) * 82) 82), L, pr, ot, u1 J 13 (iN 0), u1 (u1 (u1 B 49 (upd (B 49) k (iN 1))) 50 (upd (B 50) k (J 47))) 48 (va_cpy (B 0) (B 48) 0 (88 * k) 88), M, rdv, ru, G, P, W, ?_, ?_, hI.mk2 (fun o k ho hk => ?_) (fun x hx => ?_) (fun x hx => ?_) (fun x hx => ?_) hz hc hn2 (htx.fr rfl rfl rfl rfl) ?_ ⟨c, fun i => (i == k) || kp i, by omega, by rw [u1_eq, if_neg (by decide)]; exact k2, by rw [u2_eq, if_pos ⟨rfl, rfl⟩], fun i hi => ?_⟩ (hnt.fr rfl (fun x hx => ?_) rfl (fun x hx => ?_)) (hrw.fr rfl rfl)⟩
    · unfold EH
      simp (disch := first | omega | assumption | (simp (disch := omega) only [iN_lit, iN_add, iN_mul, iN_pred, iN_pred', iN_lt, iN_le, iN_eq, iN_nat, nlt_t, nlt_f, nle_t, nle_f, neq_t, neq_f, List.length_nil, List.length_cons, or_false, false_or, or_self, not_false_eq_true, not_true_eq_false, ↓reduceIte, if_true, if_false, Bool.false_eq_true, Nat.reduceAdd])) only [fX11_keep, ↓bK_7, ↓bR_0_5, ↓bR_0_8, ↓hb_some, ↓bd_some, ↓letE_eq, h_z0, h_z1, h_zi0, h_zi1, ↓hb_of g1, iN_lit, iN_add, iN_mul, iN_pred, iN_pred', iN_lt, iN_le, iN_eq, iN_nat, nlt_t, nlt_f, nle_t, nle_f, neq_t, neq_f, List.length_nil, List.length_cons, or_false, false_or, or_self, not_false_eq_true, not_true_eq_false, ↓reduceIte, if_true, if_false, Bool.false_eq_true, Nat.reduceAdd]
    · unfold EH
      have e3 : (u1 (u1 B 49 (upd (B 49) k (iN 1))) 50 (upd (B 50) k (J 47))) 0 = B 0 := rfl
      have e4 : (u1 (u1 B 49 (upd (B 49) k (iN 1))) 50 (upd (B 50) k (J 47))) 48 = B 48 := rfl
      rw [e3, e4] at g2
      simp (disch := first | omega | assumption | (simp (disch := omega) only [iN_lit, iN_add, iN_mul, iN_pred, iN_pred', iN_lt, iN_le, iN_eq, iN_nat, nlt_t, nlt_f, nle_t, nle_f, neq_t, neq_f, List.length_nil, List.length_cons, or_false, false_or, or_self, not_false_eq_true, not_true_eq_false, ↓reduceIte, if_true, if_false, Bool.false_eq_true, Nat.reduceAdd])) only [fX12_keep, ↓brR_49, ↓brA_49, ↓brS_49, ↓brR_50, ↓brA_50, ↓brS_50, ↓brR_0, ↓brA_0, ↓brS_0, ↓brR_48, ↓brA_48, ↓brS_48, ↓brG_47, ↓brW_13, ↓hb_of (in_y _ _ _), ↓hb_of (in_n _), ↓hb_some, ↓bd_some, ↓letE_eq, h_z0, h_z1, h_zi0, h_zi1, ↓hb_of g2, iN_lit, iN_add, iN_mul, iN_pred, iN_pred', iN_lt, iN_le, iN_eq, iN_nat, nlt_t, nlt_f, nle_t, nle_f, neq_t, neq_f, List.length_nil, List.length_cons, or_false, false_or, or_self, not_false_eq_true, not_true_eq_false, ↓reduceIte, if_true, if_false, Bool.false_eq_true, Nat.reduceAdd, e2, u1_eq]
    · rw [u2_eq, if_neg (by omega)]
    · rw [u1_eq, if_neg (by omega)]
    · rw [u1_eq, if_neg (by omega)]
    · rw [u1_eq, if_neg (by omega), u1_eq, if_neg (by omega), u1_eq, if_neg (by omega)]
    · obtain ⟨nx, sz, a1, a2, a3, a4, a5, a6⟩ := hpas
      refine ⟨nx, sz, a1, a2, a3, a4, a5, fun j hj => ?_⟩
      rw [u1_eq, if_pos rfl, rwC_ne (by omega)]
      exact a6 j hj
    · have e5 : (u1 A 8 (va_cpy (A 28) (A 8) 0 ((12 + k) * 82) 82)) 8 = va_cpy (A 28) (A 8) 0 ((12 + k) * 82) 82 := rfl
      have e6 : (u1 (u1 (u1 B 49 (upd (B 49) k (iN 1))) 50 (upd (B 50) k (J 47))) 48 (va_cpy (B 0) (B 48) 0 (88 * k) 88)) 49 = upd (B 49) k (iN 1) := rfl
      have e7 : (u1 (u1 (u1 B 49 (upd (B 49) k (iN 1))) 50 (upd (B 50) k (J 47))) 48 (va_cpy (B 0) (B 48) 0 (88 * k) 88)) 50 = upd (B 50) k (J 47) := rfl
      have e8 : (u1 (u1 (u1 B 49 (upd (B 49) k (iN 1))) 50 (upd (B 50) k (J 47))) 48 (va_cpy (B 0) (B 48) 0 (88 * k) 88)) 48 = va_cpy (B 0) (B 48) 0 (88 * k) 88 := rfl
      rw [e5, e6, e7, e8]
      by_cases e : i = k
      · subst e
        rw [upd_eq, upd_eq, rwC_at hz.1]
        refine ⟨fun _ => ⟨rfl, k2, hz, hc.ext (fun j hj => ?_)⟩, fun d => ?_⟩
        · unfold rwM
          exact cpy_in hj
        · simp at d
      · rw [upd_ne e, upd_ne e, rwC_ne (by omega)]
        have e9 : ((i == k) || kp i) = kp i := by simp [e]
        dsimp only
        rw [e9]
        obtain ⟨a1, a2⟩ := k4 i hi
        refine ⟨fun d => ?_, a2⟩
        obtain ⟨b1, b2, b3, b4⟩ := a1 d
        refine ⟨b1, b2, b3, b4.ext (fun j hj => ?_)⟩
        unfold rwM
        exact cpy_out (by omega)
    · rw [u1_eq, if_neg (by omega)]
    · rw [u1_eq, if_neg (by omega), u1_eq, if_neg (by omega), u1_eq, if_neg (by omega)]
  · refine pairG_q (ans := 0) hI (fun T => qC_no ?_) (qM_no (fun I E L pr ot T => ?_))
    · have f1 := c_keepAs_n (I := I) (A := A) (L := L) (pr := pr) (ot := ot) (T := T) hx
      simp (disch := first | omega | assumption | (simp (disch := omega) only [iN_lit, iN_add, iN_mul, iN_pred, iN_pred', iN_lt, iN_le, iN_eq, iN_nat, nlt_t, nlt_f, nle_t, nle_f, neq_t, neq_f, List.length_nil, List.length_cons, or_false, false_or, or_self, not_false_eq_true, not_true_eq_false, ↓reduceIte, if_true, if_false, Bool.false_eq_true, Nat.reduceAdd])) only [fX11_keep, ↓bK_7, ↓bR_0_5, ↓bR_0_8, ↓hb_some, ↓bd_some, ↓letE_eq, h_z0, h_z1, h_zi0, h_zi1, ↓hb_of f1, iN_lit, iN_add, iN_mul, iN_pred, iN_pred', iN_lt, iN_le, iN_eq, iN_nat, nlt_t, nlt_f, nle_t, nle_f, neq_t, neq_f, List.length_nil, List.length_cons, or_false, false_or, or_self, not_false_eq_true, not_true_eq_false, ↓reduceIte, if_true, if_false, Bool.false_eq_true, Nat.reduceAdd]
    · simp (disch := first | omega | assumption | (simp (disch := omega) only [iN_lit, iN_add, iN_mul, iN_pred, iN_pred', iN_lt, iN_le, iN_eq, iN_nat, nlt_t, nlt_f, nle_t, nle_f, neq_t, neq_f, List.length_nil, List.length_cons, or_false, false_or, or_self, not_false_eq_true, not_true_eq_false, ↓reduceIte, if_true, if_false, Bool.false_eq_true, Nat.reduceAdd])) only [fX12_keep, ↓brR_49, ↓brA_49, ↓brS_49, ↓brR_50, ↓brA_50, ↓brS_50, ↓brR_0, ↓brA_0, ↓brS_0, ↓brR_48, ↓brA_48, ↓brS_48, ↓brG_47, ↓brW_13, ↓hb_of (in_y _ _ _), ↓hb_of (in_n _), ↓hb_of (r_layT), ↓hb_of (r_layS), ↓hb_of (r_layU _), ↓hb_of (r_layV _), ↓hb_of (r_layK _), ↓hb_some, ↓bd_some, ↓letE_eq, h_z0, h_z1, h_zi0, h_zi1, iN_lit, iN_add, iN_mul, iN_pred, iN_pred', iN_lt, iN_le, iN_eq, iN_nat, nlt_t, nlt_f, nle_t, nle_f, neq_t, neq_f, List.length_nil, List.length_cons, or_false, false_or, or_self, not_false_eq_true, not_true_eq_false, ↓reduceIte, if_true, if_false, Bool.false_eq_true, Nat.reduceAdd]
theorem p_again (h : INV s I A L pr ot J B M ru G P W) (hs : s ≤ 600) (x : Int32) : pairG s I A L pr ot J B M rdv ru out (fX11_again 0 x) (fX12_again 45 x) := by
  have hI := h
  obtain ⟨hF, hM, hpl, hz, hc, hn2, htx, hrl, ⟨nx, sz, hn, hsz, e1, e2, e3, e4⟩, ⟨c, kp, k1, k2, k3, k4⟩, hnt, hrw, hfm⟩ := h
  rcases arg_le 1 (by decide) x with ⟨k, hk, rfl⟩ | hx
  · obtain ⟨a1, a2⟩ := k4 k (by omega)
    have hb3 : hasB (I 7 3) k = kp k := by rw [k3]; exact hasB_bt (by omega)
    cases hb : kp k with
    | false =>
      rw [hb] at hb3
      refine pairG_q (ans := 0) hI (fun T => qC_no ?_) (qM_no (fun I E L pr ot T => ?_))
      · have f1 := c_bringKept0 (I := I) (A := A) (L := L) (pr := pr) (ot := ot) (T := T) hk hb3
        simp (disch := first | omega | assumption | (simp (disch := omega) only [iN_lit, iN_add, iN_mul, iN_pred, iN_pred', iN_lt, iN_le, iN_eq, iN_nat, nlt_t, nlt_f, nle_t, nle_f, neq_t, neq_f, List.length_nil, List.length_cons, or_false, false_or, or_self, not_false_eq_true, not_true_eq_false, ↓reduceIte, if_true, if_false, Bool.false_eq_true, Nat.reduceAdd])) only [fX11_again, ↓bK_7, ↓bR_0_5, ↓bR_0_8, ↓hb_some, ↓bd_some, ↓letE_eq, h_z0, h_z1, h_zi0, h_zi1, ↓hb_of f1, iN_lit, iN_add, iN_mul, iN_pred, iN_pred', iN_lt, iN_le, iN_eq, iN_nat, nlt_t, nlt_f, nle_t, nle_f, neq_t, neq_f, List.length_nil, List.length_cons, or_false, false_or, or_self, not_false_eq_true, not_true_eq_false, ↓reduceIte, if_true, if_false, Bool.false_eq_true, Nat.reduceAdd]
      · rcases a2 hb with d | ⟨d, c', d2, d3⟩
        · simp (disch := first | omega | assumption | (simp (disch := omega) only [iN_lit, iN_add, iN_mul, iN_pred, iN_pred', iN_lt, iN_le, iN_eq, iN_nat, nlt_t, nlt_f, nle_t, nle_f, neq_t, neq_f, List.length_nil, List.length_cons, or_false, false_or, or_self, not_false_eq_true, not_true_eq_false, ↓reduceIte, if_true, if_false, Bool.false_eq_true, Nat.reduceAdd])) only [fX12_again, ↓brR_49, ↓brA_49, ↓brS_49, ↓brR_50, ↓brA_50, ↓brS_50, ↓brG_47, ↓brW_13, ↓brW_27, ↓hb_of (in_y _ _ _), ↓hb_of (in_n _), ↓hb_some, ↓bd_some, ↓letE_eq, h_z0, h_z1, h_zi0, h_zi1, iN_lit, iN_add, iN_mul, iN_pred, iN_pred', iN_lt, iN_le, iN_eq, iN_nat, nlt_t, nlt_f, nle_t, nle_f, neq_t, neq_f, List.length_nil, List.length_cons, or_false, false_or, or_self, not_false_eq_true, not_true_eq_false, ↓reduceIte, if_true, if_false, Bool.false_eq_true, Nat.reduceAdd, d]
        · have d4 : ¬ iN c' = iN c := by
            rw [iN_eq (by omega) (by omega)]; omega
          have d5 : ¬ (1 : Int32) = iN 0 := by decide
          simp (disch := first | omega | assumption | (simp (disch := omega) only [iN_lit, iN_add, iN_mul, iN_pred, iN_pred', iN_lt, iN_le, iN_eq, iN_nat, nlt_t, nlt_f, nle_t, nle_f, neq_t, neq_f, List.length_nil, List.length_cons, or_false, false_or, or_self, not_false_eq_true, not_true_eq_false, ↓reduceIte, if_true, if_false, Bool.false_eq_true, Nat.reduceAdd])) only [fX12_again, ↓brR_49, ↓brA_49, ↓brS_49, ↓brR_50, ↓brA_50, ↓brS_50, ↓brG_47, ↓brW_13, ↓brW_27, ↓hb_of (in_y _ _ _), ↓hb_of (in_n _), ↓hb_some, ↓bd_some, ↓letE_eq, h_z0, h_z1, h_zi0, h_zi1, iN_lit, iN_add, iN_mul, iN_pred, iN_pred', iN_lt, iN_le, iN_eq, iN_nat, nlt_t, nlt_f, nle_t, nle_f, neq_t, neq_f, List.length_nil, List.length_cons, or_false, false_or, or_self, not_false_eq_true, not_true_eq_false, ↓reduceIte, if_true, if_false, Bool.false_eq_true, Nat.reduceAdd, d, d3, d4, d5, k2, u1_eq]
    | true =>
      rw [hb] at hb3
      obtain ⟨b1, b2, b3, b4⟩ := a1 hb
      have g1 := c_bringKept (I := I) (A := A) (L := L) (pr := pr) (ot := ot) (T := encR J B M rdv ru [.inl (.long, (1, .inr (.inl out)))]) hk hb3
      rw [rwC_ld hz.1] at g1
      have g2 := r_again40 (I := u2 I 7 2 0) (E := u1 A 28 (rwC (A 8) (12 + k))) (L := L) (pr := pr) (ot := ot) (M := M) (rdv := rdv) (ru := ru) (T := [.inl (.long, (1, .inr (.inl out)))]) (J := u1 J 13 (iN 0)) (B := B) (n := k) (by omega) (fun h9 => (h_pv 11 27 h9 45 (.int (iN 0))).bind fun h10 => some (iN 1, h10))
      rw [brW_27] at g2
      have d5 : ¬ (1 : Int32) = iN 0 := by decide
      refine ⟨1, u2 I 7 2 0, u1 A 28 (rwC (A 8) (12 + k)), L, pr, ot, u1 (u1 J 13 (iN 0)) 27 (iN 0), u1 B 0 (ldA (B 0) (B 48) k), M, rdv, ru, G, P, W, ?_, ?_, hI.now (fun o k h1 h2 => ?_) (fun x hx => ?_) (fun i hi => rfl) hn2 (fun x hx => ?_) (fun x hx => ?_) b3 b4.ld ⟨nx, 0, hn, by omega, ?_, ?_, ?_, fun j hj => absurd hj (Nat.not_lt_zero _)⟩ (hrw.fr rfl rfl)⟩
      · unfold EH
        simp (disch := first | omega | assumption | (simp (disch := omega) only [iN_lit, iN_add, iN_mul, iN_pred, iN_pred', iN_lt, iN_le, iN_eq, iN_nat, nlt_t, nlt_f, nle_t, nle_f, neq_t, neq_f, List.length_nil, List.length_cons, or_false, false_or, or_self, not_false_eq_true, not_true_eq_false, ↓reduceIte, if_true, if_false, Bool.false_eq_true, Nat.reduceAdd])) only [fX11_again, ↓bK_7, ↓bR_0_5, ↓bR_0_8, ↓hb_some, ↓bd_some, ↓letE_eq, h_z0, h_z1, h_zi0, h_zi1, ↓hb_of g1, iN_lit, iN_add, iN_mul, iN_pred, iN_pred', iN_lt, iN_le, iN_eq, iN_nat, nlt_t, nlt_f, nle_t, nle_f, neq_t, neq_f, List.length_nil, List.length_cons, or_false, false_or, or_self, not_false_eq_true, not_true_eq_false, ↓reduceIte, if_true, if_false, Bool.false_eq_true, Nat.reduceAdd]
      · unfold EH
        simp only [iN_lit] at g2
        simp (disch := first | omega | assumption | (simp (disch := omega) only [iN_lit, iN_add, iN_mul, iN_pred, iN_pred', iN_lt, iN_le, iN_eq, iN_nat, nlt_t, nlt_f, nle_t, nle_f, neq_t, neq_f, List.length_nil, List.length_cons, or_false, false_or, or_self, not_false_eq_true, not_true_eq_false, ↓reduceIte, if_true, if_false, Bool.false_eq_true, Nat.reduceAdd])) only [fX12_again, ↓brR_49, ↓brA_49, ↓brS_49, ↓brR_50, ↓brA_50, ↓brS_50, ↓brG_47, ↓brW_13, ↓brW_27, ↓hb_of (in_y _ _ _), ↓hb_of (in_n _), ↓hb_some, ↓bd_some, ↓letE_eq, h_z0, h_z1, h_zi0, h_zi1, iN_lit, iN_add, iN_mul, iN_pred, iN_pred', iN_lt, iN_le, iN_eq, iN_nat, nlt_t, nlt_f, nle_t, nle_f, neq_t, neq_f, List.length_nil, List.length_cons, or_false, false_or, or_self, not_false_eq_true, not_true_eq_false, ↓reduceIte, if_true, if_false, Bool.false_eq_true, Nat.reduceAdd, b1, b2, k2, d5, u1_eq]
        exact g2
      · rw [u2_eq, if_neg (by omega)]
      · rw [u1_eq, if_neg (by omega)]
      · rw [u1_eq, if_neg (by omega), u1_eq, if_neg (by omega)]
      · rw [u1_eq, if_neg (by omega)]
      · rw [u2_eq, if_neg (by omega)]; exact e1
      · rw [u2_eq, if_pos ⟨rfl, rfl⟩]; rfl
      · rw [u1_eq, if_pos rfl]
  · refine pairG_q (ans := 0) hI (fun T => qC_no ?_) (qM_no (fun I E L pr ot T => ?_))
    · have f1 := c_bringKept_n (I := I) (A := A) (L := L) (pr := pr) (ot := ot) (T := T) hx
      simp (disch := first | omega | assumption | (simp (disch := omega) only [iN_lit, iN_add, iN_mul, iN_pred, iN_pred', iN_lt, iN_le, iN_eq, iN_nat, nlt_t, nlt_f, nle_t, nle_f, neq_t, neq_f, List.length_nil, List.length_cons, or_false, false_or, or_self, not_false_eq_true, not_true_eq_false, ↓reduceIte, if_true, if_false, Bool.false_eq_true, Nat.reduceAdd])) only [fX11_again, ↓bK_7, ↓bR_0_5, ↓bR_0_8, ↓hb_some, ↓bd_some, ↓letE_eq, h_z0, h_z1, h_zi0, h_zi1, ↓hb_of f1, iN_lit, iN_add, iN_mul, iN_pred, iN_pred', iN_lt, iN_le, iN_eq, iN_nat, nlt_t, nlt_f, nle_t, nle_f, neq_t, neq_f, List.length_nil, List.length_cons, or_false, false_or, or_self, not_false_eq_true, not_true_eq_false, ↓reduceIte, if_true, if_false, Bool.false_eq_true, Nat.reduceAdd]
    · simp (disch := first | omega | assumption | (simp (disch := omega) only [iN_lit, iN_add, iN_mul, iN_pred, iN_pred', iN_lt, iN_le, iN_eq, iN_nat, nlt_t, nlt_f, nle_t, nle_f, neq_t, neq_f, List.length_nil, List.length_cons, or_false, false_or, or_self, not_false_eq_true, not_true_eq_false, ↓reduceIte, if_true, if_false, Bool.false_eq_true, Nat.reduceAdd])) only [fX12_again, ↓brR_49, ↓brA_49, ↓brS_49, ↓brR_50, ↓brA_50, ↓brS_50, ↓brG_47, ↓brW_13, ↓brW_27, ↓hb_of (in_y _ _ _), ↓hb_of (in_n _), ↓hb_some, ↓bd_some, ↓letE_eq, h_z0, h_z1, h_zi0, h_zi1, iN_lit, iN_add, iN_mul, iN_pred, iN_pred', iN_lt, iN_le, iN_eq, iN_nat, nlt_t, nlt_f, nle_t, nle_f, neq_t, neq_f, List.length_nil, List.length_cons, or_false, false_or, or_self, not_false_eq_true, not_true_eq_false, ↓reduceIte, if_true, if_false, Bool.false_eq_true, Nat.reduceAdd]
end AR
