/-! CALLS: looks (6) -/
section LS
variable {I A E I' A' : Nat → Nat → Int32} {L L' : Nat → Int64} {pr ot s : Nat} {J J' : Nat → Int32} {B B' : Nat → Nat → Int32} {M M' : Nat → Int64} {rdv rdv' : Value} {ru : Nat} {T : PH} {G P W p q g n nr sz ro oa w t k N d m h : Nat} {Z Z' R X a : Nat → Int32} {x y z i2 i4 i5 acc mm : Int32} {out : Nat → Int64} {pu : (Nat → Int32) → Int32} {V : Nat → Nat}
theorem p_looks (h : INV s I A L pr ot J B M ru G P W) (x y : Int32) : pairG s I A L pr ot J B M rdv ru out (fX11_looks 0 x y) (fX12_looks 45 x y) := by
  have hI := h
  obtain ⟨pu, ck, -, mk⟩ := h.km
  obtain ⟨hF, hM, hpl, hz, hc, hn2, -, -, -, -, hnt, -⟩ := h
  have h6 := hM.2.2.2.2.1
  have h8 := hM.2.2.2.1
  have hMb : FM A (u1 J 13 (iN 0)) B G P W := mk.1
  obtain ⟨m, hm2, hmI, hmJ, hn, hx⟩ := hnt.mc
  rcases arg_lt P (by omega) x with ⟨p, hp, rfl⟩ | hxx
  rotate_left
  · refine pairG_q (ans := -1) hI (fun T => qC_no ?_) (qM_no (fun I E L pr ot T => ?_))
    · simp (disch := first | omega | assumption | (simp (disch := omega) only [iN_lit, iN_add, iN_mul, iN_pred, iN_pred', iN_lt, iN_le, iN_eq, iN_nat, nlt_t, nlt_f, nle_t, nle_f, neq_t, neq_f, List.length_nil, List.length_cons, or_false, false_or, or_self, not_false_eq_true, not_true_eq_false, ↓reduceIte, if_true, if_false, Bool.false_eq_true, Nat.reduceAdd])) only [fX11_looks, ↓bK_11, ↓bK_35, ↓bR_0_7, ↓bR_0_10, ↓hb_of (hasP_y _ _), ↓hb_of (hasP_n _ _), ↓hb_of (within_y _ _ _), ↓hb_of (within_n _), ↓hb_some, ↓bd_some, ↓letE_eq, h_z0, h_z1, h_zi0, h_zi1, ↓hb_of (hasP_n hF hxx), iN_lit, iN_add, iN_mul, iN_pred, iN_pred', iN_lt, iN_le, iN_eq, iN_nat, nlt_t, nlt_f, nle_t, nle_f, neq_t, neq_f, List.length_nil, List.length_cons, or_false, false_or, or_self, not_false_eq_true, not_true_eq_false, ↓reduceIte, if_true, if_false, Bool.false_eq_true, Nat.reduceAdd]
    · unfold fX12_looks
      simp only [iN_lit]
      rw [brW_13, brK, hb_of (isM_n hMb hxx), if_00]
  rcases arg_le 30 (by decide) y with ⟨n, hn30, rfl⟩ | hyy
  rotate_left
  · refine pairG_q (ans := -1) hI (fun T => qC_no ?_) (qM_no (fun I E L pr ot T => ?_))
    · unfold fX11_looks
      simp only [iN_lit]
      rw [bR_0_7, bK_11, hb_of (hasP_y hF hp), if_neg (show ¬ (1 : Int32) = iN 0 by decide), hb_of (within_n (show ¬ (iN 0 ≤ y ∧ y ≤ iN 30) from hyy)), if_00]
    · unfold fX12_looks
      simp only [iN_lit]
      rw [brW_13, brK, hb_of (r_isMan hMb hp), if_10, hb_of (in_n (show ¬ (iN 0 ≤ y ∧ y ≤ iN 30) from hyy)), if_00]
  obtain ⟨F, hF0⟩ : ∃ F, F = bt (fiB A pu G m p) G := ⟨_, rfl⟩
  by_cases hF1 : F = 0
  · refine pairG_q (ans := -2) (rw := none) hI (fun T => ?_) (fun I E L pr ot T => ?_)
    · obtain ⟨A1, f1, f2⟩ := ck.fits (L := L) (ot := ot) (T := T) hmI hm2 hn frQ.refl hp
      rw [← hF0] at f1
      refine ⟨I, A1, L, ?_, frI.refl, f2, rfl, rfl⟩
      unfold fX11_looks
      rw [bR_0_7, bK_11, hb_of (hasP_y hF hp), if_1z, hb_of (show fX11_within (iN n) (0 : Int32) (30 : Int32) (encC I A L pr ot T) = some (1, (encC I A L pr ot T)) from within_y (Nat.zero_le n) hn30 (by decide)), if_1z, bR_0_10, bK_35, hb_of f1, if_pos hF1]
    · obtain ⟨J1, B1, rdv1, f1, f2, f3⟩ := mk.fits (I := I) (E := E) (L := L) (pr := pr) (ot := ot) (M := M) (T := T) (rdv' := rdv) hmJ hm2 hn hx frJ.refl frRB.refl hp
      rw [← hF0] at f1
      refine ⟨J1, B1, M, rdv1, ?_, (frRJ.u (by decide)).trans f2.rj, f3, f2 12 (by decide) (by decide) (by decide) (by decide) (by decide), rfl⟩
      unfold fX12_looks
      rw [brW_13, brK, hb_of (show fX12_isMan 45 (iN p) (encC I E L pr ot (encR (u1 J 13 0) B M rdv ru T)) = some (1, (encC I E L pr ot (encR (u1 J 13 0) B M rdv ru T))) from r_isMan mk.1 hp), if_1z, hb_of (show fX12_in (iN n) (0 : Int32) (30 : Int32) (encC I E L pr ot (encR (u1 J 13 0) B M rdv ru T)) = some (1, (encC I E L pr ot (encR (u1 J 13 0) B M rdv ru T))) from in_y (Nat.zero_le n) hn30 (by decide)), if_1z, brK, hb_of (show fX12_fitting 45 (iN p) (encC I E L pr ot (encR (u1 J 13 0) B M rdv ru T)) = _ from f1), if_pos hF1]
  obtain ⟨f, hf⟩ : ∃ f, f = loM A pu G p n F := ⟨_, rfl⟩
  refine pairG_q (ans := iN (miH f 3)) (rw := some [(iN (f (miH f 3))).toInt64]) hI (fun T => ?_) (fun I E L pr ot T => ?_)
  · obtain ⟨A1, f1, f2⟩ := ck.fits (L := L) (ot := ot) (T := T) hmI hm2 hn frQ.refl hp
    rw [← hF0] at f1
    obtain ⟨A2, g1, g2⟩ := look_C (L := L) (ot := ot) (T := T) (mm := F) ck f2 hp (show n < 2000 by omega)
    rw [← hf] at g1
    refine ⟨u2 I 9 1 (iN 1), A2, vp_updL L 0 (iN (f (miH f 3))).toInt64, ?_, frI.u, g2, by simp, row_1 rfl⟩
    unfold fX11_looks
    rw [bR_0_7, bK_11, hb_of (hasP_y hF hp), if_1z, hb_of (show fX11_within (iN n) (0 : Int32) (30 : Int32) (encC I A L pr ot T) = some (1, (encC I A L pr ot T)) from within_y (Nat.zero_le n) hn30 (by decide)), if_1z, bR_0_10, bK_35, hb_of f1, if_neg hF1, bR_0_10, bK_35, hb_of g1]
  · obtain ⟨J1, B1, rdv1, f1, f2, f3⟩ := mk.fits (I := I) (E := E) (L := L) (pr := pr) (ot := ot) (M := M) (T := T) (rdv' := rdv) hmJ hm2 hn hx frJ.refl frRB.refl hp
    rw [← hF0] at f1
    obtain ⟨J2, B2, rdv2, g1, g2, g3, g4⟩ := look41_M (I := I) (E := E) (L := L) (pr := pr) (ot := ot) (M := M) (T := T) (rdv' := rdv1) (mm := F) (n := n) mk f2 f3 hp (by omega)
    obtain ⟨B3, k1, k2⟩ := look126_M (I := I) (E := E) (L := L) (pr := pr) (ot := ot) (J := J2) (B := B2) (M := M) (rdv := rdv2) (ru := ru) (T := T) (mm := F) (n := n) hz h6 hp ((g2.rj 1 (by omega)).trans mk.1.1) h8 g4
    rw [← hf] at k1
    have a1 := r_tell (I := I) (E := E) (L := L) (pr := pr) (ot := ot) (J := u1 J2 12 0) (B := B3) (M := M) (rdv := rdv2) (ru := ru) (T := T) (v := (iN (f (miH f 3))).toInt64) (n := 0) rfl (by decide)
    rw [u1_u1] at a1
    refine ⟨u1 J2 12 (iN 1), B3, vp_updL M 0 (iN (f (miH f 3))).toInt64, rdv2, ?_, ((frRJ.u (by decide)).trans g2.rj).trans (frRJ.u (by decide)), g3.trans k2, by simp, by rw [u1_eq, if_pos rfl]; exact row_1 rfl⟩
    unfold fX12_looks
    rw [brW_13, brK, hb_of (show fX12_isMan 45 (iN p) (encC I E L pr ot (encR (u1 J 13 0) B M rdv ru T)) = some (1, (encC I E L pr ot (encR (u1 J 13 0) B M rdv ru T))) from r_isMan mk.1 hp), if_1z, hb_of (show fX12_in (iN n) (0 : Int32) (30 : Int32) (encC I E L pr ot (encR (u1 J 13 0) B M rdv ru T)) = some (1, (encC I E L pr ot (encR (u1 J 13 0) B M rdv ru T))) from in_y (Nat.zero_le n) hn30 (by decide)), if_1z, brK, hb_of (show fX12_fitting 45 (iN p) (encC I E L pr ot (encR (u1 J 13 0) B M rdv ru T)) = _ from f1), if_neg hF1]
    refine (g1 _).trans ((k1 _).trans ?_)
    rw [brW_12, brK, hb_of a1]
end LS
