/-! CALLS: fits (4) -/
section FW_
variable {I A E I' A' : Nat → Nat → Int32} {L L' : Nat → Int64} {pr ot s : Nat} {J J' : Nat → Int32} {B B' : Nat → Nat → Int32} {M M' : Nat → Int64} {rdv rdv' : Value} {ru : Nat} {T : PH} {G P W p q g n nr sz ro oa w t k N d m : Nat} {Z Z' R X a : Nat → Int32} {x y z i2 acc : Int32} {out : Nat → Int64} {pu : (Nat → Int32) → Int32}
theorem p_fits (h : INV s I A L pr ot J B M ru G P W) (x : Int32) : pairG s I A L pr ot J B M rdv ru out (fX11_fits 0 x) (fX12_fits 45 x) := by
  have hI := h
  obtain ⟨pu, ck, -, mk⟩ := h.km
  obtain ⟨hF, hM, hpl, hz, hc, hn2, -, -, -, -, hnt, -⟩ := h
  have h6 := hM.2.2.2.2.1
  have h8 := hM.2.2.2.1
  have hMb : FM A (u1 J 13 (iN 0)) B G P W := mk.1
  obtain ⟨m, hm2, hmI, hmJ, hn, hx⟩ := hnt.mc
  rcases arg_lt P (by omega) x with ⟨p, hp, rfl⟩ | hxx
  · obtain ⟨F, hF0⟩ : ∃ F, F = bt (fiB A pu G m p) G := ⟨_, rfl⟩
    obtain ⟨S, hS⟩ : ∃ S, S = seN A pu G m p (A 28) 31 := ⟨_, rfl⟩
    refine pairG_q (ans := F) (rw := some [(bc F).toInt64, if S then 1 else 0]) hI (fun T => ?_) (fun I E L pr ot T => ?_)
    · obtain ⟨A1, f1, f2⟩ := ck.fits (L := L) (ot := ot) (T := T) hmI hm2 hn frQ.refl hp
      rw [← hF0] at f1
      have a1 := c_add (I := I) (A := A1) (L := L) (pr := pr) (ot := ot) (T := T) (v := (bc F).toInt64) (n := 0) (by decide)
      obtain ⟨A2, g1, g2⟩ := (ck.i (v := iN 1)).fitB (L := vp_updL L 0 (bc F).toInt64) (ot := ot) (T := T) hmI hm2 hn f2 hp
      rw [← hS] at g1
      have a2 := c_add (I := I) (A := A2) (L := vp_updL L 0 (bc F).toInt64) (pr := pr) (ot := ot) (T := T) (v := if S then 1 else 0) (n := 1) (by decide)
      refine ⟨u2 I 9 1 (iN 2), A2, vp_updL (vp_updL L 0 (bc F).toInt64) 1 (if S then 1 else 0), ?_, frI.u, g2, by simp, row_2 rfl⟩
      unfold fX11_fits
      rw [bR_0_7, bK_11, hb_of (hasP_y hF hp), if_1z, bR_0_10, bK_35, hb_of f1, bR_0_6, bK_9, hb_of c_start, bR_0_6, hb_of c_bitCount, bK_9, hb_of a1, bR_0_6, bR_0_10, bK_35, hb_of g1]
      unfold fX11_fits_J61
      cases S
      · rw [if_pos (show (if false = true then (1 : Int32) else 0) = 0 from rfl), bK_9]
        exact hb_of a2
      · rw [if_pos rfl, if_neg (by decide), bK_9]
        exact hb_of a2
    · obtain ⟨J1, B1, rdv1, f1, f2, f3⟩ := mk.fits (I := I) (E := E) (L := L) (pr := pr) (ot := ot) (M := M) (T := T) (rdv' := rdv) hmJ hm2 hn hx frJ.refl frRB.refl hp
      rw [← hF0] at f1
      have mk2 : MKK A (u1 J1 12 (iN 1)) B G P W ru pu := mk.fr (f2.rj.trans (frRJ.u (by decide))) frRB.refl
      have a1 := r_tell (I := I) (E := E) (L := L) (pr := pr) (ot := ot) (J := u1 J1 12 (iN 0)) (B := B1) (M := M) (rdv := rdv1) (ru := ru) (T := T) (v := (bc F).toInt64) (n := 0) (by rw [u1_eq, if_pos rfl]) (by decide)
      rw [u1_u1] at a1
      obtain ⟨J2, B2, rdv2, g1, g2, g3⟩ := mk2.fit (I := I) (E := E) (L := L) (pr := pr) (ot := ot) (M := vp_updL M 0 (bc F).toInt64) (T := T) (rdv' := rdv1) ((f2.rj.trans (frRJ.u (by decide)) 37 (by omega)).trans hmJ) hm2 hn (fun k hk => (hx k hk).1) (fun k hk => (hx k hk).2.1) (fun k hk => (hx k hk).2.2) frJ.refl f3 hp (ldF_no G h8)
      rw [← hS] at g1
      have e12 : J2 12 = iN 1 := (g2 12 (by decide) (by decide) (by decide) (by decide) (by decide)).trans (by rw [u1_eq, if_pos rfl])
      have a2 := r_tell (I := I) (E := E) (L := L) (pr := pr) (ot := ot) (J := J2) (B := B2) (M := vp_updL M 0 (bc F).toInt64) (rdv := rdv2) (ru := ru) (T := T) (v := if S then 1 else 0) (n := 1) e12 (by decide)
      refine ⟨u1 J2 12 (iN 2), B2, vp_updL (vp_updL M 0 (bc F).toInt64) 1 (if S then 1 else 0), rdv2, ?_, ((((frRJ.u (by decide)).trans f2.rj).trans (frRJ.u (by decide))).trans g2.rj).trans (frRJ.u (by decide)), g3, by simp, by rw [u1_eq, if_pos rfl]; exact row_2 rfl⟩
      unfold fX12_fits
      rw [brW_13, brK, hb_of (show fX12_isMan 45 (iN p) (encC I E L pr ot (encR (u1 J 13 0) B M rdv ru T)) = some (1, (encC I E L pr ot (encR (u1 J 13 0) B M rdv ru T))) from r_isMan mk.1 hp), if_1z, brK, hb_of (show fX12_fitting 45 (iN p) (encC I E L pr ot (encR (u1 J 13 0) B M rdv ru T)) = _ from f1), brW_12, hb_of c_bitCount, brK, hb_of (show fX12_tell 45 (bc F).toInt64 (encC I E L pr ot (encR (u1 J1 12 0) B1 M rdv1 ru T)) = _ from a1), brK, hb_of (show fX12_isSeen 45 (iN p) (0 : Int32) (encC I E L pr ot (encR (u1 J1 12 (iN 1)) B1 (vp_updL M 0 (bc F).toInt64) rdv1 ru T)) = _ from g1)]
      unfold fX12_fits_J50
      cases S
      · rw [if_pos (show (if false = true then (1 : Int32) else 0) = 0 from rfl), brK]
        exact hb_of a2
      · rw [if_pos rfl, if_neg (by decide), brK]
        exact hb_of a2
  · refine pairG_q (ans := -1) hI (fun T => qC_no ?_) (qM_no (fun I E L pr ot T => ?_))
    · simp (disch := first | omega | assumption | (simp (disch := omega) only [iN_lit, iN_add, iN_mul, iN_pred, iN_pred', iN_lt, iN_le, iN_eq, iN_nat, nlt_t, nlt_f, nle_t, nle_f, neq_t, neq_f, List.length_nil, List.length_cons, or_false, false_or, or_self, not_false_eq_true, not_true_eq_false, ↓reduceIte, if_true, if_false, Bool.false_eq_true, Nat.reduceAdd])) only [fX11_fits, ↓bK_11, ↓bK_35, ↓bK_9, ↓bR_0_7, ↓bR_0_10, ↓bR_0_6, ↓hb_of (hasP_y _ _), ↓hb_of (hasP_n _ _), ↓hb_of (c_start), ↓hb_of (c_bitCount), ↓hb_of (c_add _), ↓hb_some, ↓bd_some, ↓letE_eq, h_z0, h_z1, h_zi0, h_zi1, ↓hb_of (hasP_n hF hxx), iN_lit, iN_add, iN_mul, iN_pred, iN_pred', iN_lt, iN_le, iN_eq, iN_nat, nlt_t, nlt_f, nle_t, nle_f, neq_t, neq_f, List.length_nil, List.length_cons, or_false, false_or, or_self, not_false_eq_true, not_true_eq_false, ↓reduceIte, if_true, if_false, Bool.false_eq_true, Nat.reduceAdd]
    · unfold fX12_fits
      simp only [iN_lit]
      rw [brW_13, brK, hb_of (isM_n hMb hxx), if_00]
end FW_
