/-! SHARES -/
section SHx
variable {I A : Nat → Nat → Int32} {L : Nat → Int64} {pr ot s : Nat} {J : Nat → Int32} {B : Nat → Nat → Int32} {M : Nat → Int64} {rdv : Value} {ru : Nat} {out : Nat → Int64} {G P W n : Nat} {T : PH} {pu : (Nat → Int32) → Int32}
theorem sh_C (c : CK I A G P W pr pu) (hn : n ≤ 20) :
    qC I A L pr ot T (fX11_shares 0 (iN n)) (iN (sN (woN A pu G W n) P + optR (gaN A pu G W n) G P 0 (lfN A))) (some (rL (lnS (gaN A pu G W n) G P (lfN A)) P)) := by
  have hF := c.1
  have h8 := hF.2.2.2.1
  have h6 := hF.2.2.2.2.1
  have h7 := hF.2.2.2.2.2
  have hz := c.2.2.2.2.1
  obtain ⟨A1, f1, f2, f3⟩ := rg_C (L := L) (ot := ot) (T := T) c hn
  obtain ⟨A2, g1, g2⟩ := so_C (I := I) (L := L) (pr := pr) (ot := ot) (T := T) (A := A1) (ga := gaN A pu G W n) (lf := lfN A) hF.1 hF.2.1 h8 h6 (fun q g => Nat.le_trans gaN_le (by omega)) (fun g => lf_lt hz) f3 (fun g hg => by rw [f2.1 28 (by omega)]; exact (lf_28 hz (by omega)).1)
  have fr : frQ A A2 := f2.trans ⟨fun x hx => g2 x (by omega) (by omega) (by omega), fun h => by rw [g2 32 (by decide) (by decide) (by decide)]; exact h⟩
  refine ⟨u2 I 9 1 (iN P), A2, vL L (lnS (gaN A pu G W n) G P (lfN A)) P, ?_, frI.u, fr, ?_, ?_⟩
  · have ea : iN (sN (woN A pu G W n) P) + iN (optR (gaN A pu G W n) G P 0 (lfN A)) = iN (sN (woN A pu G W n) P + optR (gaN A pu G W n) G P 0 (lfN A)) := iN_add
    rw [← ea]
    generalize sN (woN A pu G W n) P = x at f1 ⊢
    generalize optR (gaN A pu G W n) G P 0 (lfN A) = y at g1 ⊢
    unfold fX11_shares
    rw [hb_of (show fX11_within (iN n) (0 : Int32) (20 : Int32) (encC I A L pr ot T) = some (1, (encC I A L pr ot T)) from within_y (Nat.zero_le n) hn (by decide)), if_1z, bR_0_10, bK_35, hb_of f1, bR_0_10, bK_35, hb_of g1]
  · show (rL (lnS (gaN A pu G W n) G P (lfN A)) P).length ≤ 8
    rw [rL_len]; omega
  · rw [u2_eq, if_pos ⟨rfl, rfl⟩]; exact vL_C P
theorem p_shares (h : INV s I A L pr ot J B M ru G P W) (x : Int32) : pairG s I A L pr ot J B M rdv ru out (fX11_shares 0 x) (fX12_shares 45 x) := by
  have hI := h
  obtain ⟨pu, ck, -, mk⟩ := h.km
  rcases arg_le 20 (by decide) x with ⟨n, hn, rfl⟩ | hx
  · exact pairG_q hI (fun T => sh_C ck hn) (sh_M mk hn)
  · refine pairG_q (ans := -1) hI (fun T => qC_no ?_) (qM_no (fun I E L pr ot T => ?_))
    · unfold fX11_shares
      simp only [iN_lit]
      rw [hb_of (within_n (show ¬ (iN 0 ≤ x ∧ x ≤ iN 20) from hx)), if_00]
    · unfold fX12_shares
      simp only [iN_lit]
      rw [brW_13, hb_of (in_n (show ¬ (iN 0 ≤ x ∧ x ≤ iN 20) from hx)), if_00]
end SHx
