/-! CALLS: sheet (4) -/
section SK
variable {I A E : Nat → Nat → Int32} {L : Nat → Int64} {pr ot s : Nat} {J : Nat → Int32} {B : Nat → Nat → Int32} {M : Nat → Int64} {rdv : Value} {ru : Nat} {T : PH} {G P W : Nat} {out : Nat → Int64}
theorem p_sheet (h : INV s I A L pr ot J B M ru G P W) (md c x d : Int32) : pairG s I A L pr ot J B M rdv ru out (fX11_sheet 0 md c x d) (fX12_sheet 45 md c x d) := by
  rcases arg_le 3 (by decide) md with ⟨k, hk, rfl⟩ | hm
  rotate_left
  · refine pairG_q (ans := -1) h (fun T => qC_no ?_) (qM_no (fun I E L pr ot T => ?_))
    · unfold fX11_sheet
      rw [hb_of (show fX11_within md (0 : Int32) (3 : Int32) (encC I A L pr ot T) = some (0, (encC I A L pr ot T)) from within_n hm), if_0z]
    · unfold fX12_sheet
      rw [brW_13, hb_of (show fX12_in md (0 : Int32) (3 : Int32) (encC I E L pr ot (encR (u1 J 13 0) B M rdv ru T)) = some (0, (encC I E L pr ot (encR (u1 J 13 0) B M rdv ru T))) from in_n hm), if_0z]
  have wC : ∀ {I A : Nat → Nat → Int32} {L : Nat → Int64} {pr ot : Nat} {T : PH}, fX11_within (iN k) (0 : Int32) (3 : Int32) (encC I A L pr ot T) = some (1, (encC I A L pr ot T)) := within_y (Nat.zero_le k) hk (by decide)
  have wM : ∀ {I E : Nat → Nat → Int32} {L : Nat → Int64} {pr ot : Nat} {T : PH}, fX12_in (iN k) (0 : Int32) (3 : Int32) (encC I E L pr ot (encR (u1 J 13 0) B M rdv ru T)) = some (1, (encC I E L pr ot (encR (u1 J 13 0) B M rdv ru T))) := in_y (Nat.zero_le k) hk (by decide)
  by_cases h8 : c ≤ 8
  rotate_left
  · refine pairG_q (ans := -1) h (fun T => qC_no ?_) (qM_no (fun I E L pr ot T => ?_))
    · unfold fX11_sheet
      rw [hb_of wC, if_1z, if_neg h8]
    · unfold fX12_sheet
      rw [brW_13, hb_of wM, if_1z, if_neg h8]
  have e3 : ((3 : Int32) ≤ iN k) = (iN k = 3) := by
    rw [show (3 : Int32) = iN 3 from rfl, iN_le (by omega) (by omega), iN_eq (by omega) (by omega)]
    apply propext; omega
  by_cases hr : iN k = 3 ∨ 0 ≤ c
  · refine p_sheetJ h ?_ (fun I E => ?_)
    · unfold EH fX11_sheet
      rw [hb_of wC, if_1z, if_pos h8]
      by_cases h3 : iN k = 3
      · rw [if_pos h3]
      · rw [if_neg h3, if_pos (hr.resolve_left h3)]
    · unfold EH fX12_sheet
      rw [brW_13, hb_of wM, if_1z, if_pos h8]
      by_cases h3 : iN k = 3
      · rw [if_pos (by rw [e3]; exact h3)]
      · rw [if_neg (by rw [e3]; exact h3), if_pos (hr.resolve_left h3)]
  · have h3 : ¬ iN k = 3 := fun e => hr (Or.inl e)
    have h0 : ¬ 0 ≤ c := fun e => hr (Or.inr e)
    refine pairG_q (ans := -2) h (fun T => qC_no ?_) (qM_no (fun I E L pr ot T => ?_))
    · unfold fX11_sheet
      rw [hb_of wC, if_1z, if_pos h8, if_neg h3, if_neg h0]
    · unfold fX12_sheet
      rw [brW_13, hb_of wM, if_1z, if_pos h8, if_neg (by rw [e3]; exact h3), if_neg h0]
end SK
