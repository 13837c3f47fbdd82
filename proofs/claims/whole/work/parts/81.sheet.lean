/-! CALLS: sheet (3) -/
section SI
variable {I A E I' A' : Nat → Nat → Int32} {L L' : Nat → Int64} {pr ot s : Nat} {J J' : Nat → Int32} {B B' : Nat → Nat → Int32} {M M' : Nat → Int64} {rdv rdv' : Value} {ru : Nat} {T : PH} {G P W p q g n k : Nat} {Z Z' : Nat → Int32} {md c x d v : Int32} {out : Nat → Int64}
theorem p_sheetJ (h : INV s I A L pr ot J B M ru G P W) (hC : fX11_sheet 0 md c x d (EH I A L pr ot J B M rdv ru out) = fX11_sheet_J29 0 md c x d (EH I A L pr ot J B M rdv ru out)) (hM' : ∀ (I E : Nat → Nat → Int32), fX12_sheet 45 md c x d (EH I E L pr ot J B M rdv ru out) = fX12_sheet_J34 45 md c x d (EH I E L pr ot (u1 J 13 0) B M rdv ru out)) : pairG s I A L pr ot J B M rdv ru out (fX11_sheet 0 md c x d) (fX12_sheet 45 md c x d) := by
  have hI := h
  obtain ⟨hF, hM, hpl, hz, hc, hn2, htx, hrl, hpas, hkp, hnt, hrw, hfm⟩ := h
  have h8 := hM.2.2.2.1
  have hz' : OK G P (shZ (A 28) md c x d G) := hz.sh G h8
  have hc' : CP (shZ (A 28) md c x d G) (shZ (B 0) md c x d G) := hc.sh G h8
  obtain ⟨Z, hZ⟩ : ∃ Z, Z = shZ (A 28) md c x d G := ⟨_, rfl⟩
  obtain ⟨a, ha⟩ : ∃ a, a = shZ (B 0) md c x d G := ⟨_, rfl⟩
  rw [← hZ] at hz' hc'
  rw [← ha] at hc'
  have fin : INV (s + 1) I (u1 A 28 Z) L pr ot (u1 J 13 0) (u1 B 0 a) M ru G P W := hI.now (fun o k _ _ => rfl) (fun y hy => by rw [u1_eq, if_neg (by omega)]) (fun i hi => rfl) hn2 (fun y hy => by rw [u1_eq, if_neg (by omega)]) (fun y hy => by rw [u1_eq, if_neg (by omega)]) hz' hc' (hpas.fr rfl rfl rfl rfl rfl) (hrw.fr rfl rfl)
  have eC : fX11_sheet_J29 0 md c x d (EH I A L pr ot J B M rdv ru out) = (fun h1 => if md = (3 : Int32) then (some ((-3 : Int32), h1)) else ((h_gr 10 8 h1 0).bind fun q2 => (h_ck 7 h1 q2).bind fun _ => h_bd (fX8_stockOfAll q2 h1) fun x3 h4 => some (x3, h4))) (EH I (u1 A 28 Z) L pr ot J B M rdv ru out) := by
    rw [hZ]
    exact sheet_C hF.1 h8 _
  have eM : fX12_sheet_J34 45 md c x d (EH I (u1 A 28 Z) L pr ot (u1 J 13 0) B M rdv ru out) = (fun h1 => if md = (3 : Int32) then (some ((-3 : Int32), h1)) else ((h_ck 11 h1 45).bind fun _ => h_bd (fX12_stock 45 h1) fun x2 h3 => some (x2, h3))) (EH I (u1 A 28 Z) L pr ot (u1 J 13 0) (u1 B 0 a) M rdv ru out) := by
    rw [ha]
    exact sheet_M (J := u1 J 13 0) (show (u1 J 13 0) 1 = iN G from hM.1) h8 _
  by_cases h3 : md = 3
  · refine ⟨-3, I, u1 A 28 Z, L, pr, ot, u1 J 13 0, u1 B 0 a, M, rdv, ru, G, P, W, ?_, ?_, fin⟩
    · rw [hC, eC]
      exact if_pos h3
    · rw [hM', eM]
      exact if_pos h3
  · refine ⟨sm Z G, I, u1 A 28 Z, L, pr, ot, u1 J 13 0, u1 B 0 a, M, rdv, ru, G, P, W, ?_, ?_, fin⟩
    · rw [hC, eC]
      refine (if_neg h3).trans ?_
      have f := c_stockOfAll (I := I) (A := u1 A 28 Z) (L := L) (pr := pr) (ot := ot) (T := encR J B M rdv ru [.inl (.long, (1, .inr (.inl out)))]) (o := 27) hF (Or.inl rfl)
      have e : (u1 A 28 Z) (27 + 1) = Z := rfl
      rw [e] at f
      unfold EH
      rw [bR_0_8, bK_27, hb_of f]
    · rw [hM', eM]
      refine (if_neg h3).trans ?_
      have f := r_stock (I := I) (E := u1 A 28 Z) (L := L) (pr := pr) (ot := ot) (J := u1 J 13 0) (B := u1 B 0 a) (M := M) (rdv := rdv) (ru := ru) (T := [.inl (.long, (1, .inr (.inl out)))]) (A := u1 A 28 Z) (P := P) (W := W) (G := G) (Z := Z) fin.2.1 (by rw [u1_eq, if_pos rfl]; exact hc')
      unfold EH
      rw [brK, hb_of f]
end SI
