/-! THE CALLS PUT TOGETHER: every call leads on; the start; the law -/
section AS
variable {I A E I' A' : Nat → Nat → Int32} {L L' : Nat → Int64} {pr ot s N : Nat} {J J' : Nat → Int32} {B B' : Nat → Nat → Int32} {M M' : Nat → Int64} {rdv : Value} {ru : Nat} {T : PH} {out : Nat → Int64} {G P W : Nat} {xs : Nat → Int32} {β : Type}
theorem ckC {f : Unit → Option β} : (h_ck 10 (EH I A L pr ot J B M rdv ru out) 0).bind f = f () := rfl
theorem ckM {f : Unit → Option β} : (h_ck 11 (EH I A L pr ot J B M rdv ru out) 45).bind f = f () := rfl
theorem rd1 (hN : N ≤ 2560) (hs : 5 * s + 5 ≤ N) {f : Int32 → Option β} : s_rd xs N (iN (5 * s) + (1 : Int32)) f = f (xs (5 * s + 1)) := by
  rw [show (1 : Int32) = iN 1 from rfl, iN_add]
  exact s_rd_in (by omega) hN
theorem rd2 (hN : N ≤ 2560) (hs : 5 * s + 5 ≤ N) {f : Int32 → Option β} : s_rd xs N (iN (5 * s) + (2 : Int32)) f = f (xs (5 * s + 2)) := by
  rw [show (2 : Int32) = iN 2 from rfl, iN_add]
  exact s_rd_in (by omega) hN
theorem rd3 (hN : N ≤ 2560) (hs : 5 * s + 5 ≤ N) {f : Int32 → Option β} : s_rd xs N (iN (5 * s) + (3 : Int32)) f = f (xs (5 * s + 3)) := by
  rw [show (3 : Int32) = iN 3 from rfl, iN_add]
  exact s_rd_in (by omega) hN
theorem rd4 (hN : N ≤ 2560) (hs : 5 * s + 5 ≤ N) {f : Int32 → Option β} : s_rd xs N (iN (5 * s) + (4 : Int32)) f = f (xs (5 * s + 4)) := by
  rw [show (4 : Int32) = iN 4 from rfl, iN_add]
  exact s_rd_in (by omega) hN
theorem i5 : iN (5 * s) + (5 : Int32) = iN (5 * (s + 1)) := by
  rw [show (5 : Int32) = iN 5 from rfl, iN_add, show 5 * s + 5 = 5 * (s + 1) by omega]
theorem r_thrown : fX12_thrown 45 (EH I A L pr ot J B M rdv ru out) = some (J 13, EH I A L pr ot J B M rdv ru out) := rfl
end AS
theorem st_0 : stepG fLc_0 := by
  intro xs N s I A L pr ot J B M rdv ru out G P W hN hs hI
  obtain ⟨ans, I', A', L', pr', ot', J', B', M', rdv', ru', G', P', W', e1, e2, e3⟩ := p_sign (rdv := rdv) (out := out) hI (xs (5 * s + 1))
  refine ⟨I', A', L', pr', ot', J', B', M', rdv', ru', out, G', P', W', e3, fun rc => ?_⟩
  unfold fLc_0
  rw [rd1 hN hs, ckC, hb_of e1, rd1 hN hs, ckM, hb_of e2, if_pos rfl, letE_eq, i5]
theorem st_1 : stepG fLc_1 := by
  intro xs N s I A L pr ot J B M rdv ru out G P W hN hs hI
  obtain ⟨ans, I', A', L', pr', ot', J', B', M', rdv', ru', G', P', W', e1, e2, e3⟩ := q_end (rdv := rdv) (out := out) hI (xs (5 * s + 1))
  refine ⟨I', A', L', pr', ot', J', B', M', rdv', ru', out, G', P', W', e3, fun rc => ?_⟩
  unfold fLc_1
  rw [rd1 hN hs, ckC, hb_of e1, rd1 hN hs, ckM, hb_of e2, if_pos rfl, letE_eq, i5]
theorem st_2 : stepG fLc_2 := by
  intro xs N s I A L pr ot J B M rdv ru out G P W hN hs hI
  obtain ⟨ans, I', A', L', pr', ot', J', B', M', rdv', ru', G', P', W', e1, e2, e3⟩ := p_grounds (rdv := rdv) (out := out) hI 
  refine ⟨I', A', L', pr', ot', J', B', M', rdv', ru', out, G', P', W', e3, fun rc => ?_⟩
  unfold fLc_2
  rw [ckC, hb_of e1, ckM, hb_of e2, if_pos rfl, letE_eq, i5]
theorem st_3 : stepG fLc_3 := by
  intro xs N s I A L pr ot J B M rdv ru out G P W hN hs hI
  obtain ⟨ans, I', A', L', pr', ot', J', B', M', rdv', ru', G', P', W', e1, e2, e3⟩ := p_people (rdv := rdv) (out := out) hI 
  refine ⟨I', A', L', pr', ot', J', B', M', rdv', ru', out, G', P', W', e3, fun rc => ?_⟩
  unfold fLc_3
  rw [ckC, hb_of e1, ckM, hb_of e2, if_pos rfl, letE_eq, i5]
theorem st_4 : stepG fLc_4 := by
  intro xs N s I A L pr ot J B M rdv ru out G P W hN hs hI
  obtain ⟨ans, I', A', L', pr', ot', J', B', M', rdv', ru', G', P', W', e1, e2, e3⟩ := p_wants (rdv := rdv) (out := out) hI 
  refine ⟨I', A', L', pr', ot', J', B', M', rdv', ru', out, G', P', W', e3, fun rc => ?_⟩
  unfold fLc_4
  rw [ckC, hb_of e1, ckM, hb_of e2, if_pos rfl, letE_eq, i5]
theorem st_5 : stepG fLc_5 := by
  intro xs N s I A L pr ot J B M rdv ru out G P W hN hs hI
  obtain ⟨ans, I', A', L', pr', ot', J', B', M', rdv', ru', G', P', W', e1, e2, e3⟩ := p_rule (rdv := rdv) (out := out) hI 
  refine ⟨I', A', L', pr', ot', J', B', M', rdv', ru', out, G', P', W', e3, fun rc => ?_⟩
  unfold fLc_5
  rw [ckC, hb_of e1, ckM, hb_of e2, if_pos rfl, letE_eq, i5]
theorem st_8 : stepG fLc_8 := by
  intro xs N s I A L pr ot J B M rdv ru out G P W hN hs hI
  obtain ⟨ans, I', A', L', pr', ot', J', B', M', rdv', ru', G', P', W', e1, e2, e3⟩ := p_held (rdv := rdv) (out := out) hI (xs (5 * s + 1)) (xs (5 * s + 2))
  refine ⟨I', A', L', pr', ot', J', B', M', rdv', ru', out, G', P', W', e3, fun rc => ?_⟩
  unfold fLc_8
  rw [rd1 hN hs, rd2 hN hs, ckC, hb_of e1, rd1 hN hs, rd2 hN hs, ckM, hb_of e2, if_pos rfl, letE_eq, i5]
theorem st_9 : stepG fLc_9 := by
  intro xs N s I A L pr ot J B M rdv ru out G P W hN hs hI
  obtain ⟨ans, I', A', L', pr', ot', J', B', M', rdv', ru', G', P', W', e1, e2, e3⟩ := p_sheet (rdv := rdv) (out := out) hI (xs (5 * s + 1)) (xs (5 * s + 2)) (xs (5 * s + 3)) (xs (5 * s + 4))
  refine ⟨I', A', L', pr', ot', J', B', M', rdv', ru', out, G', P', W', e3, fun rc => ?_⟩
  unfold fLc_9
  rw [rd1 hN hs, rd2 hN hs, rd3 hN hs, rd4 hN hs, ckC, hb_of e1, rd1 hN hs, rd2 hN hs, rd3 hN hs, rd4 hN hs, ckM, hb_of e2, if_pos rfl, letE_eq, i5]
theorem st_10 : stepG fLc_10 := by
  intro xs N s I A L pr ot J B M rdv ru out G P W hN hs hI
  obtain ⟨ans, I', A', L', pr', ot', J', B', M', rdv', ru', G', P', W', e1, e2, e3⟩ := p_gives (rdv := rdv) (out := out) hI (xs (5 * s + 1)) (xs (5 * s + 2))
  refine ⟨I', A', L', pr', ot', J', B', M', rdv', ru', out, G', P', W', e3, fun rc => ?_⟩
  unfold fLc_10
  rw [rd1 hN hs, rd2 hN hs, ckC, hb_of e1, rd1 hN hs, rd2 hN hs, ckM, hb_of e2, if_pos rfl, letE_eq, i5]
theorem st_11 : stepG fLc_11 := by
  intro xs N s I A L pr ot J B M rdv ru out G P W hN hs hI
  obtain ⟨ans, I', A', L', pr', ot', J', B', M', rdv', ru', G', P', W', e1, e2, e3⟩ := p_takesBack (rdv := rdv) (out := out) hI (xs (5 * s + 1)) (xs (5 * s + 2))
  refine ⟨I', A', L', pr', ot', J', B', M', rdv', ru', out, G', P', W', e3, fun rc => ?_⟩
  unfold fLc_11
  rw [rd1 hN hs, rd2 hN hs, ckC, hb_of e1, rd1 hN hs, rd2 hN hs, ckM, hb_of e2, if_pos rfl, letE_eq, i5]
theorem st_12 : stepG fLc_12 := by
  intro xs N s I A L pr ot J B M rdv ru out G P W hN hs hI
  obtain ⟨ans, I', A', L', pr', ot', J', B', M', rdv', ru', G', P', W', e1, e2, e3⟩ := p_makes (rdv := rdv) (out := out) hI (xs (5 * s + 1)) (xs (5 * s + 2))
  refine ⟨I', A', L', pr', ot', J', B', M', rdv', ru', out, G', P', W', e3, fun rc => ?_⟩
  unfold fLc_12
  rw [rd1 hN hs, rd2 hN hs, ckC, hb_of e1, rd1 hN hs, rd2 hN hs, ckM, hb_of e2, if_pos rfl, letE_eq, i5]
theorem st_13 : stepG fLc_13 := by
  intro xs N s I A L pr ot J B M rdv ru out G P W hN hs hI
  obtain ⟨ans, I', A', L', pr', ot', J', B', M', rdv', ru', G', P', W', e1, e2, e3⟩ := p_days (rdv := rdv) (out := out) hI (xs (5 * s + 1))
  refine ⟨I', A', L', pr', ot', J', B', M', rdv', ru', out, G', P', W', e3, fun rc => ?_⟩
  unfold fLc_13
  rw [rd1 hN hs, ckC, hb_of e1, rd1 hN hs, ckM, hb_of e2, if_pos rfl, letE_eq, i5]
theorem st_14 : stepG fLc_14 := by
  intro xs N s I A L pr ot J B M rdv ru out G P W hN hs hI
  obtain ⟨ans, I', A', L', pr', ot', J', B', M', rdv', ru', G', P', W', e1, e2, e3⟩ := p_year (rdv := rdv) (out := out) hI 
  refine ⟨I', A', L', pr', ot', J', B', M', rdv', ru', out, G', P', W', e3, fun rc => ?_⟩
  unfold fLc_14
  rw [ckC, hb_of e1, ckM, hb_of e2, if_pos rfl, letE_eq, i5]
theorem st_15 : stepG fLc_15 := by
  intro xs N s I A L pr ot J B M rdv ru out G P W hN hs hI
  obtain ⟨ans, I', A', L', pr', ot', J', B', M', rdv', ru', G', P', W', e1, e2, e3⟩ := p_undo (rdv := rdv) (out := out) hI 
  refine ⟨I', A', L', pr', ot', J', B', M', rdv', ru', out, G', P', W', e3, fun rc => ?_⟩
  unfold fLc_15
  rw [ckC, hb_of e1, ckM, hb_of e2, if_pos rfl, letE_eq, i5]
theorem st_16 : stepG fLc_16 := by
  intro xs N s I A L pr ot J B M rdv ru out G P W hN hs hI
  obtain ⟨ans, I', A', L', pr', ot', J', B', M', rdv', ru', G', P', W', e1, e2, e3⟩ := p_later (rdv := rdv) (out := out) hI (xs (5 * s + 1)) (xs (5 * s + 2)) (xs (5 * s + 3))
  refine ⟨I', A', L', pr', ot', J', B', M', rdv', ru', out, G', P', W', e3, fun rc => ?_⟩
  unfold fLc_16
  rw [rd1 hN hs, rd2 hN hs, rd3 hN hs, ckC, hb_of e1, rd1 hN hs, rd2 hN hs, rd3 hN hs, ckM, hb_of e2, if_pos rfl, letE_eq, i5]
theorem st_17 : stepG fLc_17 := by
  intro xs N s I A L pr ot J B M rdv ru out G P W hN hs hI
  obtain ⟨ans, I', A', L', pr', ot', J', B', M', rdv', ru', G', P', W', e1, e2, e3⟩ := p_settles (rdv := rdv) (out := out) hI (xs (5 * s + 1))
  refine ⟨I', A', L', pr', ot', J', B', M', rdv', ru', out, G', P', W', e3, fun rc => ?_⟩
  unfold fLc_17
  rw [rd1 hN hs, ckC, hb_of e1, rd1 hN hs, ckM, hb_of e2, if_pos rfl, letE_eq, i5]
theorem st_18 : stepG fLc_18 := by
  intro xs N s I A L pr ot J B M rdv ru out G P W hN hs hI
  obtain ⟨ans, I', A', L', pr', ot', J', B', M', rdv', ru', G', P', W', e1, e2, e3⟩ := p_when (rdv := rdv) (out := out) hI (xs (5 * s + 1)) (xs (5 * s + 2))
  refine ⟨I', A', L', pr', ot', J', B', M', rdv', ru', out, G', P', W', e3, fun rc => ?_⟩
  unfold fLc_18
  rw [rd1 hN hs, rd2 hN hs, ckC, hb_of e1, rd1 hN hs, rd2 hN hs, ckM, hb_of e2, if_pos rfl, letE_eq, i5]
theorem st_19 : stepG fLc_19 := by
  intro xs N s I A L pr ot J B M rdv ru out G P W hN hs hI
  obtain ⟨ans, I', A', L', pr', ot', J', B', M', rdv', ru', G', P', W', e1, e2, e3⟩ := p_lacks (rdv := rdv) (out := out) hI (xs (5 * s + 1)) (xs (5 * s + 2))
  refine ⟨I', A', L', pr', ot', J', B', M', rdv', ru', out, G', P', W', e3, fun rc => ?_⟩
  unfold fLc_19
  rw [rd1 hN hs, rd2 hN hs, ckC, hb_of e1, rd1 hN hs, rd2 hN hs, ckM, hb_of e2, if_pos rfl, letE_eq, i5]
theorem st_20 : stepG fLc_20 := by
  intro xs N s I A L pr ot J B M rdv ru out G P W hN hs hI
  obtain ⟨ans, I', A', L', pr', ot', J', B', M', rdv', ru', G', P', W', e1, e2, e3⟩ := p_richest (rdv := rdv) (out := out) hI 
  refine ⟨I', A', L', pr', ot', J', B', M', rdv', ru', out, G', P', W', e3, fun rc => ?_⟩
  unfold fLc_20
  rw [ckC, hb_of e1, ckM, hb_of e2, if_pos rfl, letE_eq, i5]
theorem st_21 : stepG fLc_21 := by
  intro xs N s I A L pr ot J B M rdv ru out G P W hN hs hI
  obtain ⟨ans, I', A', L', pr', ot', J', B', M', rdv', ru', G', P', W', e1, e2, e3⟩ := p_apart (rdv := rdv) (out := out) hI (xs (5 * s + 1)) (xs (5 * s + 2)) (xs (5 * s + 3))
  refine ⟨I', A', L', pr', ot', J', B', M', rdv', ru', out, G', P', W', e3, fun rc => ?_⟩
  unfold fLc_21
  rw [rd1 hN hs, rd2 hN hs, rd3 hN hs, ckC, hb_of e1, rd1 hN hs, rd2 hN hs, rd3 hN hs, ckM, hb_of e2, if_pos rfl, letE_eq, i5]
theorem st_22 : stepG fLc_22 := by
  intro xs N s I A L pr ot J B M rdv ru out G P W hN hs hI
  obtain ⟨ans, I', A', L', pr', ot', J', B', M', rdv', ru', G', P', W', e1, e2, e3⟩ := p_fewest (rdv := rdv) (out := out) hI (xs (5 * s + 1)) (xs (5 * s + 2)) (xs (5 * s + 3))
  refine ⟨I', A', L', pr', ot', J', B', M', rdv', ru', out, G', P', W', e3, fun rc => ?_⟩
  unfold fLc_22
  rw [rd1 hN hs, rd2 hN hs, rd3 hN hs, ckC, hb_of e1, rd1 hN hs, rd2 hN hs, rd3 hN hs, ckM, hb_of e2, if_pos rfl, letE_eq, i5]
theorem st_23 : stepG fLc_23 := by
  intro xs N s I A L pr ot J B M rdv ru out G P W hN hs hI
  obtain ⟨ans, I', A', L', pr', ot', J', B', M', rdv', ru', G', P', W', e1, e2, e3⟩ := p_serves (rdv := rdv) (out := out) hI (xs (5 * s + 1)) (xs (5 * s + 2))
  refine ⟨I', A', L', pr', ot', J', B', M', rdv', ru', out, G', P', W', e3, fun rc => ?_⟩
  unfold fLc_23
  rw [rd1 hN hs, rd2 hN hs, ckC, hb_of e1, rd1 hN hs, rd2 hN hs, ckM, hb_of e2, if_pos rfl, letE_eq, i5]
theorem st_24 : stepG fLc_24 := by
  intro xs N s I A L pr ot J B M rdv ru out G P W hN hs hI
  obtain ⟨ans, I', A', L', pr', ot', J', B', M', rdv', ru', G', P', W', e1, e2, e3⟩ := p_burdens (rdv := rdv) (out := out) hI (xs (5 * s + 1)) (xs (5 * s + 2))
  refine ⟨I', A', L', pr', ot', J', B', M', rdv', ru', out, G', P', W', e3, fun rc => ?_⟩
  unfold fLc_24
  rw [rd1 hN hs, rd2 hN hs, ckC, hb_of e1, rd1 hN hs, rd2 hN hs, ckM, hb_of e2, if_pos rfl, letE_eq, i5]
theorem st_25 : stepG fLc_25 := by
  intro xs N s I A L pr ot J B M rdv ru out G P W hN hs hI
  obtain ⟨ans, I', A', L', pr', ot', J', B', M', rdv', ru', G', P', W', e1, e2, e3⟩ := p_quarrels (rdv := rdv) (out := out) hI (xs (5 * s + 1))
  refine ⟨I', A', L', pr', ot', J', B', M', rdv', ru', out, G', P', W', e3, fun rc => ?_⟩
  unfold fLc_25
  rw [rd1 hN hs, ckC, hb_of e1, rd1 hN hs, ckM, hb_of e2, if_pos rfl, letE_eq, i5]
theorem st_26 : stepG fLc_26 := by
  intro xs N s I A L pr ot J B M rdv ru out G P W hN hs hI
  obtain ⟨ans, I', A', L', pr', ot', J', B', M', rdv', ru', G', P', W', e1, e2, e3⟩ := p_peace (rdv := rdv) (out := out) hI (xs (5 * s + 1))
  refine ⟨I', A', L', pr', ot', J', B', M', rdv', ru', out, G', P', W', e3, fun rc => ?_⟩
  unfold fLc_26
  rw [rd1 hN hs, ckC, hb_of e1, rd1 hN hs, ckM, hb_of e2, if_pos rfl, letE_eq, i5]
theorem st_27 : stepG fLc_27 := by
  intro xs N s I A L pr ot J B M rdv ru out G P W hN hs hI
  obtain ⟨ans, I', A', L', pr', ot', J', B', M', rdv', ru', G', P', W', e1, e2, e3⟩ := p_pulls (rdv := rdv) (out := out) hI (xs (5 * s + 1))
  refine ⟨I', A', L', pr', ot', J', B', M', rdv', ru', out, G', P', W', e3, fun rc => ?_⟩
  unfold fLc_27
  rw [rd1 hN hs, ckC, hb_of e1, rd1 hN hs, ckM, hb_of e2, if_pos rfl, letE_eq, i5]
theorem st_28 : stepG fLc_28 := by
  intro xs N s I A L pr ot J B M rdv ru out G P W hN hs hI
  obtain ⟨ans, I', A', L', pr', ot', J', B', M', rdv', ru', G', P', W', e1, e2, e3⟩ := p_seen (rdv := rdv) (out := out) hI (xs (5 * s + 1)) (xs (5 * s + 2)) (xs (5 * s + 3))
  refine ⟨I', A', L', pr', ot', J', B', M', rdv', ru', out, G', P', W', e3, fun rc => ?_⟩
  unfold fLc_28
  rw [rd1 hN hs, rd2 hN hs, rd3 hN hs, ckC, hb_of e1, rd1 hN hs, rd2 hN hs, rd3 hN hs, ckM, hb_of e2, if_pos rfl, letE_eq, i5]
theorem st_29 : stepG fLc_29 := by
  intro xs N s I A L pr ot J B M rdv ru out G P W hN hs hI
  obtain ⟨ans, I', A', L', pr', ot', J', B', M', rdv', ru', G', P', W', e1, e2, e3⟩ := p_forget (rdv := rdv) (out := out) hI 
  refine ⟨I', A', L', pr', ot', J', B', M', rdv', ru', out, G', P', W', e3, fun rc => ?_⟩
  unfold fLc_29
  rw [ckC, hb_of e1, ckM, hb_of e2, if_pos rfl, letE_eq, i5]
theorem st_30 : stepG fLc_30 := by
  intro xs N s I A L pr ot J B M rdv ru out G P W hN hs hI
  obtain ⟨ans, I', A', L', pr', ot', J', B', M', rdv', ru', G', P', W', e1, e2, e3⟩ := p_fits (rdv := rdv) (out := out) hI (xs (5 * s + 1))
  refine ⟨I', A', L', pr', ot', J', B', M', rdv', ru', out, G', P', W', e3, fun rc => ?_⟩
  unfold fLc_30
  rw [rd1 hN hs, ckC, hb_of e1, rd1 hN hs, ckM, hb_of e2, if_pos rfl, letE_eq, i5]
theorem st_31 : stepG fLc_31 := by
  intro xs N s I A L pr ot J B M rdv ru out G P W hN hs hI
  obtain ⟨ans, I', A', L', pr', ot', J', B', M', rdv', ru', G', P', W', e1, e2, e3⟩ := p_looks (rdv := rdv) (out := out) hI (xs (5 * s + 1)) (xs (5 * s + 2))
  refine ⟨I', A', L', pr', ot', J', B', M', rdv', ru', out, G', P', W', e3, fun rc => ?_⟩
  unfold fLc_31
  rw [rd1 hN hs, rd2 hN hs, ckC, hb_of e1, rd1 hN hs, rd2 hN hs, ckM, hb_of e2, if_pos rfl, letE_eq, i5]
theorem st_32 : stepG fLc_32 := by
  intro xs N s I A L pr ot J B M rdv ru out G P W hN hs hI
  obtain ⟨ans, I', A', L', pr', ot', J', B', M', rdv', ru', G', P', W', e1, e2, e3⟩ := p_covers (rdv := rdv) (out := out) hI (xs (5 * s + 1))
  refine ⟨I', A', L', pr', ot', J', B', M', rdv', ru', out, G', P', W', e3, fun rc => ?_⟩
  unfold fLc_32
  rw [rd1 hN hs, ckC, hb_of e1, rd1 hN hs, ckM, hb_of e2, if_pos rfl, letE_eq, i5]
theorem st_33 : stepG fLc_33 := by
  intro xs N s I A L pr ot J B M rdv ru out G P W hN hs hI
  obtain ⟨ans, I', A', L', pr', ot', J', B', M', rdv', ru', G', P', W', e1, e2, e3⟩ := p_shares (rdv := rdv) (out := out) hI (xs (5 * s + 1))
  refine ⟨I', A', L', pr', ot', J', B', M', rdv', ru', out, G', P', W', e3, fun rc => ?_⟩
  unfold fLc_33
  rw [rd1 hN hs, ckC, hb_of e1, rd1 hN hs, ckM, hb_of e2, if_pos rfl, letE_eq, i5]
theorem st_34 : stepG fLc_34 := by
  intro xs N s I A L pr ot J B M rdv ru out G P W hN hs hI
  obtain ⟨ans, I', A', L', pr', ot', J', B', M', rdv', ru', G', P', W', e1, e2, e3⟩ := p_counter (rdv := rdv) (out := out) hI (xs (5 * s + 1)) (xs (5 * s + 2))
  refine ⟨I', A', L', pr', ot', J', B', M', rdv', ru', out, G', P', W', e3, fun rc => ?_⟩
  unfold fLc_34
  rw [rd1 hN hs, rd2 hN hs, ckC, hb_of e1, rd1 hN hs, rd2 hN hs, ckM, hb_of e2, if_pos rfl, letE_eq, i5]
theorem st_35 : stepG fLc_35 := by
  intro xs N s I A L pr ot J B M rdv ru out G P W hN hs hI
  obtain ⟨ans, I', A', L', pr', ot', J', B', M', rdv', ru', G', P', W', e1, e2, e3⟩ := p_right (rdv := rdv) (out := out) hI (xs (5 * s + 1)) (xs (5 * s + 2))
  refine ⟨I', A', L', pr', ot', J', B', M', rdv', ru', out, G', P', W', e3, fun rc => ?_⟩
  unfold fLc_35
  rw [rd1 hN hs, rd2 hN hs, ckC, hb_of e1, rd1 hN hs, rd2 hN hs, ckM, hb_of e2, if_pos rfl, letE_eq, i5]
theorem st_36 : stepG fLc_36 := by
  intro xs N s I A L pr ot J B M rdv ru out G P W hN hs hI
  obtain ⟨ans, I', A', L', pr', ot', J', B', M', rdv', ru', G', P', W', e1, e2, e3⟩ := p_same (rdv := rdv) (out := out) hI (xs (5 * s + 1))
  refine ⟨I', A', L', pr', ot', J', B', M', rdv', ru', out, G', P', W', e3, fun rc => ?_⟩
  unfold fLc_36
  rw [rd1 hN hs, ckC, hb_of e1, rd1 hN hs, ckM, hb_of e2, if_pos rfl, letE_eq, i5]
theorem st_37 : stepG fLc_37 := by
  intro xs N s I A L pr ot J B M rdv ru out G P W hN hs hI
  obtain ⟨ans, I', A', L', pr', ot', J', B', M', rdv', ru', G', P', W', e1, e2, e3⟩ := p_rests (rdv := rdv) (out := out) hI (xs (5 * s + 1)) (xs (5 * s + 2))
  refine ⟨I', A', L', pr', ot', J', B', M', rdv', ru', out, G', P', W', e3, fun rc => ?_⟩
  unfold fLc_37
  rw [rd1 hN hs, rd2 hN hs, ckC, hb_of e1, rd1 hN hs, rd2 hN hs, ckM, hb_of e2, if_pos rfl, letE_eq, i5]
theorem st_38 : stepG fLc_38 := by
  intro xs N s I A L pr ot J B M rdv ru out G P W hN hs hI
  obtain ⟨ans, I', A', L', pr', ot', J', B', M', rdv', ru', G', P', W', e1, e2, e3⟩ := p_law (rdv := rdv) (out := out) hI 
  refine ⟨I', A', L', pr', ot', J', B', M', rdv', ru', out, G', P', W', e3, fun rc => ?_⟩
  unfold fLc_38
  rw [ckC, hb_of e1, ckM, hb_of e2, if_pos rfl, letE_eq, i5]
theorem st_39 : stepG fLc_39 := by
  intro xs N s I A L pr ot J B M rdv ru out G P W hN hs hI
  obtain ⟨ans, I', A', L', pr', ot', J', B', M', rdv', ru', G', P', W', e1, e2, e3⟩ := p_years (rdv := rdv) (out := out) hI (xs (5 * s + 1)) (xs (5 * s + 2))
  refine ⟨I', A', L', pr', ot', J', B', M', rdv', ru', out, G', P', W', e3, fun rc => ?_⟩
  unfold fLc_39
  rw [rd1 hN hs, rd2 hN hs, ckC, hb_of e1, rd1 hN hs, rd2 hN hs, ckM, hb_of e2, if_pos rfl, letE_eq, i5]
theorem st_40 : stepG fLc_40 := by
  intro xs N s I A L pr ot J B M rdv ru out G P W hN hs hI
  obtain ⟨ans, I', A', L', pr', ot', J', B', M', rdv', ru', G', P', W', e1, e2, e3⟩ := p_keep (rdv := rdv) (out := out) hI (xs (5 * s + 1))
  refine ⟨I', A', L', pr', ot', J', B', M', rdv', ru', out, G', P', W', e3, fun rc => ?_⟩
  unfold fLc_40
  rw [rd1 hN hs, ckC, hb_of e1, rd1 hN hs, ckM, hb_of e2, if_pos rfl, letE_eq, i5]
theorem st_41 : stepG fLc_41 := by
  intro xs N s I A L pr ot J B M rdv ru out G P W hN hs hI
  obtain ⟨ans, I', A', L', pr', ot', J', B', M', rdv', ru', G', P', W', e1, e2, e3⟩ := p_again (rdv := rdv) (out := out) hI (by omega) (xs (5 * s + 1))
  refine ⟨I', A', L', pr', ot', J', B', M', rdv', ru', out, G', P', W', e3, fun rc => ?_⟩
  unfold fLc_41
  rw [rd1 hN hs, ckC, hb_of e1, rd1 hN hs, ckM, hb_of e2, if_pos rfl, letE_eq, i5]
theorem st_42 : stepG fLc_42 := by
  intro xs N s I A L pr ot J B M rdv ru out G P W hN hs hI
  obtain ⟨ans, I', A', L', pr', ot', J', B', M', rdv', ru', G', P', W', e1, e2, e3⟩ := p_count (rdv := rdv) (out := out) hI (xs (5 * s + 1))
  refine ⟨I', A', L', pr', ot', J', B', M', rdv', ru', out, G', P', W', e3, fun rc => ?_⟩
  unfold fLc_42
  rw [rd1 hN hs, ckC, hb_of e1, rd1 hN hs, ckM, hb_of e2, if_pos rfl, letE_eq, i5]
theorem st_6 : stepG fLc_6 := by
  intro xs N s I A L pr ot J B M rdv ru out G P W hN hs hI
  obtain ⟨r, e1, e2⟩ := p_ground (rdv := rdv) hI (xs (5 * s + 1)) (xs (5 * s + 2)) [.inl (.long, (1, .inr (.inl out)))]
  cases r with
  | none =>
    have e3 := e2 [.inl (.long, (1, .inr (.inl out)))]
    refine ⟨I, A, L, pr, ot, u1 J 13 1, B, M, rdv, ru, out, G, P, W, hI.thr, fun rc => ?_⟩
    unfold fLc_6 fL_ground
    rw [rd1 hN hs, rd2 hN hs, ckC, hb_of (show fX11_ground_T 0 _ _ (EH I A L pr ot J B M rdv ru out) = some (none, EH I A L pr ot J B M rdv ru out) from e1), hb_some, rd1 hN hs, rd2 hN hs, ckM, hb_of (show fX12_ground 45 _ _ (EH I A L pr ot J B M rdv ru out) = some (0, EH I A L pr ot (u1 J 13 1) B M rdv ru out) from e3), ckM, hb_of r_thrown, if_pos (show u1 J 13 1 13 = 1 from u1_at), if_neg (by decide), letE_eq, i5]
  | some x =>
    have e3 := e2 [.inl (.long, (1, .inr (.inl (vp_updL out 0 x.toInt64))))]
    refine ⟨I, A, L, pr, ot, u1 J 13 0, B, M, rdv, ru, vp_updL out 0 x.toInt64, G, P, W, hI.thr, fun rc => ?_⟩
    unfold fLc_6 fL_ground
    rw [rd1 hN hs, rd2 hN hs, ckC, hb_of (show fX11_ground_T 0 _ _ (EH I A L pr ot J B M rdv ru out) = some (some x, EH I A L pr ot J B M rdv ru out) from e1)]
    try dsimp only
    rw [lst78, bd_some, hb_some, rd1 hN hs, rd2 hN hs, ckM, hb_of (show fX12_ground 45 _ _ (EH I A L pr ot J B M rdv ru (vp_updL out 0 x.toInt64)) = some (x, EH I A L pr ot (u1 J 13 0) B M rdv ru (vp_updL out 0 x.toInt64)) from e3), ckM, hb_of r_thrown, if_pos (show u1 J 13 0 13 = 0 from u1_at), if_pos rfl, lld78, bd_some, updL_eq, cmp_self, if_pos rfl, letE_eq, i5]
theorem st_7 : stepG fLc_7 := by
  intro xs N s I A L pr ot J B M rdv ru out G P W hN hs hI
  obtain ⟨r, e1, e2⟩ := p_person (rdv := rdv) hI (xs (5 * s + 1)) (xs (5 * s + 2)) [.inl (.long, (1, .inr (.inl out)))]
  cases r with
  | none =>
    have e3 := e2 [.inl (.long, (1, .inr (.inl out)))]
    refine ⟨I, A, L, pr, ot, u1 J 13 1, B, M, rdv, ru, out, G, P, W, hI.thr, fun rc => ?_⟩
    unfold fLc_7 fL_person
    rw [rd1 hN hs, rd2 hN hs, ckC, hb_of (show fX11_person_T 0 _ _ (EH I A L pr ot J B M rdv ru out) = some (none, EH I A L pr ot J B M rdv ru out) from e1), hb_some, rd1 hN hs, rd2 hN hs, ckM, hb_of (show fX12_person 45 _ _ (EH I A L pr ot J B M rdv ru out) = some (0, EH I A L pr ot (u1 J 13 1) B M rdv ru out) from e3), ckM, hb_of r_thrown, if_pos (show u1 J 13 1 13 = 1 from u1_at), if_neg (by decide), letE_eq, i5]
  | some x =>
    have e3 := e2 [.inl (.long, (1, .inr (.inl (vp_updL out 0 x.toInt64))))]
    refine ⟨I, A, L, pr, ot, u1 J 13 0, B, M, rdv, ru, vp_updL out 0 x.toInt64, G, P, W, hI.thr, fun rc => ?_⟩
    unfold fLc_7 fL_person
    rw [rd1 hN hs, rd2 hN hs, ckC, hb_of (show fX11_person_T 0 _ _ (EH I A L pr ot J B M rdv ru out) = some (some x, EH I A L pr ot J B M rdv ru out) from e1)]
    try dsimp only
    rw [lst78, bd_some, hb_some, rd1 hN hs, rd2 hN hs, ckM, hb_of (show fX12_person 45 _ _ (EH I A L pr ot J B M rdv ru (vp_updL out 0 x.toInt64)) = some (x, EH I A L pr ot (u1 J 13 0) B M rdv ru (vp_updL out 0 x.toInt64)) from e3), ckM, hb_of r_thrown, if_pos (show u1 J 13 0 13 = 0 from u1_at), if_pos rfl, lld78, bd_some, updL_eq, cmp_self, if_pos rfl, letE_eq, i5]
theorem st_43 : stepG fLc_43 := by
  intro xs N s I A L pr ot J B M rdv ru out G P W hN hs hI
  obtain ⟨r, e1, e2⟩ := p_row (rdv := rdv) hI (xs (5 * s + 1)) [.inl (.long, (1, .inr (.inl out)))]
  cases r with
  | none =>
    have e3 := e2 [.inl (.long, (1, .inr (.inl out)))]
    refine ⟨I, A, L, pr, ot, u1 J 13 1, B, M, rdv, ru, out, G, P, W, hI.thr, fun rc => ?_⟩
    unfold fLc_43 fL_row
    rw [rd1 hN hs, ckC, hb_of (show fX11_row_T 0 _ (EH I A L pr ot J B M rdv ru out) = some (none, EH I A L pr ot J B M rdv ru out) from e1), hb_some, rd1 hN hs, ckM, hb_of (show fX12_row 45 _ (EH I A L pr ot J B M rdv ru out) = some (0, EH I A L pr ot (u1 J 13 1) B M rdv ru out) from e3), ckM, hb_of r_thrown, if_pos (show u1 J 13 1 13 = 1 from u1_at), if_neg (by decide), letE_eq, i5]
  | some x =>
    have e3 := e2 [.inl (.long, (1, .inr (.inl (vp_updL out 0 x))))]
    refine ⟨I, A, L, pr, ot, u1 J 13 0, B, M, rdv, ru, vp_updL out 0 x, G, P, W, hI.thr, fun rc => ?_⟩
    unfold fLc_43 fL_row
    rw [rd1 hN hs, ckC, hb_of (show fX11_row_T 0 _ (EH I A L pr ot J B M rdv ru out) = some (some x, EH I A L pr ot J B M rdv ru out) from e1)]
    try dsimp only
    rw [lst78, bd_some, hb_some, rd1 hN hs, ckM, hb_of (show fX12_row 45 _ (EH I A L pr ot J B M rdv ru (vp_updL out 0 x)) = some (x, EH I A L pr ot (u1 J 13 0) B M rdv ru (vp_updL out 0 x)) from e3), ckM, hb_of r_thrown, if_pos (show u1 J 13 0 13 = 0 from u1_at), if_pos rfl, lld78, bd_some, updL_eq, cmp_self, if_pos rfl, letE_eq, i5]
theorem st_sw (x : Int32) : stepG (fun xs N o1 o2 o3 i rc h => fLsw xs N o1 o2 o3 i rc x h) := by
  unfold fLsw
  exact stepG_ite (c := fun y => y = (0 : Int32)) x st_0 (stepG_ite (c := fun y => y = (1 : Int32)) x st_1 (stepG_ite (c := fun y => y = (2 : Int32)) x st_2 (stepG_ite (c := fun y => y = (3 : Int32)) x st_3 (stepG_ite (c := fun y => y = (4 : Int32)) x st_4 (stepG_ite (c := fun y => y = (5 : Int32)) x st_5 (stepG_ite (c := fun y => y = (6 : Int32)) x st_6 (stepG_ite (c := fun y => y = (7 : Int32)) x st_7 (stepG_ite (c := fun y => y = (8 : Int32)) x st_8 (stepG_ite (c := fun y => y = (9 : Int32)) x st_9 (stepG_ite (c := fun y => y = (10 : Int32)) x st_10 (stepG_ite (c := fun y => y = (11 : Int32)) x st_11 (stepG_ite (c := fun y => y = (12 : Int32)) x st_12 (stepG_ite (c := fun y => y = (13 : Int32)) x st_13 (stepG_ite (c := fun y => y = (14 : Int32)) x st_14 (stepG_ite (c := fun y => y = (15 : Int32)) x st_15 (stepG_ite (c := fun y => y = (16 : Int32)) x st_16 (stepG_ite (c := fun y => y = (17 : Int32)) x st_17 (stepG_ite (c := fun y => y = (18 : Int32)) x st_18 (stepG_ite (c := fun y => y = (19 : Int32)) x st_19 (stepG_ite (c := fun y => y = (20 : Int32)) x st_20 (stepG_ite (c := fun y => y = (21 : Int32)) x st_21 (stepG_ite (c := fun y => y = (22 : Int32)) x st_22 (stepG_ite (c := fun y => y = (23 : Int32)) x st_23 (stepG_ite (c := fun y => y = (24 : Int32)) x st_24 (stepG_ite (c := fun y => y = (25 : Int32)) x st_25 (stepG_ite (c := fun y => y = (26 : Int32)) x st_26 (stepG_ite (c := fun y => y = (27 : Int32)) x st_27 (stepG_ite (c := fun y => y = (28 : Int32)) x st_28 (stepG_ite (c := fun y => y = (29 : Int32)) x st_29 (stepG_ite (c := fun y => y = (30 : Int32)) x st_30 (stepG_ite (c := fun y => y = (31 : Int32)) x st_31 (stepG_ite (c := fun y => y = (32 : Int32)) x st_32 (stepG_ite (c := fun y => y = (33 : Int32)) x st_33 (stepG_ite (c := fun y => y = (34 : Int32)) x st_34 (stepG_ite (c := fun y => y = (35 : Int32)) x st_35 (stepG_ite (c := fun y => y = (36 : Int32)) x st_36 (stepG_ite (c := fun y => y = (37 : Int32)) x st_37 (stepG_ite (c := fun y => y = (38 : Int32)) x st_38 (stepG_ite (c := fun y => y = (39 : Int32)) x st_39 (stepG_ite (c := fun y => y = (40 : Int32)) x st_40 (stepG_ite (c := fun y => y = (41 : Int32)) x st_41 (stepG_ite (c := fun y => y = (42 : Int32)) x st_42 (stepG_ite (c := fun y => y = (43 : Int32)) x st_43 (stepG_no))))))))))))))))))))))))))))))))))))))))))))
theorem Z00_0 {j : Nat} (h : ¬ (32 ≤ j ∧ j < 80)) : Z00 48 j = 0 := by rw [Z00_eq, if_neg h]
theorem Z00_h {p g : Nat} (hp : p < 6) (hg : g < 8) : hdB (Z00 48) p g = false := by
  unfold hdB
  rw [Z00_eq, if_pos (by omega)]
  rfl
theorem INV0 : INV 0 I00 A00 (fun _ => 0) 19 23 (fun _ => 0) (fun _ _ => 0) (fun _ => 0) 56 0 0 0 := by
  have a28 : A00 28 = Z00 48 := rfl
  have a32 : A00 32 = Z00 48 := rfl
  have n0 : ∀ {k : Nat} {p : Prop}, k < 0 → p := fun h => absurd h (Nat.not_lt_zero _)
  have nzz : nz (Z00 48) := fun j hj => Z00_0 (by omega)
  refine ⟨⟨rfl, rfl, rfl, by decide, by decide, by decide⟩, ⟨rfl, rfl, rfl, by decide, by decide, by decide, fun g hg => n0 hg, fun k hk => n0 (show k < 0 by omega), fun p hp => n0 hp, fun w hw => n0 hw⟩, fun k hk => n0 (show k < 0 by omega), ?_, ?_, by rw [a32]; exact nzz, ⟨0, by decide, rfl, rfl, fun k hk => n0 hk⟩, ⟨Or.inl ⟨rfl, rfl⟩, rfl, pu0, 0, by decide, RU0 rfl, MUR0, rfl⟩, ⟨0, 0, by decide, by decide, rfl, rfl, rfl, fun j hj => n0 hj⟩, ⟨0, fun _ => false, Nat.le_refl _, rfl, by decide, fun i hi => ⟨fun f => (by cases f), fun _ => Or.inl rfl⟩⟩, ⟨0, by decide, rfl, rfl, fun k hk => n0 hk⟩, ⟨0, by decide, rfl, rfl, fun k hk => n0 hk⟩, ⟨rfl, rfl, rfl, rfl, rfl, rfl, rfl, rfl, rfl, rfl⟩⟩
  · rw [a28]
    refine ⟨nzz, fun g hg => ?_, fun p hp h hh => ?_, fun p g hp hg hb => ?_⟩
    · rw [Z00_0 (by omega)]; decide
    · rw [Z00_0 (by omega)]; decide
    · rw [Z00_h hp hg] at hb; cases hb
  · rw [a28]
    refine ⟨fun k hk => (Z00_0 (by omega)).symm, fun p hp => ?_, fun p g hp hg hb => ?_, (Z00_0 (by omega)).symm, (Z00_0 (by omega)).symm⟩
    · rw [bt_congr (g := fun _ => false) (fun k hk => Z00_h hp hk)]
      show (0 : Int32) = bt (fun _ => false) 8
      decide
    · rw [Z00_h hp hg] at hb; cases hb
set_option maxRecDepth 100000 in
theorem law_holds : LawHolds := by
  intro xs L hL
  obtain ⟨h', e⟩ := law_loop st_sw (xs := xs) hL 520 0 I00 A00 (fun _ => 0) 19 23 (fun _ => 0) (fun _ _ => 0) (fun _ => 0) .null 56 (fun _ => 0) 0 0 0 (by omega) (by omega) INV0 FU (by unfold FU; omega)
  refine ⟨h', ?_⟩
  unfold fL_start h_new
  show h_bd (fX11_init 0 [.inr (10, [.null, .null, .null, .null, .null, .null, .null, .null, .null, .null, .null])]) _ = _
  rw [hb_of init_C]
  show h_bd (fX12_init 45 (H00 ++ [.inr (11, [.null, .int 0, .int 0, .int 0, .null, .null, .null, .null, .null, .null, .int 0, .null, .int 0, .int 0, .null, .int 0, .int 0, .int 0, .int 0, .null, .null, .null, .null, .int 0, .int 0, .null, .null, .int 0, .null, .null, .null, .int 0, .null, .null, .null, .null, .null, .int 0, .null, .null, .null, .null, .null, .null, .int 0, .null, .int 0, .int 0, .null, .null, .null])])) _ = _
  rw [hb_of init_M]
  exact e
