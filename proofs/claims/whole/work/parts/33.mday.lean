/-! DAYS by the model; what stands right -/
/-- the model's row with what p holds a day longer -/
def hdA (a : Nat → Int32) (p : Nat) : Nat → Nat → Int32
  | 0 => a
  | g + 1 => if hasB (a (32 + p)) g then upd (hdA a p g) (38 + 8 * p + g) (mn99 (a (38 + 8 * p + g) + 1)) else hdA a p g
section MD
variable {I A E : Nat → Nat → Int32} {L : Nat → Int64} {pr ot : Nat} {J : Nat → Int32} {B : Nat → Nat → Int32} {M : Nat → Int64} {rdv : Value} {ru : Nat} {T : PH} {G P W p g w t oa nr h q : Nat} {Z : Nat → Int32} {R : Nat → Int32} {pu : (Nat → Int32) → Int32}
theorem hdA_out {a : Nat → Int32} {j : Nat} : ∀ k, ¬ (38 + 8 * p ≤ j ∧ j < 38 + 8 * p + k) → hdA a p k j = a j
  | 0, _ => rfl
  | k + 1, h => by
    unfold hdA
    split
    · rw [upd_ne (by omega)]; exact hdA_out k (by omega)
    · exact hdA_out k (by omega)
theorem hdA_in {a : Nat → Int32} {j : Nat} : ∀ k, j < k → hdA a p k (38 + 8 * p + j) = (if hasB (a (32 + p)) j then mn99 (a (38 + 8 * p + j) + 1) else a (38 + 8 * p + j))
  | 0, h => absurd h (Nat.not_lt_zero _)
  | k + 1, h => by
    unfold hdA
    by_cases e : j = k
    · subst e
      split
      · rename_i c; rw [upd_eq]
      · exact hdA_out j (by omega)
    · split
      · rw [upd_ne (by omega)]; exact hdA_in k (by omega)
      · exact hdA_in k (by omega)
/-- what holds of DAYS that are held -/
theorem OK.dh (hz : OK G P Z) (hp : p < 6) (hg : g < 8) (hb : hdB Z p g = true) : 0 ≤ Z (32 + p * 8 + g) ∧ Z (32 + p * 8 + g) ≤ 99 := (hz.2.2.2 p g hp hg hb).2.2
theorem OK.hdB_hd (hz : OK G P Z) (h8 : G ≤ 8) (hp : p < 6) (hq : q < 6) (hg : g < 8) : hdB (hdZ G q Z) p g = hdB Z p g := hdB_hdZ (fun g hg hb => hz.dh hp hg hb) q hp hq hg h8
theorem CP.hd {a : Nat → Int32} (hc : CP Z a) (hz : OK G P Z) (h8 : G ≤ 8) (hp : p < 6) : CP (hdZ G p Z) (hdA a p G) := by
  obtain ⟨c1, c2, c3, c4, c5⟩ := id hc
  have o1 : ∀ j, j < 32 ∨ 80 ≤ j → hdZ G p Z j = Z j := fun j hj => by
    unfold hdZ
    rw [if_neg (fun c => by have := c.1; have := c.2.1; omega)]
  have o2 : ∀ j, j < 38 ∨ 86 ≤ j → hdA a p G j = a j := fun j hj => hdA_out G (by omega)
  refine ⟨fun k hk => ?_, fun q hq => ?_, fun q g hq hg hb => ?_, ?_, ?_⟩
  · rw [o2 k (by omega), o1 k (by omega)]; exact c1 k hk
  · rw [o2 _ (by omega), c2 q hq]
    exact bt_congr (fun g hg => (hz.hdB_hd h8 hq hp hg).symm)
  · rw [hz.hdB_hd h8 hq hp hg] at hb
    have hg2 := (hz.2.2.2 q g hq hg hb).2.1
    have hne : ¬ Z (32 + q * 8 + g) = -1 := by unfold hdB at hb; simpa using hb
    by_cases e : q = p
    · subst e
      rw [hdA_in G hg2, hc.has hq hg, if_pos hb, c3 q g hq hg hb]
      unfold hdZ
      rw [if_pos ⟨by omega, by omega, hne⟩]
    · rw [hdA_out G (by omega), c3 q g hq hg hb]
      unfold hdZ
      rw [if_neg (fun c => by have := c.1; have := c.2.1; omega)]
  · rw [o2 _ (by omega), o1 _ (by omega)]; exact c4
  · rw [o2 _ (by omega), o1 _ (by omega)]; exact c5
theorem CP.dy {a : Nat → Int32} (hc : CP Z a) : CP (upd Z 80 (Z 80 + 1)) (upd a 86 (a 86 + 1)) := by
  obtain ⟨c1, c2, c3, c4, c5⟩ := hc
  have hh : ∀ p g, p < 6 → g < 8 → hdB (upd Z 80 (Z 80 + 1)) p g = hdB Z p g := fun p g hp hg => by
    unfold hdB; rw [upd_ne (by omega)]
  refine ⟨fun k hk => ?_, fun q hq => ?_, fun q g hq hg hb => ?_, ?_, ?_⟩
  · rw [upd_ne (by omega), upd_ne (by omega)]; exact c1 k hk
  · rw [upd_ne (by omega), c2 q hq]
    exact bt_congr (fun g hg => (hh q g hq hg).symm)
  · rw [upd_ne (by omega), upd_ne (by omega)]
    exact c3 q g hq hg (by rw [← hh q g hq hg]; exact hb)
  · rw [upd_eq, upd_eq, c4]
  · rw [upd_ne (by omega), upd_ne (by omega)]; exact c5
theorem OK.gm (hz : OK G P Z) (hp : p < 6) : OK G P (gmZ A pu G p Z) := by
  obtain ⟨z1, z2, z3, z4⟩ := hz
  have o1 : ∀ j, 32 ≤ j → gmZ A pu G p Z j = Z j := fun j hj => gmZ_out (by omega)
  have hh : ∀ q g, hdB (gmZ A pu G p Z) q g = hdB Z q g := fun q g => by unfold hdB; rw [o1 _ (by omega)]
  refine ⟨fun j hj => ?_, fun g hg => ?_, fun q hq h hh => ?_, fun q g hq hg hb => ?_⟩
  · rw [o1 j (by omega)]; exact z1 j hj
  · rw [gmZ_out (by omega)]; exact z2 g hg
  · unfold gmZ
    split
    · exact cl9_ok _
    · exact z3 q hq h hh
  · rw [hh] at hb
    rw [o1 _ (by omega)]
    exact z4 q g hq hg hb
theorem OK.hd (hz : OK G P Z) (h8 : G ≤ 8) (hp : p < 6) : OK G P (hdZ G p Z) := by
  obtain ⟨z1, z2, z3, z4⟩ := id hz
  have o1 : ∀ j, j < 32 ∨ 80 ≤ j → hdZ G p Z j = Z j := fun j hj => by
    unfold hdZ
    rw [if_neg (fun c => by have := c.1; have := c.2.1; omega)]
  refine ⟨fun j hj => ?_, fun g hg => ?_, fun q hq h hh => ?_, fun q g hq hg hb => ?_⟩
  · rw [o1 j (by omega)]; exact z1 j hj
  · rw [o1 g (by omega)]; exact z2 g hg
  · rw [o1 _ (by omega)]; exact z3 q hq h hh
  · rw [hz.hdB_hd h8 hq hp hg] at hb
    obtain ⟨a1, a2, a3, a4⟩ := z4 q g hq hg hb
    refine ⟨a1, a2, ?_⟩
    unfold hdZ
    split
    · exact mn99_ok a3 a4
    · exact ⟨a3, a4⟩
theorem OK.dy (hz : OK G P Z) {v : Int32} : OK G P (upd Z 80 v) := by
  obtain ⟨z1, z2, z3, z4⟩ := hz
  refine ⟨fun j hj => ?_, fun g hg => ?_, fun q hq h hh => ?_, fun q g hq hg hb => ?_⟩
  · rw [upd_ne (by omega)]; exact z1 j hj
  · rw [upd_ne (by omega)]; exact z2 g hg
  · rw [upd_ne (by omega)]; exact z3 q hq h hh
  · unfold hdB at hb
    rw [upd_ne (by omega)] at hb ⊢
    exact z4 q g hq hg hb
theorem dyP_eq (hp : p < 6) (h8 : G ≤ 8) : dyP A pu G p Z = upd (hdZ G p (gmZ A pu G p Z)) 80 (Z 80 + 1) := by
  unfold dyP
  congr 1
  funext j
  unfold lvZ hdZ
  by_cases c : 8 + p * 4 ≤ j ∧ j < 8 + p * 4 + 4
  · rw [if_pos c, if_neg (fun d => by have := d.1; omega)]
    unfold gmZ
    rw [if_pos c]
  · rw [if_neg c, gmZ_out c]
theorem OK.dyP (hz : OK G P Z) (h8 : G ≤ 8) (hp : p < 6) : OK G P (dyP A pu G p Z) := by
  rw [dyP_eq hp h8]
  exact ((hz.gm hp).hd h8 hp).dy
theorem OK.ps (hz : OK G P Z) (h8 : G ≤ 8) (hp : p < 6) : ∀ n, OK G P (psZ A pu G p Z n)
  | 0 => hz
  | n + 1 => (OK.ps hz h8 hp n).dyP h8 hp
theorem OK.gmF (hz : OK G P Z) : ∀ k, k ≤ 6 → OK G P (gmF A pu G Z k)
  | 0, _ => hz
  | k + 1, hk => (OK.gmF hz k (by omega)).gm (by omega)
theorem OK.hdF (hz : OK G P Z) (h8 : G ≤ 8) : ∀ k, k ≤ 6 → OK G P (hdF G Z k)
  | 0, _ => hz
  | k + 1, hk => (OK.hdF hz h8 k (by omega)).hd h8 (by omega)
theorem OK.da (hz : OK G P Z) (h8 : G ≤ 8) (h6 : P ≤ 6) : OK G P (daM A pu G P Z) := ((hz.gmF P h6).hdF h8 P h6).dy
theorem OK.dn (hz : OK G P Z) (h8 : G ≤ 8) (h6 : P ≤ 6) : ∀ n, OK G P (daN A pu G P Z n)
  | 0 => hz
  | n + 1 => (OK.dn hz h8 h6 n).da h8 h6
/-- the loop that has what p holds a day longer: goAlone -/
theorem r_goAlone (hM : FM A J B G P W) (hu : MUR nr R pu) (hJ : J 23 = iN nr) (hR : B (rf ru) = R) (hru : ru = 56 ∨ ru = 57) (hp : p < P) (hc : CP Z (B 29)) (hz : OK G P Z) :
    ∃ J' B' rdv', fX12_goAlone 45 (iN p) (encC I E L pr ot (encR J B M rdv ru T)) = some ((), (encC I E L pr ot (encR J' B' M rdv' ru T))) ∧ frJ J J' ∧ frB 29 B B' ∧ CP (dyP A pu G p Z) (B' 29) := by
  have h8 := hM.2.2.2.1
  have h6 := hM.2.2.2.2.1
  have hrf := rf_or ru
  obtain ⟨J1, B1, rdv1, f1, f2, f3, f4⟩ := r_goMan (I := I) (E := E) (L := L) (pr := pr) (ot := ot) (M := M) (rdv := rdv) (ru := ru) (T := T) (oa := 61) hM hu hJ hR hru (Or.inr rfl) hp hc hz
  rw [fb_61] at f3 f4
  have hM' : FM A J1 B1 G P W := hM.fr f2 f3 (Or.inr rfl)
  have hG := hM'.1
  have hz1 : OK G P (gmZ A pu G p Z) := hz.gm (by omega)
  have key := lp_det (fun n k (a : Nat → Int32) => fX12_goAlone_L11 45 (iN p) (fun h3 => (h_gr 11 29 h3 45).bind fun q4 => (h_ald .int h3 q4 (86 : Int32)).bind fun x5 => (h_ast .int h3 q4 (86 : Int32) (x5 + (1 : Int32))).bind fun h6 => some ((), h6)) n (iN k) (encC I E L pr ot (encR J1 (u1 B1 29 a) M rdv1 ru T))) (fun a => some ((), (encC I E L pr ot (encR J1 (u1 B1 29 (upd a 86 (a 86 + 1))) M rdv1 ru T)))) (fun k => hdA (B1 29) p k) G
    (fun k hk n => by
      have e2 : hdA (B1 29) p k (32 + p) = B1 29 (32 + p) := hdA_out k (by omega)
      have e3 : hdA (B1 29) p k (38 + 8 * p + k) = B1 29 (38 + 8 * p + k) := hdA_out k (by omega)
      cases hb : hasB (B1 29 (32 + p)) k with
      | true =>
        have e1 : hdA (B1 29) p (k + 1) = upd (hdA (B1 29) p k) (38 + 8 * p + k) (mn99 (B1 29 (38 + 8 * p + k) + 1)) := by
          show (if _ then _ else _) = _
          rw [if_pos hb]
        rw [e1]
        unfold mn99
        simp (disch := first | omega | assumption | (simp (disch := omega) only [iN_lit, iN_add, iN_mul, iN_pred, iN_pred', iN_lt, iN_le, iN_eq, iN_nat, nlt_t, nlt_f, nle_t, nle_f, neq_t, neq_f, List.length_nil, List.length_cons, or_false, false_or, or_self, not_false_eq_true, not_true_eq_false, ↓reduceIte, if_true, if_false, Bool.false_eq_true, Nat.reduceAdd])) only [fX12_goAlone_L11, ↓brR_29, ↓brA_29, ↓brS_29, ↓brG_1, fX12_goAlone_J70_11, ↓hb_of (has_y _), ↓hb_of (has_n _), ↓hb_some, ↓bd_some, ↓letE_eq, h_z0, h_z1, h_zi0, h_zi1, iN_lit, iN_add, iN_mul, iN_pred, iN_pred', iN_lt, iN_le, iN_eq, iN_nat, nlt_t, nlt_f, nle_t, nle_f, neq_t, neq_f, List.length_nil, List.length_cons, or_false, false_or, or_self, not_false_eq_true, not_true_eq_false, ↓reduceIte, if_true, if_false, Bool.false_eq_true, Nat.reduceAdd, hG, u1_eq, u1_u1, e2, e3]
      | false =>
        have e1 : hdA (B1 29) p (k + 1) = hdA (B1 29) p k := by
          show (if _ then _ else _) = _
          rw [if_neg (by rw [hb]; decide)]
        rw [e1]
        simp (disch := first | omega | assumption | (simp (disch := omega) only [iN_lit, iN_add, iN_mul, iN_pred, iN_pred', iN_lt, iN_le, iN_eq, iN_nat, nlt_t, nlt_f, nle_t, nle_f, neq_t, neq_f, List.length_nil, List.length_cons, or_false, false_or, or_self, not_false_eq_true, not_true_eq_false, ↓reduceIte, if_true, if_false, Bool.false_eq_true, Nat.reduceAdd])) only [fX12_goAlone_L11, ↓brR_29, ↓brA_29, ↓brS_29, ↓brG_1, fX12_goAlone_J70_11, ↓hb_of (has_y _), ↓hb_of (has_n _), ↓hb_some, ↓bd_some, ↓letE_eq, h_z0, h_z1, h_zi0, h_zi1, iN_lit, iN_add, iN_mul, iN_pred, iN_pred', iN_lt, iN_le, iN_eq, iN_nat, nlt_t, nlt_f, nle_t, nle_f, neq_t, neq_f, List.length_nil, List.length_cons, or_false, false_or, or_self, not_false_eq_true, not_true_eq_false, ↓reduceIte, if_true, if_false, Bool.false_eq_true, Nat.reduceAdd, hG, u1_eq, u1_u1, e2, e3])
    (fun n => by simp (disch := first | omega | assumption | (simp (disch := omega) only [iN_lit, iN_add, iN_mul, iN_pred, iN_pred', iN_lt, iN_le, iN_eq, iN_nat, nlt_t, nlt_f, nle_t, nle_f, neq_t, neq_f, List.length_nil, List.length_cons, or_false, false_or, or_self, not_false_eq_true, not_true_eq_false, ↓reduceIte, if_true, if_false, Bool.false_eq_true, Nat.reduceAdd])) only [fX12_goAlone_L11, ↓brR_29, ↓brA_29, ↓brS_29, ↓brG_1, fX12_goAlone_J70_11, fX12_goAlone, ↓brK, ↓hb_of (has_y _), ↓hb_of (has_n _), ↓hb_some, ↓bd_some, ↓letE_eq, h_z0, h_z1, h_zi0, h_zi1, iN_lit, iN_add, iN_mul, iN_pred, iN_pred', iN_lt, iN_le, iN_eq, iN_nat, nlt_t, nlt_f, nle_t, nle_f, neq_t, neq_f, List.length_nil, List.length_cons, or_false, false_or, or_self, not_false_eq_true, not_true_eq_false, ↓reduceIte, if_true, if_false, Bool.false_eq_true, Nat.reduceAdd, hG, u1_eq, u1_u1]) FU (by unfold FU; omega)
  have e4 : u1 B1 29 (hdA (B1 29) p 0) = B1 := u1_self
  rw [e4] at key
  refine ⟨J1, u1 B1 29 (upd (hdA (B1 29) p G) 86 (hdA (B1 29) p G 86 + 1)), rdv1, ?_, f2, fun x x1 x2 x3 => ?_, ?_⟩
  · simp (disch := first | omega | assumption | (simp (disch := omega) only [iN_lit, iN_add, iN_mul, iN_pred, iN_pred', iN_lt, iN_le, iN_eq, iN_nat, nlt_t, nlt_f, nle_t, nle_f, neq_t, neq_f, List.length_nil, List.length_cons, or_false, false_or, or_self, not_false_eq_true, not_true_eq_false, ↓reduceIte, if_true, if_false, Bool.false_eq_true, Nat.reduceAdd])) only [fX12_goAlone, ↓brK, ↓brR_29, ↓brA_29, ↓brS_29, fX12_goAlone_J70_11, ↓hb_some, ↓bd_some, ↓letE_eq, h_z0, h_z1, h_zi0, h_zi1, ↓hb_of f1, iN_lit, iN_add, iN_mul, iN_pred, iN_pred', iN_lt, iN_le, iN_eq, iN_nat, nlt_t, nlt_f, nle_t, nle_f, neq_t, neq_f, List.length_nil, List.length_cons, or_false, false_or, or_self, not_false_eq_true, not_true_eq_false, ↓reduceIte, if_true, if_false, Bool.false_eq_true, Nat.reduceAdd] at key ⊢
    exact key
  · rw [u1_eq, if_neg x3]; exact f3 x x1 x2 x3
  · rw [u1_eq, if_pos rfl, dyP_eq (by omega) h8]
    have e80 : hdZ G p (gmZ A pu G p Z) 80 = Z 80 := by
      unfold hdZ
      rw [if_neg (fun c => by have := c.1; have := c.2.1; omega), gmZ_out (by omega)]
    rw [← e80]
    exact (f4.hd hz1 h8 (by omega)).dy
theorem r_goDay63 (hM : FM A J B G P W) (ha : oa = 46 ∨ oa = 61) (hp : p < P) (kx : PH → Option (Unit × PH)) : fX12_goDay_L63 45 oa (iN p) kx FU (iN 0) (encC I E L pr ot (encR J B M rdv ru T)) = kx (encC I E L pr ot (encR J (u1 B (fb oa) (hdA (B (fb oa)) p G)) M rdv ru T)) := by
  have hG := hM.1
  have h8 := hM.2.2.2.1
  have h6 := hM.2.2.2.2.1
  have key := lp_det (fun n k (a : Nat → Int32) => fX12_goDay_L63 45 oa (iN p) kx n (iN k) (encC I E L pr ot (encR J (u1 B (fb oa) a) M rdv ru T))) (fun a => kx (encC I E L pr ot (encR J (u1 B (fb oa) a) M rdv ru T))) (fun k => hdA (B (fb oa)) p k) G
    (fun k hk n => by
      have e2 : hdA (B (fb oa)) p k (32 + p) = B (fb oa) (32 + p) := hdA_out k (by omega)
      have e3 : hdA (B (fb oa)) p k (38 + 8 * p + k) = B (fb oa) (38 + 8 * p + k) := hdA_out k (by omega)
      cases hb : hasB (B (fb oa) (32 + p)) k with
      | true =>
        have e1 : hdA (B (fb oa)) p (k + 1) = upd (hdA (B (fb oa)) p k) (38 + 8 * p + k) (mn99 (B (fb oa) (38 + 8 * p + k) + 1)) := by
          show (if _ then _ else _) = _
          rw [if_pos hb]
        rw [e1]
        unfold mn99
        simp (disch := first | omega | assumption | (simp (disch := omega) only [iN_lit, iN_add, iN_mul, iN_pred, iN_pred', iN_lt, iN_le, iN_eq, iN_nat, nlt_t, nlt_f, nle_t, nle_f, neq_t, neq_f, List.length_nil, List.length_cons, or_false, false_or, or_self, not_false_eq_true, not_true_eq_false, ↓reduceIte, if_true, if_false, Bool.false_eq_true, Nat.reduceAdd])) only [fX12_goDay_L63, ↓brG_1, fX12_goDay_J113_63, ↓hb_of (has_y _), ↓hb_of (has_n _), ↓maA _, ↓maS _, ↓hb_some, ↓bd_some, ↓letE_eq, h_z0, h_z1, h_zi0, h_zi1, iN_lit, iN_add, iN_mul, iN_pred, iN_pred', iN_lt, iN_le, iN_eq, iN_nat, nlt_t, nlt_f, nle_t, nle_f, neq_t, neq_f, List.length_nil, List.length_cons, or_false, false_or, or_self, not_false_eq_true, not_true_eq_false, ↓reduceIte, if_true, if_false, Bool.false_eq_true, Nat.reduceAdd, hG, u1_eq, u1_u1, e2, e3]
      | false =>
        have e1 : hdA (B (fb oa)) p (k + 1) = hdA (B (fb oa)) p k := by
          show (if _ then _ else _) = _
          rw [if_neg (by rw [hb]; decide)]
        rw [e1]
        simp (disch := first | omega | assumption | (simp (disch := omega) only [iN_lit, iN_add, iN_mul, iN_pred, iN_pred', iN_lt, iN_le, iN_eq, iN_nat, nlt_t, nlt_f, nle_t, nle_f, neq_t, neq_f, List.length_nil, List.length_cons, or_false, false_or, or_self, not_false_eq_true, not_true_eq_false, ↓reduceIte, if_true, if_false, Bool.false_eq_true, Nat.reduceAdd])) only [fX12_goDay_L63, ↓brG_1, fX12_goDay_J113_63, ↓hb_of (has_y _), ↓hb_of (has_n _), ↓maA _, ↓maS _, ↓hb_some, ↓bd_some, ↓letE_eq, h_z0, h_z1, h_zi0, h_zi1, iN_lit, iN_add, iN_mul, iN_pred, iN_pred', iN_lt, iN_le, iN_eq, iN_nat, nlt_t, nlt_f, nle_t, nle_f, neq_t, neq_f, List.length_nil, List.length_cons, or_false, false_or, or_self, not_false_eq_true, not_true_eq_false, ↓reduceIte, if_true, if_false, Bool.false_eq_true, Nat.reduceAdd, hG, u1_eq, u1_u1, e2, e3])
    (fun n => by simp (disch := first | omega | assumption | (simp (disch := omega) only [iN_lit, iN_add, iN_mul, iN_pred, iN_pred', iN_lt, iN_le, iN_eq, iN_nat, nlt_t, nlt_f, nle_t, nle_f, neq_t, neq_f, List.length_nil, List.length_cons, or_false, false_or, or_self, not_false_eq_true, not_true_eq_false, ↓reduceIte, if_true, if_false, Bool.false_eq_true, Nat.reduceAdd])) only [fX12_goDay_L63, ↓brG_1, fX12_goDay_J113_63, ↓hb_of (has_y _), ↓hb_of (has_n _), ↓maA _, ↓maS _, ↓hb_some, ↓bd_some, ↓letE_eq, h_z0, h_z1, h_zi0, h_zi1, iN_lit, iN_add, iN_mul, iN_pred, iN_pred', iN_lt, iN_le, iN_eq, iN_nat, nlt_t, nlt_f, nle_t, nle_f, neq_t, neq_f, List.length_nil, List.length_cons, or_false, false_or, or_self, not_false_eq_true, not_true_eq_false, ↓reduceIte, if_true, if_false, Bool.false_eq_true, Nat.reduceAdd, hG, u1_eq, u1_u1]) FU (by unfold FU; omega)
  have e4 : u1 B (fb oa) (hdA (B (fb oa)) p 0) = B := u1_self
  rw [e4] at key
  exact key
theorem r_goDay53 (hM : FM A J B G P W) (ha : oa = 46 ∨ oa = 61) (hc : CP Z (B (fb oa))) (hz : OK G P Z) :
    ∃ a, (∀ kx : PH → Option (Unit × PH), fX12_goDay_L53 45 oa kx FU (iN 0) (encC I E L pr ot (encR J B M rdv ru T)) = kx (encC I E L pr ot (encR J (u1 B (fb oa) a) M rdv ru T))) ∧ CP (hdF G Z P) a := by
  have h8 := hM.2.2.2.1
  have h6 := hM.2.2.2.2.1
  have hfb := fb_or oa
  have key := lp_k (fun (kx : PH → Option (Unit × PH)) n k (a : Nat → Int32) => fX12_goDay_L53 45 oa kx n (iN k) (encC I E L pr ot (encR J (u1 B (fb oa) a) M rdv ru T))) (fun kx a => kx (encC I E L pr ot (encR J (u1 B (fb oa) a) M rdv ru T))) (fun k a => CP (hdF G Z k) a) P
    (fun k a hk hi => by
      have hM' : FM A J (u1 B (fb oa) a) G P W := hM.frame (fun _ _ _ => rfl) (fun x _ _ => by rw [u1_eq, if_neg (by omega)])
      have hP := hM'.2.1
      have e1 := fun kx => r_goDay63 (I := I) (E := E) (L := L) (pr := pr) (ot := ot) (M := M) (rdv := rdv) (ru := ru) (T := T) hM' ha hk kx
      refine ⟨hdA a k G, hi.hd (hz.hdF h8 k (by omega)) h8 (by omega), fun kx n => ?_⟩
      simp only [u1_eq, if_true, u1_u1] at e1
      simp (disch := first | omega | assumption | (simp (disch := omega) only [iN_lit, iN_add, iN_mul, iN_pred, iN_pred', iN_lt, iN_le, iN_eq, iN_nat, nlt_t, nlt_f, nle_t, nle_f, neq_t, neq_f, List.length_nil, List.length_cons, or_false, false_or, or_self, not_false_eq_true, not_true_eq_false, ↓reduceIte, if_true, if_false, Bool.false_eq_true, Nat.reduceAdd])) only [fX12_goDay_L53, ↓brG_2, fX12_goDay_J113_63, ↓hb_some, ↓bd_some, ↓letE_eq, h_z0, h_z1, h_zi0, h_zi1, iN_lit, iN_add, iN_mul, iN_pred, iN_pred', iN_lt, iN_le, iN_eq, iN_nat, nlt_t, nlt_f, nle_t, nle_f, neq_t, neq_f, List.length_nil, List.length_cons, or_false, false_or, or_self, not_false_eq_true, not_true_eq_false, ↓reduceIte, if_true, if_false, Bool.false_eq_true, Nat.reduceAdd, hP] at e1 ⊢
      rw [e1])
    (fun a hi kx n => by
      have hP := hM.2.1
      simp (disch := first | omega | assumption | (simp (disch := omega) only [iN_lit, iN_add, iN_mul, iN_pred, iN_pred', iN_lt, iN_le, iN_eq, iN_nat, nlt_t, nlt_f, nle_t, nle_f, neq_t, neq_f, List.length_nil, List.length_cons, or_false, false_or, or_self, not_false_eq_true, not_true_eq_false, ↓reduceIte, if_true, if_false, Bool.false_eq_true, Nat.reduceAdd])) only [fX12_goDay_L53, ↓brG_2, fX12_goDay_J113_63, ↓hb_some, ↓bd_some, ↓letE_eq, h_z0, h_z1, h_zi0, h_zi1, iN_lit, iN_add, iN_mul, iN_pred, iN_pred', iN_lt, iN_le, iN_eq, iN_nat, nlt_t, nlt_f, nle_t, nle_f, neq_t, neq_f, List.length_nil, List.length_cons, or_false, false_or, or_self, not_false_eq_true, not_true_eq_false, ↓reduceIte, if_true, if_false, Bool.false_eq_true, Nat.reduceAdd, hP]) P 0 (B (fb oa)) (by omega) hc
  obtain ⟨a, h1, h2⟩ := key
  refine ⟨a, fun kx => ?_, h1⟩
  have := h2 kx FU (by unfold FU; omega)
  rw [u1_self] at this
  exact this
/-- what goDay leaves of the ints -/
def frK (J J' : Nat → Int32) : Prop := ∀ x, x ≠ 15 → x ≠ 16 → x ≠ 17 → x ≠ 18 → x ≠ 24 → x ≠ 31 → J' x = J x
theorem frK.refl {J : Nat → Int32} : frK J J := fun _ _ _ _ _ _ _ => rfl
theorem frK.trans {J J1 J2 : Nat → Int32} (h1 : frK J J1) (h2 : frK J1 J2) : frK J J2 := fun x a b c d e f => (h2 x a b c d e f).trans (h1 x a b c d e f)
theorem frJ.k {J J1 : Nat → Int32} (h1 : frJ J J1) : frK J J1 := fun x a b c d e _ => h1 x a b c d e
theorem FM.frk (hM : FM A J B G P W) {J' : Nat → Int32} {B' : Nat → Nat → Int32} {b : Nat} (h1 : frK J J') (h2 : frB b B B') (hb : b = 0 ∨ b = 29) : FM A J' B' G P W :=
  hM.frame (fun x _ _ => h1 x (by omega) (by omega) (by omega) (by omega) (by omega) (by omega)) (fun x _ _ => h2 x (by omega) (by omega) (by omega))
theorem r_goDay (hM : FM A J B G P W) (hu : MUR nr R pu) (hJ : J 23 = iN nr) (hR : B (rf ru) = R) (hru : ru = 56 ∨ ru = 57) (ha : oa = 46 ∨ oa = 61) (hc : CP Z (B (fb oa))) (hz : OK G P Z) :
    ∃ J' B' rdv', fX12_goDay 45 oa (encC I E L pr ot (encR J B M rdv ru T)) = some ((), (encC I E L pr ot (encR J' B' M rdv' ru T))) ∧ frK J J' ∧ J' 31 = J 31 + sm (cmD A pu G W Z) P ∧ frB (fb oa) B B' ∧ CP (daM A pu G P Z) (B' (fb oa)) := by
  have hfb := fb_or oa
  have hrf := rf_or ru
  have h6 := hM.2.2.2.2.1
  have h8 := hM.2.2.2.1
  have key := lp_k (fun (kx : PH → Option (Unit × PH)) n k (s : (Nat → Int32) × (Nat → Nat → Int32) × Value) => fX12_goDay_L2 45 oa kx n (iN k) (encC I E L pr ot (encR (s.1) (s.2.1) M (s.2.2) ru T))) (fun kx s => kx (encC I E L pr ot (encR (s.1) (s.2.1) M (s.2.2) ru T))) (fun k s => frK J s.1 ∧ s.1 31 = J 31 + sm (cmD A pu G W Z) k ∧ frB (fb oa) B s.2.1 ∧ CP (gmF A pu G Z k) (s.2.1 (fb oa))) P
    (fun k s hk hi => by
      obtain ⟨J', B', rdv'⟩ := s
      obtain ⟨h1, h2, h3, h4⟩ := hi
      dsimp only at h1 h2 h3 h4
      have hM' : FM A J' B' G P W := hM.frk h1 h3 (by omega)
      have hP := hM'.2.1
      have hz' := hz.gmF (A := A) (pu := pu) k (by omega)
      have e1 := r_had (I := I) (E := E) (L := L) (pr := pr) (ot := ot) (M := M) (rdv := rdv') (ru := ru) (T := T) hM' ha h4 (show k < 6 by omega) (hz'.2.2.1 k (by omega))
      obtain ⟨J2, B2, rdv2, f1, f2, f3, f4⟩ := r_goMan (I := I) (E := E) (L := L) (pr := pr) (ot := ot) (M := M) (rdv := rdv') (ru := ru) (T := T) hM' hu ((h1 23 (by omega) (by omega) (by omega) (by omega) (by omega) (by omega)).trans hJ) (by rw [h3 _ (by omega) (by omega) (by omega)]; exact hR) hru ha hk h4 hz'
      have hM2 : FM A J2 B2 G P W := hM'.fr f2 f3 (by omega)
      have e2 := r_had (I := I) (E := E) (L := L) (pr := pr) (ot := ot) (M := M) (rdv := rdv2) (ru := ru) (T := T) hM2 ha f4 (show k < 6 by omega) ((hz'.gm (by omega)).2.2.1 k (by omega))
      have e31 : J2 31 = J' 31 := f2 31 (by omega) (by omega) (by omega) (by omega) (by omega)
      refine ⟨(u1 J2 31 (J' 31 + bc (waS A (gmZ A pu G k (gmF A pu G Z k)) W k &&& (waS A (gmF A pu G Z k) W k ^^^ (-1 : Int32)))), B2, rdv2), ⟨fun x a b c d e f => ?_, ?_, h3.trans f3, f4⟩, fun kx n => ?_⟩
      · dsimp only; rw [u1_eq, if_neg f]; exact (h1.trans f2.k) x a b c d e f
      · dsimp only; rw [u1_eq, if_pos rfl, h2, Int32.add_assoc]; rfl
      · dsimp only
        simp (disch := first | omega | assumption | (simp (disch := omega) only [iN_lit, iN_add, iN_mul, iN_pred, iN_pred', iN_lt, iN_le, iN_eq, iN_nat, nlt_t, nlt_f, nle_t, nle_f, neq_t, neq_f, List.length_nil, List.length_cons, or_false, false_or, or_self, not_false_eq_true, not_true_eq_false, ↓reduceIte, if_true, if_false, Bool.false_eq_true, Nat.reduceAdd])) only [fX12_goDay_L2, ↓brK, ↓brG_2, ↓brG_31, ↓brW_31, fX12_goDay_J113_63, ↓hb_of (c_bitCount), ↓hb_some, ↓bd_some, ↓letE_eq, h_z0, h_z1, h_zi0, h_zi1, ↓hb_of e1, ↓hb_of f1, ↓hb_of e2, ↓hb_of c_bitCount, iN_lit, iN_add, iN_mul, iN_pred, iN_pred', iN_lt, iN_le, iN_eq, iN_nat, nlt_t, nlt_f, nle_t, nle_f, neq_t, neq_f, List.length_nil, List.length_cons, or_false, false_or, or_self, not_false_eq_true, not_true_eq_false, ↓reduceIte, if_true, if_false, Bool.false_eq_true, Nat.reduceAdd, hP, e31])
    (fun s hi kx n => by
      obtain ⟨J', B', rdv'⟩ := s
      have hP : J' 2 = iN P := (hi.1 2 (by omega) (by omega) (by omega) (by omega) (by omega) (by omega)).trans hM.2.1
      dsimp only
      simp (disch := first | omega | assumption | (simp (disch := omega) only [iN_lit, iN_add, iN_mul, iN_pred, iN_pred', iN_lt, iN_le, iN_eq, iN_nat, nlt_t, nlt_f, nle_t, nle_f, neq_t, neq_f, List.length_nil, List.length_cons, or_false, false_or, or_self, not_false_eq_true, not_true_eq_false, ↓reduceIte, if_true, if_false, Bool.false_eq_true, Nat.reduceAdd])) only [fX12_goDay_L2, ↓brK, ↓brG_2, ↓brG_31, ↓brW_31, fX12_goDay_J113_63, ↓hb_of (r_had _ _ _ _ _), ↓hb_of (c_bitCount), ↓hb_some, ↓bd_some, ↓letE_eq, h_z0, h_z1, h_zi0, h_zi1, iN_lit, iN_add, iN_mul, iN_pred, iN_pred', iN_lt, iN_le, iN_eq, iN_nat, nlt_t, nlt_f, nle_t, nle_f, neq_t, neq_f, List.length_nil, List.length_cons, or_false, false_or, or_self, not_false_eq_true, not_true_eq_false, ↓reduceIte, if_true, if_false, Bool.false_eq_true, Nat.reduceAdd, hP]) P 0 (J, B, rdv) (by omega) ⟨frK.refl, (Int32.add_zero _).symm, frB.refl, hc⟩
  obtain ⟨⟨J', B', rdv'⟩, ⟨h1, h2, h3, h4⟩, h5⟩ := key
  dsimp only at h1 h2 h3 h4 h5
  have hM' : FM A J' B' G P W := hM.frk h1 h3 (by omega)
  obtain ⟨a, f1, f2⟩ := r_goDay53 (I := I) (E := E) (L := L) (pr := pr) (ot := ot) (M := M) (rdv := rdv') (ru := ru) (T := T) hM' ha h4 (hz.gmF P h6)
  refine ⟨J', u1 B' (fb oa) (upd a 86 (a 86 + 1)), rdv', ?_, h1, h2, fun x x1 x2 x3 => ?_, ?_⟩
  · unfold fX12_goDay
    have e5 := h5 (fun h1 => fX12_goDay_L53 45 oa (fun h2 => (h_ald .int h2 oa (86 : Int32)).bind fun x3 => (h_ast .int h2 oa (86 : Int32) (x3 + (1 : Int32))).bind fun h4 => some ((), h4)) FU (0 : Int32) h1) FU (by unfold FU; omega)
    have e6 := f1 (fun h2 => (h_ald .int h2 oa (86 : Int32)).bind fun x3 => (h_ast .int h2 oa (86 : Int32) (x3 + (1 : Int32))).bind fun h4 => some ((), h4))
    simp only [iN_lit] at e5 e6 ⊢
    rw [e5, e6]
    simp (disch := first | omega | assumption | (simp (disch := omega) only [iN_lit, iN_add, iN_mul, iN_pred, iN_pred', iN_lt, iN_le, iN_eq, iN_nat, nlt_t, nlt_f, nle_t, nle_f, neq_t, neq_f, List.length_nil, List.length_cons, or_false, false_or, or_self, not_false_eq_true, not_true_eq_false, ↓reduceIte, if_true, if_false, Bool.false_eq_true, Nat.reduceAdd])) only [↓maA _, ↓maS _, u1_eq, u1_u1, iN_lit, iN_add, iN_mul, iN_pred, iN_pred', iN_lt, iN_le, iN_eq, iN_nat, nlt_t, nlt_f, nle_t, nle_f, neq_t, neq_f, List.length_nil, List.length_cons, or_false, false_or, or_self, not_false_eq_true, not_true_eq_false, ↓reduceIte, if_true, if_false, Bool.false_eq_true, Nat.reduceAdd]
  · rw [u1_eq, if_neg x3]; exact h3 x x1 x2 x3
  · rw [u1_eq, if_pos rfl]
    have e80 : hdF G (gmF A pu G Z P) P 80 = Z 80 := by
      rw [hdF_out h8 P (by omega), gmF_out P (by omega)]
    unfold daM
    rw [← e80]
    exact f2.dy
theorem r_goDays (hM : FM A J B G P W) (hu : MUR nr R pu) (hJ : J 23 = iN nr) (hR : B (rf ru) = R) (hru : ru = 56 ∨ ru = 57) (ha : oa = 46 ∨ oa = 61) (hc : CP Z (B (fb oa))) (hz : OK G P Z) {N : Nat} (hN : N < 2000) :
    ∃ J' B' rdv', fX12_goDays 45 oa (iN N) (encC I E L pr ot (encR J B M rdv ru T)) = some ((), (encC I E L pr ot (encR J' B' M rdv' ru T))) ∧ frK J J' ∧ J' 31 = sm (fun k => sm (cmD A pu G W (daN A pu G P Z k)) P) N ∧ frB (fb oa) B B' ∧ CP (daN A pu G P Z N) (B' (fb oa)) := by
  have hfb := fb_or oa
  have hrf := rf_or ru
  have h6 := hM.2.2.2.2.1
  have h8 := hM.2.2.2.1
  have key := lp_k (fun (_ : Unit) n k (s : (Nat → Int32) × (Nat → Nat → Int32) × Value) => fX12_goDays_L7 45 oa (iN N) (fun h2 => some ((), h2)) n (iN k) (encC I E L pr ot (encR (s.1) (s.2.1) M (s.2.2) ru T))) (fun _ s => some ((), (encC I E L pr ot (encR (s.1) (s.2.1) M (s.2.2) ru T)))) (fun k s => frK J s.1 ∧ s.1 31 = sm (fun k => sm (cmD A pu G W (daN A pu G P Z k)) P) k ∧ frB (fb oa) B s.2.1 ∧ CP (daN A pu G P Z k) (s.2.1 (fb oa))) N
    (fun k s hk hi => by
      obtain ⟨J', B', rdv'⟩ := s
      obtain ⟨h1, h2, h3, h4⟩ := hi
      dsimp only at h1 h2 h3 h4
      have hM' : FM A J' B' G P W := hM.frk h1 h3 (by omega)
      obtain ⟨J2, B2, rdv2, f1, f2, f3, f4, f5⟩ := r_goDay (I := I) (E := E) (L := L) (pr := pr) (ot := ot) (M := M) (rdv := rdv') (ru := ru) (T := T) hM' hu ((h1 23 (by omega) (by omega) (by omega) (by omega) (by omega) (by omega)).trans hJ) (by rw [h3 _ (by omega) (by omega) (by omega)]; exact hR) hru ha h4 (hz.dn h8 h6 k)
      refine ⟨(J2, B2, rdv2), ⟨h1.trans f2, ?_, h3.trans f4, f5⟩, fun _ n => ?_⟩
      · dsimp only; rw [f3, h2]; rfl
      · dsimp only
        simp (disch := first | omega | assumption | (simp (disch := omega) only [iN_lit, iN_add, iN_mul, iN_pred, iN_pred', iN_lt, iN_le, iN_eq, iN_nat, nlt_t, nlt_f, nle_t, nle_f, neq_t, neq_f, List.length_nil, List.length_cons, or_false, false_or, or_self, not_false_eq_true, not_true_eq_false, ↓reduceIte, if_true, if_false, Bool.false_eq_true, Nat.reduceAdd])) only [fX12_goDays_L7, ↓brK, ↓hb_some, ↓bd_some, ↓letE_eq, h_z0, h_z1, h_zi0, h_zi1, ↓hb_of f1, iN_lit, iN_add, iN_mul, iN_pred, iN_pred', iN_lt, iN_le, iN_eq, iN_nat, nlt_t, nlt_f, nle_t, nle_f, neq_t, neq_f, List.length_nil, List.length_cons, or_false, false_or, or_self, not_false_eq_true, not_true_eq_false, ↓reduceIte, if_true, if_false, Bool.false_eq_true, Nat.reduceAdd])
    (fun s hi _ n => by
      obtain ⟨J', B', rdv'⟩ := s
      dsimp only
      simp (disch := first | omega | assumption | (simp (disch := omega) only [iN_lit, iN_add, iN_mul, iN_pred, iN_pred', iN_lt, iN_le, iN_eq, iN_nat, nlt_t, nlt_f, nle_t, nle_f, neq_t, neq_f, List.length_nil, List.length_cons, or_false, false_or, or_self, not_false_eq_true, not_true_eq_false, ↓reduceIte, if_true, if_false, Bool.false_eq_true, Nat.reduceAdd])) only [fX12_goDays_L7, ↓brK, ↓hb_some, ↓bd_some, ↓letE_eq, h_z0, h_z1, h_zi0, h_zi1, iN_lit, iN_add, iN_mul, iN_pred, iN_pred', iN_lt, iN_le, iN_eq, iN_nat, nlt_t, nlt_f, nle_t, nle_f, neq_t, neq_f, List.length_nil, List.length_cons, or_false, false_or, or_self, not_false_eq_true, not_true_eq_false, ↓reduceIte, if_true, if_false, Bool.false_eq_true, Nat.reduceAdd]) N 0 (u1 J 31 0, B, rdv) (by omega) ⟨fun x _ _ _ _ _ f => by dsimp only; rw [u1_eq, if_neg f], by dsimp only; rw [u1_eq, if_pos rfl]; rfl, frB.refl, hc⟩
  obtain ⟨⟨J', B', rdv'⟩, ⟨h1, h2, h3, h4⟩, h5⟩ := key
  refine ⟨J', B', rdv', ?_, h1, h2, h3, h4⟩
  have := h5 () FU (by unfold FU; omega)
  simp (disch := first | omega | assumption | (simp (disch := omega) only [iN_lit, iN_add, iN_mul, iN_pred, iN_pred', iN_lt, iN_le, iN_eq, iN_nat, nlt_t, nlt_f, nle_t, nle_f, neq_t, neq_f, List.length_nil, List.length_cons, or_false, false_or, or_self, not_false_eq_true, not_true_eq_false, ↓reduceIte, if_true, if_false, Bool.false_eq_true, Nat.reduceAdd])) only [fX12_goDays, ↓brW_31, ↓hb_some, ↓bd_some, ↓letE_eq, h_z0, h_z1, h_zi0, h_zi1, iN_lit, iN_add, iN_mul, iN_pred, iN_pred', iN_lt, iN_le, iN_eq, iN_nat, nlt_t, nlt_f, nle_t, nle_f, neq_t, neq_f, List.length_nil, List.length_cons, or_false, false_or, or_self, not_false_eq_true, not_true_eq_false, ↓reduceIte, if_true, if_false, Bool.false_eq_true, Nat.reduceAdd] at this ⊢
  exact this
end MD
