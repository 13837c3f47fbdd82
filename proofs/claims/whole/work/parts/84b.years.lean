/-! CALL: years, the model -/
section YR
variable {I A E I' A' : Nat → Nat → Int32} {L L' : Nat → Int64} {pr ot s : Nat} {J J' : Nat → Int32} {B B' : Nat → Nat → Int32} {M M' : Nat → Int64} {rdv rdv' : Value} {ru : Nat} {T : PH} {G P W p q g n nr sz ro oa w t : Nat} {Z Z' R X a : Nat → Int32} {x y z d : Int32} {out : Nat → Int64} {pu : (Nat → Int32) → Int32}
/-- what the draws leave of the ints -/
def frY (J J' : Nat → Int32) : Prop := ∀ x, x ≠ 15 → x ≠ 16 → x ≠ 17 → x ≠ 18 → x ≠ 24 → x ≠ 31 → x ≠ 46 → J' x = J x
theorem frY.k {J1 J2 J3 : Nat → Int32} (h1 : frY J1 J2) (h2 : frK J2 J3) : frY J1 J3 := fun x a b c d e f g => (h2 x a b c d e f).trans (h1 x a b c d e f g)
theorem frY.dd {J1 J2 : Nat → Int32} {v : Int32} (h1 : frY J1 J2) : frY J1 (u1 J2 46 v) := fun x a b c d e f g => by rw [u1_eq, if_neg g]; exact h1 x a b c d e f g
theorem frY.r {J1 J2 : Nat → Int32} (h1 : frY J1 J2) : frRJ J1 J2 := fun x h => h1 x (by omega) (by omega) (by omega) (by omega) (by omega) (by omega) (by omega)
theorem r_draw {m : Nat} (h0 : 0 < m) (hm : m < 2147483648) : fX12_draw 45 (iN m) (encC I E L pr ot (encR J B M rdv ru T)) = some (iN (lotN (drw (J 46)) m), (encC I E L pr ot (encR (u1 J 46 (drw (J 46))) B M rdv ru T))) := by
  unfold fX12_draw
  rw [brG_46, brW_46, brG_46, u1_eq, if_pos rfl, if_neg (by rw [show (0 : Int32) = iN 0 from rfl, iN_eq (by omega) (by omega)]; omega)]
  rw [show J 46 * (1103515245 : Int32) + (12345 : Int32) = drw (J 46) from rfl, lotE _ h0 hm]
theorem rG_x (hM : FM A J B G P W) (hc : CP Z (B 29)) (hp : p < P) (hg : g < G) : fX12_refusesGift 45 61 (iN p) (iN g) (encC I E L pr ot (encR J B M rdv ru T)) = some (if hdB Z p g = true then -2 else if Z g = 0 then -3 else 0, (encC I E L pr ot (encR J B M rdv ru T))) := by
  have h6 := hM.2.2.2.2.1
  have h8 := hM.2.2.2.1
  have hh := hc.has (show p < 6 by omega) (show g < 8 by omega)
  have hs2 : B 29 g = Z g := hc.1 g (by omega)
  cases hb : hdB Z p g
  · rw [hb] at hh
    rw [if_neg (by decide)]
    by_cases hs : Z g = 0
    · rw [if_pos hs]
      have hs3 : B 29 g = 0 := by rw [hs2, hs]
      simp (disch := first | omega | assumption | (simp (disch := omega) only [iN_lit, iN_add, iN_mul, iN_pred, iN_pred', iN_lt, iN_le, iN_eq, iN_nat, nlt_t, nlt_f, nle_t, nle_f, neq_t, neq_f, List.length_nil, List.length_cons, or_false, false_or, or_self, not_false_eq_true, not_true_eq_false, ↓reduceIte, if_true, if_false, Bool.false_eq_true, Nat.reduceAdd])) only [fX12_refusesGift, ↓brK, ↓hb_of (isM_n _ _), ↓hb_of (r_isMan _ _), ↓hb_of (isG_n _ _), ↓hb_of (r_isGround _ _), ↓hb_of (has_y _), ↓hb_of (has_n _), ↓maA _, ↓hb_some, ↓bd_some, ↓letE_eq, h_z0, h_z1, h_zi0, h_zi1, ↓hb_of (r_isMan hM hp), ↓hb_of (r_isGround hM hg), iN_lit, iN_add, iN_mul, iN_pred, iN_pred', iN_lt, iN_le, iN_eq, iN_nat, nlt_t, nlt_f, nle_t, nle_f, neq_t, neq_f, List.length_nil, List.length_cons, or_false, false_or, or_self, not_false_eq_true, not_true_eq_false, ↓reduceIte, if_true, if_false, Bool.false_eq_true, Nat.reduceAdd, fb_61, hs3]
    · rw [if_neg hs]
      have hs3 : ¬ B 29 g = iN 0 := by rw [hs2]; exact hs
      simp (disch := first | omega | assumption | (simp (disch := omega) only [iN_lit, iN_add, iN_mul, iN_pred, iN_pred', iN_lt, iN_le, iN_eq, iN_nat, nlt_t, nlt_f, nle_t, nle_f, neq_t, neq_f, List.length_nil, List.length_cons, or_false, false_or, or_self, not_false_eq_true, not_true_eq_false, ↓reduceIte, if_true, if_false, Bool.false_eq_true, Nat.reduceAdd])) only [fX12_refusesGift, ↓brK, ↓hb_of (isM_n _ _), ↓hb_of (r_isMan _ _), ↓hb_of (isG_n _ _), ↓hb_of (r_isGround _ _), ↓hb_of (has_y _), ↓hb_of (has_n _), ↓maA _, ↓hb_some, ↓bd_some, ↓letE_eq, h_z0, h_z1, h_zi0, h_zi1, ↓hb_of (r_isMan hM hp), ↓hb_of (r_isGround hM hg), iN_lit, iN_add, iN_mul, iN_pred, iN_pred', iN_lt, iN_le, iN_eq, iN_nat, nlt_t, nlt_f, nle_t, nle_f, neq_t, neq_f, List.length_nil, List.length_cons, or_false, false_or, or_self, not_false_eq_true, not_true_eq_false, ↓reduceIte, if_true, if_false, Bool.false_eq_true, Nat.reduceAdd, fb_61, hs3]
  · rw [hb] at hh
    rw [if_pos rfl]
    simp (disch := first | omega | assumption | (simp (disch := omega) only [iN_lit, iN_add, iN_mul, iN_pred, iN_pred', iN_lt, iN_le, iN_eq, iN_nat, nlt_t, nlt_f, nle_t, nle_f, neq_t, neq_f, List.length_nil, List.length_cons, or_false, false_or, or_self, not_false_eq_true, not_true_eq_false, ↓reduceIte, if_true, if_false, Bool.false_eq_true, Nat.reduceAdd])) only [fX12_refusesGift, ↓brK, ↓hb_of (isM_n _ _), ↓hb_of (r_isMan _ _), ↓hb_of (isG_n _ _), ↓hb_of (r_isGround _ _), ↓hb_of (has_y _), ↓hb_of (has_n _), ↓maA _, ↓hb_some, ↓bd_some, ↓letE_eq, h_z0, h_z1, h_zi0, h_zi1, ↓hb_of (r_isMan hM hp), ↓hb_of (r_isGround hM hg), iN_lit, iN_add, iN_mul, iN_pred, iN_pred', iN_lt, iN_le, iN_eq, iN_nat, nlt_t, nlt_f, nle_t, nle_f, neq_t, neq_f, List.length_nil, List.length_cons, or_false, false_or, or_self, not_false_eq_true, not_true_eq_false, ↓reduceIte, if_true, if_false, Bool.false_eq_true, Nat.reduceAdd, fb_61]
theorem rB_x (hM : FM A J B G P W) (hc : CP Z (B 29)) (hp : p < P) (hg : g < G) : fX12_refusesBack 45 61 (iN p) (iN g) (encC I E L pr ot (encR J B M rdv ru T)) = some (if hdB Z p g = true then 0 else -2, (encC I E L pr ot (encR J B M rdv ru T))) := by
  have h6 := hM.2.2.2.2.1
  have h8 := hM.2.2.2.1
  have hh := hc.has (show p < 6 by omega) (show g < 8 by omega)
  cases hb : hdB Z p g
  · rw [hb] at hh
    rw [if_neg (by decide)]
    simp (disch := first | omega | assumption | (simp (disch := omega) only [iN_lit, iN_add, iN_mul, iN_pred, iN_pred', iN_lt, iN_le, iN_eq, iN_nat, nlt_t, nlt_f, nle_t, nle_f, neq_t, neq_f, List.length_nil, List.length_cons, or_false, false_or, or_self, not_false_eq_true, not_true_eq_false, ↓reduceIte, if_true, if_false, Bool.false_eq_true, Nat.reduceAdd])) only [fX12_refusesBack, ↓brK, ↓hb_of (isM_n _ _), ↓hb_of (r_isMan _ _), ↓hb_of (isG_n _ _), ↓hb_of (r_isGround _ _), ↓hb_of (has_y _), ↓hb_of (has_n _), ↓maA _, ↓hb_some, ↓bd_some, ↓letE_eq, h_z0, h_z1, h_zi0, h_zi1, ↓hb_of (r_isMan hM hp), ↓hb_of (r_isGround hM hg), iN_lit, iN_add, iN_mul, iN_pred, iN_pred', iN_lt, iN_le, iN_eq, iN_nat, nlt_t, nlt_f, nle_t, nle_f, neq_t, neq_f, List.length_nil, List.length_cons, or_false, false_or, or_self, not_false_eq_true, not_true_eq_false, ↓reduceIte, if_true, if_false, Bool.false_eq_true, Nat.reduceAdd, fb_61]
  · rw [hb] at hh
    rw [if_pos rfl]
    simp (disch := first | omega | assumption | (simp (disch := omega) only [iN_lit, iN_add, iN_mul, iN_pred, iN_pred', iN_lt, iN_le, iN_eq, iN_nat, nlt_t, nlt_f, nle_t, nle_f, neq_t, neq_f, List.length_nil, List.length_cons, or_false, false_or, or_self, not_false_eq_true, not_true_eq_false, ↓reduceIte, if_true, if_false, Bool.false_eq_true, Nat.reduceAdd])) only [fX12_refusesBack, ↓brK, ↓hb_of (isM_n _ _), ↓hb_of (r_isMan _ _), ↓hb_of (isG_n _ _), ↓hb_of (r_isGround _ _), ↓hb_of (has_y _), ↓hb_of (has_n _), ↓maA _, ↓hb_some, ↓bd_some, ↓letE_eq, h_z0, h_z1, h_zi0, h_zi1, ↓hb_of (r_isMan hM hp), ↓hb_of (r_isGround hM hg), iN_lit, iN_add, iN_mul, iN_pred, iN_pred', iN_lt, iN_le, iN_eq, iN_nat, nlt_t, nlt_f, nle_t, nle_f, neq_t, neq_f, List.length_nil, List.length_cons, or_false, false_or, or_self, not_false_eq_true, not_true_eq_false, ↓reduceIte, if_true, if_false, Bool.false_eq_true, Nat.reduceAdd, fb_61]
theorem MKK.yr1 (mk : MKK A J B G P W ru pu) {q : Int32 × (Nat → Int32)} (i1 : frY J J') (i2 : frRB B B') (i4 : J' 46 = q.1) (i3 : CP q.2 (B' 29)) (hz : OK G P q.2) {N k : Nat} (hk : k < N) (hN : N ≤ 60) : ∃ J2 B2 rdv2, frY J J2 ∧ frRB B B2 ∧ J2 46 = (yrS A pu G P q).1 ∧ CP (yrS A pu G P q).2 (B2 29) ∧ ∀ kx n, fX12_years_L36 45 (iN N) kx (n + 1) (iN k) (encC I E L pr ot (encR J' B' M rdv' ru T)) = fX12_years_L36 45 (iN N) kx n (iN (k + 1)) (encC I E L pr ot (encR J2 B2 M rdv2 ru T)) := by
  have h8 := mk.1.2.2.2.1
  have h6 := mk.1.2.2.2.2.1
  obtain ⟨d, Z⟩ := q
  dsimp only at *
  have l4 := lotN_lt (d := drw d) (m := 4) (by decide)
  have hst : ¬ (iN N ≤ iN k) := by rw [iN_le (by omega) (by omega)]; omega
  have e4 := r_draw (I := I) (E := E) (L := L) (pr := pr) (ot := ot) (J := J') (B := B') (M := M) (rdv := rdv') (ru := ru) (T := T) (m := 4) (by decide) (by decide)
  rw [i4] at e4
  have mk1 : MKK A (u1 J' 46 (drw d)) B' G P W ru pu := mk.fr i1.dd.r i2
  have hG : (u1 J' 46 (drw d)) 1 = iN G := mk1.1.1
  have hP : (u1 J' 46 (drw d)) 2 = iN P := mk1.1.2.1
  by_cases c1 : 2 ≤ lotN (drw d) 4
  · have t1 : (2 : Int32) ≤ iN (lotN (drw d) 4) := by rw [show (2 : Int32) = iN 2 from rfl, iN_le (by omega) (by omega)]; exact c1
    have t1' : ¬ iN (lotN (drw d) 4) < (2 : Int32) := by rw [show (2 : Int32) = iN 2 from rfl, iN_lt (by omega) (by omega)]; omega
    by_cases c2 : P = 0
    · refine ⟨u1 J' 46 (drw d), B', rdv', i1.dd, i2, ?_, ?_, fun kx n => ?_⟩
      · unfold yrS
        rw [if_pos c1, if_pos (Or.inl c2)]; rfl
      · unfold yrS
        rw [if_pos c1, if_pos (Or.inl c2)]; exact i3
      · have t2 : iN P = (0 : Int32) := by rw [c2]; rfl
        rw [fX12_years_L36, if_neg hst, brK, hb_of (show fX12_draw 45 (4 : Int32) (encC I E L pr ot (encR J' B' M rdv' ru T)) = _ from e4), if_pos t1, fX12_years_J62_36, if_neg t1', brG_2, hP, if_pos t2, fX12_years_J169_36, letE_eq, show iN k + (1 : Int32) = iN (k + 1) from iN_add]
    · have t2 : ¬ iN P = (0 : Int32) := by rw [show (0 : Int32) = iN 0 from rfl, iN_eq (by omega) (by omega)]; exact c2
      by_cases c3 : G = 0
      · refine ⟨u1 J' 46 (drw d), B', rdv', i1.dd, i2, ?_, ?_, fun kx n => ?_⟩
        · unfold yrS
          rw [if_pos c1, if_pos (Or.inr c3)]; rfl
        · unfold yrS
          rw [if_pos c1, if_pos (Or.inr c3)]; exact i3
        · have t3 : iN G = (0 : Int32) := by rw [c3]; rfl
          rw [fX12_years_L36, if_neg hst, brK, hb_of (show fX12_draw 45 (4 : Int32) (encC I E L pr ot (encR J' B' M rdv' ru T)) = _ from e4), if_pos t1, fX12_years_J62_36, if_neg t1', brG_2, hP, if_neg t2, brG_1, hG, if_pos t3, fX12_years_J169_36, letE_eq, show iN k + (1 : Int32) = iN (k + 1) from iN_add]
      · have t3 : ¬ iN G = (0 : Int32) := by rw [show (0 : Int32) = iN 0 from rfl, iN_eq (by omega) (by omega)]; exact c3
        have hp := lotN_lt (d := drw (drw d)) (m := P) (by omega)
        have hg := lotN_lt (d := drw (drw (drw d))) (m := G) (by omega)
        have eP := r_draw (I := I) (E := E) (L := L) (pr := pr) (ot := ot) (J := u1 J' 46 (drw d)) (B := B') (M := M) (rdv := rdv') (ru := ru) (T := T) (m := P) (by omega) (by omega)
        rw [u1_eq, if_pos rfl, u1_u1] at eP
        have hG2 : (u1 J' 46 (drw (drw d))) 1 = iN G := by rw [u1_eq, if_neg (by decide)]; exact (mk.fr i1.r i2).1.1
        have eG := r_draw (I := I) (E := E) (L := L) (pr := pr) (ot := ot) (J := u1 J' 46 (drw (drw d))) (B := B') (M := M) (rdv := rdv') (ru := ru) (T := T) (m := G) (by omega) (by omega)
        rw [u1_eq, if_pos rfl, u1_u1] at eG
        have mk3 : MKK A (u1 J' 46 (drw (drw (drw d)))) B' G P W ru pu := mk.fr i1.dd.r i2
        have key : ∀ kx n, fX12_years_L36 45 (iN N) kx (n + 1) (iN k) (encC I E L pr ot (encR J' B' M rdv' ru T)) = (if iN (lotN (drw d) 4) = (2 : Int32) then ((h_gr 11 29 (encC I E L pr ot (encR (u1 J' 46 (drw (drw (drw d)))) B' M rdv' ru T)) 45).bind fun q9 => (h_ck 11 (encC I E L pr ot (encR (u1 J' 46 (drw (drw (drw d)))) B' M rdv' ru T)) 45).bind fun _ => h_bd (fX12_refusesGift 45 q9 (iN (lotN (drw (drw d)) P)) (iN (lotN (drw (drw (drw d))) G)) (encC I E L pr ot (encR (u1 J' 46 (drw (drw (drw d)))) B' M rdv' ru T))) fun x10 h11 => if x10 = 0 then ((h_gr 11 29 h11 45).bind fun q12 => h_bd (fX12_goGift q12 (iN (lotN (drw (drw d)) P)) (iN (lotN (drw (drw (drw d))) G)) h11) fun _ h13 => fX12_years_J137_36 (fX12_years_L36 45 (iN N) kx n) kx 45 (iN N) (iN k) (iN (lotN (drw d) 4)) (iN (lotN (drw (drw d)) P)) (iN (lotN (drw (drw (drw d))) G)) h13) else (fX12_years_J137_36 (fX12_years_L36 45 (iN N) kx n) kx 45 (iN N) (iN k) (iN (lotN (drw d) 4)) (iN (lotN (drw (drw d)) P)) (iN (lotN (drw (drw (drw d))) G)) h11)) else (fX12_years_J137_36 (fX12_years_L36 45 (iN N) kx n) kx 45 (iN N) (iN k) (iN (lotN (drw d) 4)) (iN (lotN (drw (drw d)) P)) (iN (lotN (drw (drw (drw d))) G)) (encC I E L pr ot (encR (u1 J' 46 (drw (drw (drw d)))) B' M rdv' ru T)))) := by
          intro kx n
          rw [fX12_years_L36, if_neg hst, brK, hb_of (show fX12_draw 45 (4 : Int32) (encC I E L pr ot (encR J' B' M rdv' ru T)) = _ from e4), if_pos t1, fX12_years_J62_36, if_neg t1', brG_2, hP, if_neg t2, brG_1, hG, if_neg t3, brG_2, hP, brK, hb_of eP, brG_1, hG2, brK, hb_of eG]
        unfold yrS
        dsimp only
        rw [if_pos c1, if_neg (by omega)]
        by_cases c4 : lotN (drw d) 4 = 2
        · rw [if_pos c4]
          have t4 : ¬ iN 2 = (3 : Int32) := by decide
          have eR := rG_x (I := I) (E := E) (L := L) (pr := pr) (ot := ot) (J := u1 J' 46 (drw (drw (drw d)))) (B := B') (M := M) (rdv := rdv') (ru := ru) (T := T) mk3.1 i3 hp hg
          unfold gvZ
          by_cases hb : hdB Z (lotN (drw (drw d)) P) (lotN (drw (drw (drw d))) G) = true
          · rw [if_pos hb] at eR ⊢
            refine ⟨u1 J' 46 (drw (drw (drw d))), B', rdv', i1.dd, i2, by rw [u1_eq, if_pos rfl], i3, fun kx n => ?_⟩
            rw [key, c4, if_pos (show iN 2 = (2 : Int32) from rfl), brR_29, brK, hb_of eR, if_neg (by decide), fX12_years_J137_36, if_neg t4, fX12_years_J169_36, letE_eq, show iN k + (1 : Int32) = iN (k + 1) from iN_add]
          · rw [if_neg hb] at eR ⊢
            by_cases hs : Z (lotN (drw (drw (drw d))) G) = 0
            · rw [if_pos hs] at eR ⊢
              refine ⟨u1 J' 46 (drw (drw (drw d))), B', rdv', i1.dd, i2, by rw [u1_eq, if_pos rfl], i3, fun kx n => ?_⟩
              rw [key, c4, if_pos (show iN 2 = (2 : Int32) from rfl), brR_29, brK, hb_of eR, if_neg (by decide), fX12_years_J137_36, if_neg t4, fX12_years_J169_36, letE_eq, show iN k + (1 : Int32) = iN (k + 1) from iN_add]
            · rw [if_neg hs] at eR ⊢
              have eH := r_goGift (I := I) (E := E) (L := L) (pr := pr) (ot := ot) (J := u1 J' 46 (drw (drw (drw d)))) (B := B') (M := M) (rdv := rdv') (ru := ru) (T := T) (oa := 61) (p := lotN (drw (drw d)) P) (g := lotN (drw (drw (drw d))) G) (Or.inr rfl) (by omega) (by omega)
              rw [fb_61] at eH
              refine ⟨u1 J' 46 (drw (drw (drw d))), u1 B' 29 (giA (B' 29) (lotN (drw (drw d)) P) (lotN (drw (drw (drw d))) G)), rdv', i1.dd, i2.trans frRB.lay, by rw [u1_eq, if_pos rfl], by rw [u1_eq, if_pos rfl]; exact i3.gi (by omega) (by omega), fun kx n => ?_⟩
              rw [key, c4, if_pos (show iN 2 = (2 : Int32) from rfl), brR_29, brK, hb_of eR, if_pos rfl, brR_29, hb_of eH, fX12_years_J137_36, if_neg t4, fX12_years_J169_36, letE_eq, show iN k + (1 : Int32) = iN (k + 1) from iN_add]
        · rw [if_neg c4]
          have t4 : ¬ iN (lotN (drw d) 4) = (2 : Int32) := by rw [show (2 : Int32) = iN 2 from rfl, iN_eq (by omega) (by omega)]; exact c4
          have t5 : iN (lotN (drw d) 4) = (3 : Int32) := by rw [show lotN (drw d) 4 = 3 by omega]; rfl
          have eR := rB_x (I := I) (E := E) (L := L) (pr := pr) (ot := ot) (J := u1 J' 46 (drw (drw (drw d)))) (B := B') (M := M) (rdv := rdv') (ru := ru) (T := T) mk3.1 i3 hp hg
          unfold bkZ
          by_cases hb : hdB Z (lotN (drw (drw d)) P) (lotN (drw (drw (drw d))) G) = true
          · rw [if_pos hb] at eR ⊢
            have eH := r_goBack (I := I) (E := E) (L := L) (pr := pr) (ot := ot) (J := u1 J' 46 (drw (drw (drw d)))) (B := B') (M := M) (rdv := rdv') (ru := ru) (T := T) (oa := 61) (p := lotN (drw (drw d)) P) (g := lotN (drw (drw (drw d))) G) (Or.inr rfl) (by omega) (by omega)
            rw [fb_61] at eH
            refine ⟨u1 J' 46 (drw (drw (drw d))), u1 B' 29 (tbA (B' 29) (lotN (drw (drw d)) P) (lotN (drw (drw (drw d))) G)), rdv', i1.dd, i2.trans frRB.lay, by rw [u1_eq, if_pos rfl], by rw [u1_eq, if_pos rfl]; exact i3.tb (by omega) (by omega), fun kx n => ?_⟩
            rw [key, if_neg t4, fX12_years_J137_36, if_pos t5, brR_29, brK, hb_of eR, if_pos rfl, brR_29, hb_of eH, fX12_years_J169_36, letE_eq, show iN k + (1 : Int32) = iN (k + 1) from iN_add]
          · rw [if_neg hb] at eR ⊢
            refine ⟨u1 J' 46 (drw (drw (drw d))), B', rdv', i1.dd, i2, by rw [u1_eq, if_pos rfl], i3, fun kx n => ?_⟩
            rw [key, if_neg t4, fX12_years_J137_36, if_pos t5, brR_29, brK, hb_of eR, if_neg (by decide), fX12_years_J169_36, letE_eq, show iN k + (1 : Int32) = iN (k + 1) from iN_add]
  · have t1 : ¬ (2 : Int32) ≤ iN (lotN (drw d) 4) := by rw [show (2 : Int32) = iN 2 from rfl, iN_le (by omega) (by omega)]; exact c1
    have t1' : iN (lotN (drw d) 4) < (2 : Int32) := by rw [show (2 : Int32) = iN 2 from rfl, iN_lt (by omega) (by omega)]; omega
    obtain ⟨J2, B2, rdv2, f1, f2, f3, f4⟩ := mk1.day (I := I) (E := E) (L := L) (pr := pr) (ot := ot) (M := M) (rdv' := rdv') (T := T) frK.refl frRB.refl i3 hz
    refine ⟨J2, B2, rdv2, (i1.dd (v := drw d)).k f2, i2.trans f3, ?_, ?_, fun kx n => ?_⟩
    · unfold yrS
      rw [if_neg c1]
      rw [f2 46 (by omega) (by omega) (by omega) (by omega) (by omega) (by omega), u1_eq, if_pos rfl]
    · unfold yrS
      rw [if_neg c1]; exact f4
    · rw [fX12_years_L36, if_neg hst, brK, hb_of (show fX12_draw 45 (4 : Int32) (encC I E L pr ot (encR J' B' M rdv' ru T)) = _ from e4), if_neg t1, brR_29, brK, hb_of f1, fX12_years_J62_36, if_pos t1', fX12_years_J169_36, letE_eq, show iN k + (1 : Int32) = iN (k + 1) from iN_add]
end YR
