/-! SHARES: the model's search (2) -/
section GP
variable {I A E I' A' : Nat → Nat → Int32} {L L' : Nat → Int64} {pr ot s : Nat} {J J' J0 J1 : Nat → Int32} {B B' B0 B1 : Nat → Nat → Int32} {M M' : Nat → Int64} {rdv rdv' : Value} {ru : Nat} {T : PH} {wi : Nat → Nat → Nat} {wo lf : Nat → Nat} {hd : Nat → Nat → Bool} {g q v w n p r f G P W K X Y st acc j R b k t bb sum sv : Nat} {pre bl Z : Nat → Int32} {m cur : Nat × (Nat → Int32)} {o : Option Nat}
theorem go_none (gs : GS J0 B0 wo wi hd G P W) (ih : GOr rdv ru T I E L pr ot M J0 B0 wo wi hd G P W r) (hp : p + (r + 1) = P) (hs : sum ≤ p * W) (hb : bb ≤ 1000) (hl : ∀ g, lf g < 1000) (t : GT J0 B0 G P p lf pre bl bb J B) :
    ∃ J' B', (∀ f rc kx, r < f → fX12_goShares_J106_65 (rX12_goShares f) rc kx 45 (iN p) (iN sum) (-iN 1) (encC I E L pr ot (encR J B M rdv ru T)) = rc (iN 0) (encC I E L pr ot (encR J' B' M rdv ru T))) ∧ GT J0 B0 G P p lf pre (blN p pre bl bb sum (wo p + (mbl wo wi hd G r (p + 1) lf).1, upd (mbl wo wi hd G r (p + 1) lf).2 p (-1))) (bbN bb sum (wo p + (mbl wo wi hd G r (p + 1) lf).1, upd (mbl wo wi hd G r (p + 1) lf).2 p (-1))) J' B' := by
  obtain ⟨hG, hP, hW, h8, h6, h7, hh, hwi, hwo, lwo, lwi⟩ := gs
  obtain ⟨⟨t1, t1'⟩, t2, t3, t4, t5⟩ := t
  have hp1 : p < P := by omega
  have hw := lwo p
  have hs' : sum + wo p ≤ (p + 1) * W := by rw [Nat.add_mul, Nat.one_mul]; omega
  obtain ⟨J2, B2, f1, ⟨u1', u1''⟩, u2, u3, u4, u5⟩ := ih (p + 1) (sum + wo p) lf bb bl (upd pre p (-1)) J (u1 B 41 (upd (B 41) p (-1))) (by omega) hs' hb hl ⟨⟨t1, fun x x1 x2 x3 => by rw [u1_o x1]; exact t1' x x1 x2 x3⟩, fun g hg => by rw [u1_o (by decide)]; exact t2 g hg, fun q hq => by
    rw [u1_at, upd_if, upd_if]
    by_cases e : q = p
    · rw [if_pos e, if_pos e]
    · rw [if_neg e, if_neg e]; exact t3 q (by omega), t4, fun q hq => by rw [u1_o (by decide)]; exact t5 q hq⟩
  refine ⟨J2, B2, fun f rc kx hf => ?_, ⟨u1', u1''⟩, u2, fun q hq => by rw [u3 q (by omega), upd_if, if_neg (by omega)], by rw [u4, bb_fst], fun q hq => by rw [u5 q hq, bl_fst]⟩
  have e40 : u1 B 41 (upd (B 41) p (-1)) 40 = B0 40 := by rw [u1_o (by decide)]; exact t1' 40 (by decide) (by decide) (by decide)
  have b1 := hwo p hp1
  have g1 := f1 f hf
  have e0 : -iN 1 + iN 1 = iN 0 := by decide
  have em : ((-1 : Int32)) = -iN 1 := rfl
  rw [em] at g1 e40
  generalize wo p = wv at b1 g1
  simp (disch := first | omega | assumption | (simp (disch := omega) only [iN_lit, iN_add, iN_mul, iN_pred, iN_pred', iN_lt, iN_le, iN_eq, iN_nat, nlt_t, nlt_f, nle_t, nle_f, neq_t, neq_f, List.length_nil, List.length_cons, or_false, false_or, or_self, not_false_eq_true, not_true_eq_false, ↓reduceIte, if_true, if_false, Bool.false_eq_true, Nat.reduceAdd])) only [fX12_goShares_J106_65, ↓brR_41, ↓brA_41, ↓brS_41, ↓brR_43, ↓brA_43, ↓brS_43, fX12_goShares_J128_65, ↓brK, fX12_goShares_J158_65, fX12_servedMany, ↓brR_40, ↓brA_40, ↓brS_40, fX12_servedMany_J19, ↓hb_of (c_bitCount), ↓hb_some, ↓bd_some, ↓letE_eq, h_z0, h_z1, h_zi0, h_zi1, ↓hb_of c_bitCount, iN_lit, iN_add, iN_mul, iN_pred, iN_pred', iN_lt, iN_le, iN_eq, iN_nat, nlt_t, nlt_f, nle_t, nle_f, neq_t, neq_f, List.length_nil, List.length_cons, or_false, false_or, or_self, not_false_eq_true, not_true_eq_false, ↓reduceIte, if_true, if_false, Bool.false_eq_true, Nat.reduceAdd, e40, b1, g1, e0]
theorem go_some (gs : GS J0 B0 wo wi hd G P W) (ih : GOr rdv ru T I E L pr ot M J0 B0 wo wi hd G P W r) (hp : p + (r + 1) = P) (hs : sum ≤ p * W) (hb : bb ≤ 1000) (hl : ∀ g, lf g < 1000) (hg : g < G) (l0 : 0 < lf g) (t : GT J0 B0 G P p lf pre bl bb J B) :
    ∃ J' B', (∀ f rc kx, r < f → fX12_goShares_J106_65 (rX12_goShares f) rc kx 45 (iN p) (iN sum) (iN g) (encC I E L pr ot (encR J B M rdv ru T)) = rc (iN (g + 1)) (encC I E L pr ot (encR J' B' M rdv ru T))) ∧ GT J0 B0 G P p lf pre (blN (p + 1) (upd pre p (iN g)) bl bb (sum + wi p g) (mbl wo wi hd G r (p + 1) (dcL lf g))) (bbN bb (sum + wi p g) (mbl wo wi hd G r (p + 1) (dcL lf g))) J' B' := by
  obtain ⟨hG, hP, hW, h8, h6, h7, hh, hwi, hwo, lwo, lwi⟩ := gs
  obtain ⟨⟨t1, t1'⟩, t2, t3, t4, t5⟩ := t
  have hp1 : p < P := by omega
  have hw := lwi p g
  have hlg := hl g
  have hs' : sum + wi p g ≤ (p + 1) * W := by rw [Nat.add_mul, Nat.one_mul]; omega
  obtain ⟨J2, B2, f1, ⟨u1', u1''⟩, u2, u3, u4, u5⟩ := ih (p + 1) (sum + wi p g) (dcL lf g) bb bl (upd pre p (iN g)) J (u1 (u1 B 41 (upd (B 41) p (iN g))) 43 (upd (B 43) g (iN (lf g - 1)))) (by omega) hs' hb (fun x => Nat.lt_of_le_of_lt dcL_le (hl x)) ⟨⟨t1, fun x x1 x2 x3 => by rw [u1_o x3, u1_o x1]; exact t1' x x1 x2 x3⟩, fun x hx => by
    rw [u1_at, upd_if]
    unfold dcL
    by_cases e : x = g
    · rw [if_pos e, if_pos e, e]
    · rw [if_neg e, if_neg e]; exact t2 x hx, fun q hq => by
    rw [u1_o (by decide), u1_at, upd_if, upd_if]
    by_cases e : q = p
    · rw [if_pos e, if_pos e]
    · rw [if_neg e, if_neg e]; exact t3 q (by omega), t4, fun q hq => by rw [u1_o (by decide), u1_o (by decide)]; exact t5 q hq⟩
  refine ⟨J2, u1 B2 43 (upd (B2 43) g (iN (lf g))), fun f rc kx hf => ?_, ⟨u1', fun x x1 x2 x3 => by rw [u1_o x3]; exact u1'' x x1 x2 x3⟩, fun x hx => ?_, fun q hq => by rw [u1_o (by decide), u3 q (by omega), upd_if, if_neg (by omega)], u4, fun q hq => by rw [u1_o (by decide)]; exact u5 q hq⟩
  · have e40 : B 40 = B0 40 := t1' 40 (by decide) (by decide) (by decide)
    have b1 := hwi p g hp1 hg
    have g1 := f1 f hf
    have ne : (iN g = -iN 1) = False := ne_m (by omega) (by decide) (by decide)
    have c43 := t2 g hg
    have n3 : iN (lf g) - iN 1 = iN (lf g - 1) := iN_sub (by omega)
    have n4 : iN (lf g - 1) + iN 1 = iN (lf g) := by rw [iN_add]; congr 1; omega
    have d43 : B2 43 g = iN (lf g - 1) := by
      rw [u2 g hg]
      unfold dcL
      rw [if_pos rfl]
    have e40' : u1 (u1 B 41 (upd (B 41) p (iN g))) 43 (upd (B 43) g (iN (lf g - 1))) 40 = B0 40 := by rw [u1_o (by decide), u1_o (by decide)]; exact e40
    have e43' : u1 B 41 (upd (B 41) p (iN g)) 43 = B 43 := u1_o (by decide)
    generalize wi p g = wv at b1 g1
    simp (disch := first | omega | assumption | (simp (disch := omega) only [iN_lit, iN_add, iN_mul, iN_pred, iN_pred', iN_lt, iN_le, iN_eq, iN_nat, nlt_t, nlt_f, nle_t, nle_f, neq_t, neq_f, List.length_nil, List.length_cons, or_false, false_or, or_self, not_false_eq_true, not_true_eq_false, ↓reduceIte, if_true, if_false, Bool.false_eq_true, Nat.reduceAdd])) only [fX12_goShares_J106_65, ↓brR_41, ↓brA_41, ↓brS_41, ↓brR_43, ↓brA_43, ↓brS_43, fX12_goShares_J128_65, ↓brK, fX12_goShares_J158_65, fX12_servedMany, ↓brR_40, ↓brA_40, ↓brS_40, fX12_servedMany_J19, ↓hb_of (c_bitCount), ↓hb_some, ↓bd_some, ↓letE_eq, h_z0, h_z1, h_zi0, h_zi1, ↓hb_of c_bitCount, iN_lit, iN_add, iN_mul, iN_pred, iN_pred', iN_lt, iN_le, iN_eq, iN_nat, nlt_t, nlt_f, nle_t, nle_f, neq_t, neq_f, List.length_nil, List.length_cons, or_false, false_or, or_self, not_false_eq_true, not_true_eq_false, ↓reduceIte, if_true, if_false, Bool.false_eq_true, Nat.reduceAdd, ne, e43', c43, n3, e40', b1, g1, d43, n4]
  · rw [u1_at, upd_if]
    by_cases e : x = g
    · rw [if_pos e, e]
    · rw [if_neg e, u2 x hx]
      unfold dcL
      rw [if_neg e]
theorem bbN_le (hm : sum + m.1 ≤ 900) (hb : bb ≤ 1000) : bbN bb sum m ≤ 1000 := by
  unfold bbN
  split <;> omega
theorem go_succ (gs : GS J0 B0 wo wi hd G P W) (ih : GOr rdv ru T I E L pr ot M J0 B0 wo wi hd G P W r) : GOr rdv ru T I E L pr ot M J0 B0 wo wi hd G P W (r + 1) := by
  intro p sum lf bb bl pre J B hp hs hb hl ht
  have gs' := gs
  obtain ⟨hG, hP, hW, h8, h6, h7, hh, hwi, hwo, lwo, lwi⟩ := gs'
  obtain ⟨⟨t1, t1'⟩, t2, t3, t4, t5⟩ := id ht
  have hp1 : p < P := by omega
  have hpw : p * W ≤ 36 := by have := Nat.mul_le_mul (show p ≤ 6 by omega) h7; omega
  have hrw : (r + 1) * W ≤ 36 := by have := Nat.mul_le_mul (show r + 1 ≤ 6 by omega) h7; omega
  have e1 : J 1 = iN G := (t1 1 (by decide)).trans hG
  have e2 : J 2 = iN P := (t1 2 (by decide)).trans hP
  have e3 : J 3 = iN W := (t1 3 (by decide)).trans hW
  have hml := mbl_le (wo := wo) (wi := wi) (hd := hd) (G := G) (W := W) lwo lwi (r + 1) p lf
  have z1 : iN P - iN p = iN (r + 1) := by rw [iN_sub (by omega)]; congr 1; omega
  have z2 : iN sum + iN (r + 1) * iN W = iN (sum + (r + 1) * W) := by rw [iN_mul, iN_add]
  have npe : (iN p = iN P) = False := eq_false (by rw [iN_eq (by omega) (by omega)]; omega)
  generalize hrW : (r + 1) * W = rw at *
  by_cases hc : bb ≤ sum + rw
  · have n1 : (eB bb < iN (sum + (r + 1) * W)) = True := by rw [hrW, eB_lt (by omega) (by omega)]; exact eq_true hc
    obtain ⟨J1, B1, s1, s2⟩ := go_none gs ih hp hs hb hl ht
    have hcl : ∀ c, (mbC (fun c => decide (0 < lf c) && !hd p c) (fun c => wi p c + (mbl wo wi hd G r (p + 1) (dcL lf c)).1) (fun c => upd (mbl wo wi hd G r (p + 1) (dcL lf c)).2 p (iN c)) (wo p + (mbl wo wi hd G r (p + 1) lf).1, upd (mbl wo wi hd G r (p + 1) lf).2 p (-1)) c).1 ≤ rw := by
      rw [← hrW, Nat.add_mul, Nat.one_mul]
      exact mbC_le (by have := mbl_le (wo := wo) (wi := wi) (hd := hd) (G := G) (W := W) lwo lwi r (p + 1) lf; have := lwo p; show wo p + _ ≤ _; omega) (fun c => by have := mbl_le (wo := wo) (wi := wi) (hd := hd) (G := G) (W := W) lwo lwi r (p + 1) (dcL lf c); have := lwi p c; show wi p c + _ ≤ _; omega)
    have key := lp_k (fun (c : {f : Nat // r < f}) n' k (q : (Nat → Int32) × (Nat → Nat → Int32)) => fX12_goShares_L65 (rX12_goShares c.1) 45 (iN p) (iN sum) (fun h5 => some ((), h5)) n' (iN k) (encC I E L pr ot (encR (q.1) (q.2) M rdv ru T))) (fun _ q => some ((), (encC I E L pr ot (encR (q.1) (q.2) M rdv ru T)))) (fun k q => GT J0 B0 G P p lf pre (blN p pre bl bb sum (mbC (fun c => decide (0 < lf c) && !hd p c) (fun c => wi p c + (mbl wo wi hd G r (p + 1) (dcL lf c)).1) (fun c => upd (mbl wo wi hd G r (p + 1) (dcL lf c)).2 p (iN c)) (wo p + (mbl wo wi hd G r (p + 1) lf).1, upd (mbl wo wi hd G r (p + 1) lf).2 p (-1)) k)) (bbN bb sum (mbC (fun c => decide (0 < lf c) && !hd p c) (fun c => wi p c + (mbl wo wi hd G r (p + 1) (dcL lf c)).1) (fun c => upd (mbl wo wi hd G r (p + 1) (dcL lf c)).2 p (iN c)) (wo p + (mbl wo wi hd G r (p + 1) lf).1, upd (mbl wo wi hd G r (p + 1) lf).2 p (-1)) k)) q.1 q.2) G
      (fun k q hk hi => by
        obtain ⟨J2, B2⟩ := q
        dsimp only at hi
        have hck := hcl k
        have emb : mbC (fun c => decide (0 < lf c) && !hd p c) (fun c => wi p c + (mbl wo wi hd G r (p + 1) (dcL lf c)).1) (fun c => upd (mbl wo wi hd G r (p + 1) (dcL lf c)).2 p (iN c)) (wo p + (mbl wo wi hd G r (p + 1) lf).1, upd (mbl wo wi hd G r (p + 1) lf).2 p (-1)) (k + 1) = if (decide (0 < lf k) && !hd p k) && decide ((mbC (fun c => decide (0 < lf c) && !hd p c) (fun c => wi p c + (mbl wo wi hd G r (p + 1) (dcL lf c)).1) (fun c => upd (mbl wo wi hd G r (p + 1) (dcL lf c)).2 p (iN c)) (wo p + (mbl wo wi hd G r (p + 1) lf).1, upd (mbl wo wi hd G r (p + 1) lf).2 p (-1)) k).1 < wi p k + (mbl wo wi hd G r (p + 1) (dcL lf k)).1) then (wi p k + (mbl wo wi hd G r (p + 1) (dcL lf k)).1, upd (mbl wo wi hd G r (p + 1) (dcL lf k)).2 p (iN k)) else mbC (fun c => decide (0 < lf c) && !hd p c) (fun c => wi p c + (mbl wo wi hd G r (p + 1) (dcL lf c)).1) (fun c => upd (mbl wo wi hd G r (p + 1) (dcL lf c)).2 p (iN c)) (wo p + (mbl wo wi hd G r (p + 1) lf).1, upd (mbl wo wi hd G r (p + 1) lf).2 p (-1)) k := rfl
        rw [emb]
        generalize mbC (fun c => decide (0 < lf c) && !hd p c) (fun c => wi p c + (mbl wo wi hd G r (p + 1) (dcL lf c)).1) (fun c => upd (mbl wo wi hd G r (p + 1) (dcL lf c)).2 p (iN c)) (wo p + (mbl wo wi hd G r (p + 1) lf).1, upd (mbl wo wi hd G r (p + 1) lf).2 p (-1)) k = cu at *
        obtain ⟨⟨v1, v1'⟩, v2, v3, v4, v5⟩ := id hi
        have d1 : J2 1 = iN G := (v1 1 (by decide)).trans hG
        have ne : (iN k = -iN 1) = False := ne_m (by omega) (by decide) (by decide)
        have d43 := v2 k hk
        have hlk := hl k
        have d0 : hasB (B2 0 (32 + p)) k = hd p k := by rw [v1' 0 (by decide) (by decide) (by decide)]; exact hh p k hp1 hk
        by_cases l0 : 0 < lf k
        · have nz : (iN (lf k) = iN 0) = False := eq_false (by rw [iN_eq (by omega) (by omega)]; omega)
          cases hb2 : hd p k with
          | true =>
            rw [hb2] at d0
            refine ⟨(J2, B2), ?_, fun c n' => ?_⟩
            · rw [show (!true) = false from rfl, Bool.and_false, Bool.false_and, if_neg (by decide)]
              exact hi
            · dsimp only
              simp (disch := first | omega | assumption | (simp (disch := omega) only [iN_lit, iN_add, iN_mul, iN_pred, iN_pred', iN_lt, iN_le, iN_eq, iN_nat, nlt_t, nlt_f, nle_t, nle_f, neq_t, neq_f, List.length_nil, List.length_cons, or_false, false_or, or_self, not_false_eq_true, not_true_eq_false, ↓reduceIte, if_true, if_false, Bool.false_eq_true, Nat.reduceAdd])) only [fX12_goShares_L65, ↓brR_43, ↓brA_43, ↓brS_43, ↓brR_0, ↓brA_0, ↓brS_0, ↓brG_1, fX12_goShares_J158_65, fX12_goShares_J128_65, ↓brK, fX12_goShares_J106_65, ↓brR_41, ↓brA_41, ↓brS_41, ↓hb_some, ↓bd_some, ↓letE_eq, h_z0, h_z1, h_zi0, h_zi1, ↓hb_of (has_y d0), iN_lit, iN_add, iN_mul, iN_pred, iN_pred', iN_lt, iN_le, iN_eq, iN_nat, nlt_t, nlt_f, nle_t, nle_f, neq_t, neq_f, List.length_nil, List.length_cons, or_false, false_or, or_self, not_false_eq_true, not_true_eq_false, ↓reduceIte, if_true, if_false, Bool.false_eq_true, Nat.reduceAdd, d1, ne, d43, nz]
          | false =>
            rw [hb2] at d0
            obtain ⟨J3, B3, s3, s4⟩ := go_some (g := k) gs ih hp hs (bbN_le (by omega) hb) hl hk l0 hi
            refine ⟨(J3, B3), ?_, fun c n' => ?_⟩
            · obtain ⟨w1, w2, w3, w4, w5⟩ := s4
              have ed : (if (decide (0 < lf k) && !false) && decide (cu.1 < wi p k + (mbl wo wi hd G r (p + 1) (dcL lf k)).1) then (wi p k + (mbl wo wi hd G r (p + 1) (dcL lf k)).1, upd (mbl wo wi hd G r (p + 1) (dcL lf k)).2 p (iN k)) else cu) = (if cu.1 < wi p k + (mbl wo wi hd G r (p + 1) (dcL lf k)).1 then (wi p k + (mbl wo wi hd G r (p + 1) (dcL lf k)).1, upd (mbl wo wi hd G r (p + 1) (dcL lf k)).2 p (iN k)) else cu) := by
                rw [decide_eq_true l0]
                by_cases e : cu.1 < wi p k + (mbl wo wi hd G r (p + 1) (dcL lf k)).1
                · rw [decide_eq_true e, if_pos e]; rfl
                · rw [decide_eq_false e, if_neg e]; rfl
              rw [ed]
              exact ⟨w1, w2, w3, by dsimp only; rw [w4, bb_cmb], fun q hq => by dsimp only; rw [w5 q hq, bl_cmb]⟩
            · dsimp only
              have s5 := s3 c.1 (fX12_goShares_L65 (rX12_goShares c.1) 45 (iN p) (iN sum) (fun h5 => some ((), h5)) n') (fun h5 => some ((), h5)) c.2
              simp (disch := first | omega | assumption | (simp (disch := omega) only [iN_lit, iN_add, iN_mul, iN_pred, iN_pred', iN_lt, iN_le, iN_eq, iN_nat, nlt_t, nlt_f, nle_t, nle_f, neq_t, neq_f, List.length_nil, List.length_cons, or_false, false_or, or_self, not_false_eq_true, not_true_eq_false, ↓reduceIte, if_true, if_false, Bool.false_eq_true, Nat.reduceAdd])) only [fX12_goShares_L65, ↓brR_43, ↓brA_43, ↓brS_43, ↓brR_0, ↓brA_0, ↓brS_0, ↓brG_1, ↓hb_some, ↓bd_some, ↓letE_eq, h_z0, h_z1, h_zi0, h_zi1, ↓hb_of (has_n d0), iN_lit, iN_add, iN_mul, iN_pred, iN_pred', iN_lt, iN_le, iN_eq, iN_nat, nlt_t, nlt_f, nle_t, nle_f, neq_t, neq_f, List.length_nil, List.length_cons, or_false, false_or, or_self, not_false_eq_true, not_true_eq_false, ↓reduceIte, if_true, if_false, Bool.false_eq_true, Nat.reduceAdd, d1, ne, d43, nz, s5]
        · have nz : lf k = 0 := by omega
          rw [nz] at d43
          refine ⟨(J2, B2), ?_, fun c n' => ?_⟩
          · rw [decide_eq_false l0, Bool.false_and, Bool.false_and, if_neg (by decide)]
            exact hi
          · dsimp only
            simp (disch := first | omega | assumption | (simp (disch := omega) only [iN_lit, iN_add, iN_mul, iN_pred, iN_pred', iN_lt, iN_le, iN_eq, iN_nat, nlt_t, nlt_f, nle_t, nle_f, neq_t, neq_f, List.length_nil, List.length_cons, or_false, false_or, or_self, not_false_eq_true, not_true_eq_false, ↓reduceIte, if_true, if_false, Bool.false_eq_true, Nat.reduceAdd])) only [fX12_goShares_L65, ↓brR_43, ↓brA_43, ↓brS_43, ↓brR_0, ↓brA_0, ↓brS_0, ↓brG_1, fX12_goShares_J158_65, fX12_goShares_J128_65, ↓brK, fX12_goShares_J106_65, ↓brR_41, ↓brA_41, ↓brS_41, ↓hb_some, ↓bd_some, ↓letE_eq, h_z0, h_z1, h_zi0, h_zi1, iN_lit, iN_add, iN_mul, iN_pred, iN_pred', iN_lt, iN_le, iN_eq, iN_nat, nlt_t, nlt_f, nle_t, nle_f, neq_t, neq_f, List.length_nil, List.length_cons, or_false, false_or, or_self, not_false_eq_true, not_true_eq_false, ↓reduceIte, if_true, if_false, Bool.false_eq_true, Nat.reduceAdd, d1, ne, d43])
      (fun q hi c n' => by
        obtain ⟨J2, B2⟩ := q
        have d1 : J2 1 = iN G := (hi.1.1 1 (by decide)).trans hG
        dsimp only
        simp (disch := first | omega | assumption | (simp (disch := omega) only [iN_lit, iN_add, iN_mul, iN_pred, iN_pred', iN_lt, iN_le, iN_eq, iN_nat, nlt_t, nlt_f, nle_t, nle_f, neq_t, neq_f, List.length_nil, List.length_cons, or_false, false_or, or_self, not_false_eq_true, not_true_eq_false, ↓reduceIte, if_true, if_false, Bool.false_eq_true, Nat.reduceAdd])) only [fX12_goShares_L65, ↓brR_43, ↓brA_43, ↓brS_43, ↓brR_0, ↓brA_0, ↓brS_0, ↓brG_1, fX12_goShares_J158_65, fX12_goShares_J128_65, ↓brK, fX12_goShares_J106_65, ↓brR_41, ↓brA_41, ↓brS_41, ↓hb_some, ↓bd_some, ↓letE_eq, h_z0, h_z1, h_zi0, h_zi1, iN_lit, iN_add, iN_mul, iN_pred, iN_pred', iN_lt, iN_le, iN_eq, iN_nat, nlt_t, nlt_f, nle_t, nle_f, neq_t, neq_f, List.length_nil, List.length_cons, or_false, false_or, or_self, not_false_eq_true, not_true_eq_false, ↓reduceIte, if_true, if_false, Bool.false_eq_true, Nat.reduceAdd, d1]) G 0 (J1, B1) (by omega) s2
    obtain ⟨⟨J2, B2⟩, k1, k2⟩ := key
    refine ⟨J2, B2, fun f hf => ?_, k1⟩
    obtain ⟨f', rfl⟩ : ∃ f', f = f' + 1 := ⟨f - 1, by omega⟩
    show fX12_goShares (rX12_goShares f') 45 (iN p) (iN sum) (encC I E L pr ot (encR J B M rdv ru T)) = _
    obtain ⟨m, hm⟩ : ∃ m, FU = m + 1 := ⟨1999, rfl⟩
    have k3 := k2 ⟨f', by omega⟩ m (by unfold FU at hm; omega)
    have s5 := s1 f' (fX12_goShares_L65 (rX12_goShares f') 45 (iN p) (iN sum) (fun h5 => some ((), h5)) m) (fun h5 => some ((), h5)) (by omega)
    dsimp only at k3
    have k4 : fX12_goShares_L65 (rX12_goShares f') 45 (iN p) (iN sum) (fun h5 => some ((), h5)) FU (-iN 1) (encC I E L pr ot (encR J B M rdv ru T)) = some ((), (encC I E L pr ot (encR J2 B2 M rdv ru T))) := by
      rw [hm, ← k3, ← s5]
      have ng : (iN G ≤ -iN 1) = False := eq_false (by
        have key : ∀ g : Fin 9, ¬ (iN g.val ≤ -iN 1) := by decide +kernel
        exact key ⟨G, by omega⟩)
      simp (disch := first | omega | assumption | (simp (disch := omega) only [iN_lit, iN_add, iN_mul, iN_pred, iN_pred', iN_lt, iN_le, iN_eq, iN_nat, nlt_t, nlt_f, nle_t, nle_f, neq_t, neq_f, List.length_nil, List.length_cons, or_false, false_or, or_self, not_false_eq_true, not_true_eq_false, ↓reduceIte, if_true, if_false, Bool.false_eq_true, Nat.reduceAdd])) only [fX12_goShares_L65, ↓brR_43, ↓brA_43, ↓brS_43, ↓brR_0, ↓brA_0, ↓brS_0, ↓brG_1, ↓hb_some, ↓bd_some, ↓letE_eq, h_z0, h_z1, h_zi0, h_zi1, iN_lit, iN_add, iN_mul, iN_pred, iN_pred', iN_lt, iN_le, iN_eq, iN_nat, nlt_t, nlt_f, nle_t, nle_f, neq_t, neq_f, List.length_nil, List.length_cons, or_false, false_or, or_self, not_false_eq_true, not_true_eq_false, ↓reduceIte, if_true, if_false, Bool.false_eq_true, Nat.reduceAdd, e1, ng]
    simp (disch := first | omega | assumption | (simp (disch := omega) only [iN_lit, iN_add, iN_mul, iN_pred, iN_pred', iN_lt, iN_le, iN_eq, iN_nat, nlt_t, nlt_f, nle_t, nle_f, neq_t, neq_f, List.length_nil, List.length_cons, or_false, false_or, or_self, not_false_eq_true, not_true_eq_false, ↓reduceIte, if_true, if_false, Bool.false_eq_true, Nat.reduceAdd])) only [fX12_goShares, ↓brG_2, ↓brG_3, ↓brG_44, ↓brW_44, fX12_goShares_J158_65, fX12_goShares_J128_65, ↓brK, ↓brR_43, ↓brA_43, ↓brS_43, fX12_goShares_J106_65, ↓brR_41, ↓brA_41, ↓brS_41, ↓hb_some, ↓bd_some, ↓letE_eq, h_z0, h_z1, h_zi0, h_zi1, iN_lit, iN_add, iN_mul, iN_pred, iN_pred', iN_lt, iN_le, iN_eq, iN_nat, nlt_t, nlt_f, nle_t, nle_f, neq_t, neq_f, List.length_nil, List.length_cons, or_false, false_or, or_self, not_false_eq_true, not_true_eq_false, ↓reduceIte, if_true, if_false, Bool.false_eq_true, Nat.reduceAdd, e2, e3, t4, z1, z2, n1, npe, k4]
  · have n1 : (eB bb < iN (sum + (r + 1) * W)) = False := by
      rw [hrW]
      have := eB_lt (bb := bb) (s := sum + rw) hb (by omega)
      rw [this]; exact eq_false hc
    refine ⟨J, B, fun f hf => ?_, ⟨t1, t1'⟩, t2, t3, ?_, fun q hq => ?_⟩
    · obtain ⟨f', rfl⟩ : ∃ f', f = f' + 1 := ⟨f - 1, by omega⟩
      show fX12_goShares (rX12_goShares f') 45 (iN p) (iN sum) (encC I E L pr ot (encR J B M rdv ru T)) = _
      simp (disch := first | omega | assumption | (simp (disch := omega) only [iN_lit, iN_add, iN_mul, iN_pred, iN_pred', iN_lt, iN_le, iN_eq, iN_nat, nlt_t, nlt_f, nle_t, nle_f, neq_t, neq_f, List.length_nil, List.length_cons, or_false, false_or, or_self, not_false_eq_true, not_true_eq_false, ↓reduceIte, if_true, if_false, Bool.false_eq_true, Nat.reduceAdd])) only [fX12_goShares, ↓brG_2, ↓brG_3, ↓brG_44, ↓brW_44, fX12_goShares_J158_65, fX12_goShares_J128_65, ↓brK, ↓brR_43, ↓brA_43, ↓brS_43, fX12_goShares_J106_65, ↓brR_41, ↓brA_41, ↓brS_41, ↓hb_some, ↓bd_some, ↓letE_eq, h_z0, h_z1, h_zi0, h_zi1, iN_lit, iN_add, iN_mul, iN_pred, iN_pred', iN_lt, iN_le, iN_eq, iN_nat, nlt_t, nlt_f, nle_t, nle_f, neq_t, neq_f, List.length_nil, List.length_cons, or_false, false_or, or_self, not_false_eq_true, not_true_eq_false, ↓reduceIte, if_true, if_false, Bool.false_eq_true, Nat.reduceAdd, e2, e3, t4, z1, z2, n1]
    · unfold bbN
      rw [if_neg (by omega)]; exact t4
    · unfold blN
      rw [if_neg (by omega)]; exact t5 q hq
theorem go_all (gs : GS J0 B0 wo wi hd G P W) : ∀ r, GOr rdv ru T I E L pr ot M J0 B0 wo wi hd G P W r
  | 0 => go_end gs
  | r + 1 => go_succ gs (go_all gs r)
end GP
