/-! CALLS: pulls -/
/-- what some GROUNDS pull a humour to: together, how many -/
def puS (A : Nat → Nat → Int32) (m : Int32) (h : Nat) : Nat → Nat × Nat
  | 0 => (0, 0)
  | g + 1 => if hasB m g && !decide (A 13 (g * 4 + h) = -1) then ((puS A m h g).1 + (A 13 (g * 4 + h)).toNatClampNeg, (puS A m h g).2 + 1) else puS A m h g
def meS (A : Nat → Nat → Int32) (G : Nat) (m : Int32) (h : Nat) : Int32 := if (puS A m h G).2 = 0 then -1 else iN (puS A m h G).1 / iN (puS A m h G).2
def mL (L : Nat → Int64) (f : Nat → Int32) : Nat → Nat → Int64
  | 0 => L
  | k + 1 => vp_updL (mL L f k) k (f k).toInt64
def mR (f : Nat → Int32) : Nat → List Int64
  | 0 => []
  | k + 1 => mR f k ++ [(f k).toInt64]
theorem mR_len {f : Nat → Int32} : ∀ k, (mR f k).length = k
  | 0 => rfl
  | k + 1 => by
    unfold mR
    rw [List.length_append, mR_len k]; rfl
theorem mR_C {L : Nat → Int64} {f : Nat → Int32} : ∀ k, rowC (iN k) (mL L f k) (mR f k)
  | 0 => row_0
  | k + 1 => row_s (mR_C k) (mR_len k).symm
theorem puS_le {A : Nat → Nat → Int32} {m : Int32} {h G : Nat} (hp : PLS A G) (hh : h < 4) : ∀ k, k ≤ G → (puS A m h k).1 ≤ 9 * k ∧ (puS A m h k).2 ≤ k
  | 0, _ => ⟨Nat.le_refl _, Nat.le_refl _⟩
  | k + 1, hk => by
    obtain ⟨h1, h2⟩ := puS_le (m := m) hp hh k (by omega)
    unfold puS
    split
    · rename_i c
      have hne : ¬ A 13 (k * 4 + h) = -1 := fun e => by
        rw [decide_eq_true e] at c; simp at c
      rcases hp (k * 4 + h) (by omega) with e | ⟨v, hv, e⟩
      · exact absurd e hne
      · rw [e, iN_nat (by omega)]
        dsimp only; omega
    · omega
theorem div_nn : ∀ s : Fin 73, ∀ c : Fin 9, 0 < c.val → ¬ (iN s.val / iN c.val < 0) := by decide +kernel
section PU
variable {I A E I' A' : Nat → Nat → Int32} {L L' : Nat → Int64} {pr ot s : Nat} {J J' : Nat → Int32} {B B' : Nat → Nat → Int32} {M M' : Nat → Int64} {rdv rdv' : Value} {ru : Nat} {T : PH} {G P W p q g n nr sz ro oa w t k h : Nat} {Z Z' R X : Nat → Int32} {x y z i2 m : Int32} {out : Nat → Int64} {pu : (Nat → Int32) → Int32}
theorem c_mean (hF : FS I G P W) (hpl : PLS A G) (hh : h < 4) : fX0_meanPull 11 m (iN h) (encC I A L pr ot T) = some (meS A G m h, (encC I A L pr ot T)) := by
  obtain ⟨hG, -, -, h8, -⟩ := hF
  have key := lp_det (fun n k (q : Nat × Nat) => fX0_meanPull_L8 11 m (iN h) (fun x1 x2 h3 => if x2 ≤ 0 then (some ((-1 : Int32), h3)) else (if x2 = 0 then none else (some ((x1 / x2), h3)))) n (iN q.1) (iN q.2) (iN k) (encC I A L pr ot T)) (fun q => if iN q.2 ≤ 0 then (some ((-1 : Int32), (encC I A L pr ot T))) else (if iN q.2 = 0 then none else (some ((iN q.1 / iN q.2), (encC I A L pr ot T))))) (puS A m h) G
    (fun k hk n => by
      have f1 := c_pullOf (A := A) (L := L) (pr := pr) (ot := ot) (T := T) (I := I) (g := k) (k := h) hG h8 hk hh
      have e1 : puS A m h (k + 1) = if hasB m k && !decide (A 13 (k * 4 + h) = -1) then ((puS A m h k).1 + (A 13 (k * 4 + h)).toNatClampNeg, (puS A m h k).2 + 1) else puS A m h k := rfl
      cases hb : hasB m k with
      | false =>
        rw [e1, hb, Bool.false_and, if_neg (by decide)]
        simp (disch := first | omega | assumption | (simp (disch := omega) only [iN_lit, iN_add, iN_mul, iN_pred, iN_pred', iN_lt, iN_le, iN_eq, iN_nat, nlt_t, nlt_f, nle_t, nle_f, neq_t, neq_f, List.length_nil, List.length_cons, or_false, false_or, or_self, not_false_eq_true, not_true_eq_false, ↓reduceIte, if_true, if_false, Bool.false_eq_true, Nat.reduceAdd])) only [fX0_meanPull_L8, ↓bK_11, ↓bG_11_9, fX0_meanPull_J50_8, ↓hb_some, ↓bd_some, ↓letE_eq, h_z0, h_z1, h_zi0, h_zi1, ↓hb_of (isIn_n hb), iN_lit, iN_add, iN_mul, iN_pred, iN_pred', iN_lt, iN_le, iN_eq, iN_nat, nlt_t, nlt_f, nle_t, nle_f, neq_t, neq_f, List.length_nil, List.length_cons, or_false, false_or, or_self, not_false_eq_true, not_true_eq_false, ↓reduceIte, if_true, if_false, Bool.false_eq_true, Nat.reduceAdd, hG]
      | true =>
        by_cases h1 : A 13 (k * 4 + h) = -1
        · rw [e1, hb, decide_eq_true h1, Bool.not_true, Bool.and_false, if_neg (by decide)]
          have h1' : A 13 (k * 4 + h) = -iN 1 := h1
          simp (disch := first | omega | assumption | (simp (disch := omega) only [iN_lit, iN_add, iN_mul, iN_pred, iN_pred', iN_lt, iN_le, iN_eq, iN_nat, nlt_t, nlt_f, nle_t, nle_f, neq_t, neq_f, List.length_nil, List.length_cons, or_false, false_or, or_self, not_false_eq_true, not_true_eq_false, ↓reduceIte, if_true, if_false, Bool.false_eq_true, Nat.reduceAdd])) only [fX0_meanPull_L8, ↓bK_11, ↓bG_11_9, fX0_meanPull_J50_8, ↓hb_some, ↓bd_some, ↓letE_eq, h_z0, h_z1, h_zi0, h_zi1, ↓hb_of (isIn_y hb), ↓hb_of f1, iN_lit, iN_add, iN_mul, iN_pred, iN_pred', iN_lt, iN_le, iN_eq, iN_nat, nlt_t, nlt_f, nle_t, nle_f, neq_t, neq_f, List.length_nil, List.length_cons, or_false, false_or, or_self, not_false_eq_true, not_true_eq_false, ↓reduceIte, if_true, if_false, Bool.false_eq_true, Nat.reduceAdd, hG, h1']
        · rcases hpl (k * 4 + h) (by omega) with e | ⟨v, hv, e⟩
          · exact absurd e h1
          · rw [e1, hb, decide_eq_false h1, Bool.not_false, Bool.and_self, if_pos rfl]
            dsimp only
            rw [e] at f1 ⊢
            rw [iN_nat (by omega)]
            have hne : (iN v = -iN 1) = False := ne_m (by omega) (by decide) (by decide)
            simp (disch := first | omega | assumption | (simp (disch := omega) only [iN_lit, iN_add, iN_mul, iN_pred, iN_pred', iN_lt, iN_le, iN_eq, iN_nat, nlt_t, nlt_f, nle_t, nle_f, neq_t, neq_f, List.length_nil, List.length_cons, or_false, false_or, or_self, not_false_eq_true, not_true_eq_false, ↓reduceIte, if_true, if_false, Bool.false_eq_true, Nat.reduceAdd])) only [fX0_meanPull_L8, ↓bK_11, ↓bG_11_9, fX0_meanPull_J50_8, ↓hb_some, ↓bd_some, ↓letE_eq, h_z0, h_z1, h_zi0, h_zi1, ↓hb_of (isIn_y hb), ↓hb_of f1, iN_lit, iN_add, iN_mul, iN_pred, iN_pred', iN_lt, iN_le, iN_eq, iN_nat, nlt_t, nlt_f, nle_t, nle_f, neq_t, neq_f, List.length_nil, List.length_cons, or_false, false_or, or_self, not_false_eq_true, not_true_eq_false, ↓reduceIte, if_true, if_false, Bool.false_eq_true, Nat.reduceAdd, hG, hne])
    (fun n => by simp (disch := first | omega | assumption | (simp (disch := omega) only [iN_lit, iN_add, iN_mul, iN_pred, iN_pred', iN_lt, iN_le, iN_eq, iN_nat, nlt_t, nlt_f, nle_t, nle_f, neq_t, neq_f, List.length_nil, List.length_cons, or_false, false_or, or_self, not_false_eq_true, not_true_eq_false, ↓reduceIte, if_true, if_false, Bool.false_eq_true, Nat.reduceAdd])) only [fX0_meanPull_L8, ↓bK_11, ↓bG_11_9, fX0_meanPull_J50_8, ↓hb_of (isIn_y _), ↓hb_of (isIn_n _), ↓hb_of (c_isIn_gs _ _), ↓hb_of (c_pullOf _ _ _ _), ↓hb_some, ↓bd_some, ↓letE_eq, h_z0, h_z1, h_zi0, h_zi1, iN_lit, iN_add, iN_mul, iN_pred, iN_pred', iN_lt, iN_le, iN_eq, iN_nat, nlt_t, nlt_f, nle_t, nle_f, neq_t, neq_f, List.length_nil, List.length_cons, or_false, false_or, or_self, not_false_eq_true, not_true_eq_false, ↓reduceIte, if_true, if_false, Bool.false_eq_true, Nat.reduceAdd, hG]) FU (by unfold FU; omega)
  have hb := puS_le (m := m) hpl hh G (Nat.le_refl _)
  unfold fX0_meanPull meS
  refine key.trans ?_
  by_cases h0 : (puS A m h G).2 = 0
  · rw [h0, if_pos (by decide), if_pos rfl]
  · have n1 : ¬ iN (puS A m h G).2 ≤ 0 := by
      rw [show (0 : Int32) = iN 0 from rfl, iN_le (by omega) (by omega)]; omega
    have n2 : ¬ iN (puS A m h G).2 = 0 := by
      rw [show (0 : Int32) = iN 0 from rfl, iN_eq (by omega) (by omega)]; omega
    rw [if_neg n1, if_neg n2, if_neg h0]
theorem me_neg (hpl : PLS A G) (h8 : G ≤ 8) (hh : h < 4) : (meS A G m h < 0) = ((puS A m h G).2 = 0) := by
  have hb := puS_le (m := m) hpl hh G (Nat.le_refl _)
  unfold meS
  apply propext
  by_cases h0 : (puS A m h G).2 = 0
  · rw [if_pos h0]
    exact ⟨fun _ => h0, fun _ => by decide⟩
  · rw [if_neg h0]
    exact ⟨fun c => absurd c (div_nn ⟨(puS A m h G).1, by omega⟩ ⟨(puS A m h G).2, by omega⟩ (by dsimp only; omega)), fun c => absurd c h0⟩
theorem pulls_C (ck : CK I A G P W ro pu) (hpl : PLS A G) {k0 : Nat} (hk : k0 < 2 ^ G) : qC I A L pr ot T (fX11_pulls 0 (iN k0)) (bt (fun h => !decide ((puS A (iN k0) h G).2 = 0)) 4) (some (mR (meS A G (iN k0)) 4)) := by
  have hF := ck.1
  have h8 := hF.2.2.2.1
  have hG := hF.1
  have hp2 := p2 h8
  have hsh : iN 1 <<< (iN G &&& iN 31) = iN (2 ^ G) := shl_n ⟨G, by omega⟩
  have key := lp_det (fun n k (q : Int32 × (Nat → Int64)) => fX11_pulls_L30 0 (iN k0) (fun x6 h7 => some (x6, h7)) n q.1 (iN k) (encC (u2 I 9 1 (iN k)) A (q.2) pr ot T)) (fun q => some (q.1, (encC (u2 I 9 1 (iN 4)) A (q.2) pr ot T))) (fun k => (bt (fun h => !decide ((puS A (iN k0) h G).2 = 0)) k, mL L (meS A G (iN k0)) k)) 4
    (fun k hk4 n => by
      have hF2 : FS (u2 I 9 1 (iN k)) G P W := hF
      have f1 := c_mean (I := u2 I 9 1 (iN k)) (A := A) (L := mL L (meS A G (iN k0)) k) (pr := pr) (ot := ot) (T := T) (m := iN k0) hF2 hpl hk4
      have f2 := c_add (I := I) (A := A) (L := mL L (meS A G (iN k0)) k) (pr := pr) (ot := ot) (T := T) (v := (meS A G (iN k0) k).toInt64) (n := k) (by omega)
      have e1 : bt (fun h => !decide ((puS A (iN k0) h G).2 = 0)) (k + 1) = bt (fun h => !decide ((puS A (iN k0) h G).2 = 0)) k ||| (if (!decide ((puS A (iN k0) k G).2 = 0)) = true then (1 : Int32) <<< (iN k &&& 31) else 0) := rfl
      have e2 : mL L (meS A G (iN k0)) (k + 1) = vp_updL (mL L (meS A G (iN k0)) k) k (meS A G (iN k0) k).toInt64 := rfl
      have e3 := me_neg (m := iN k0) hpl h8 hk4
      dsimp only
      rw [e1, e2]
      by_cases h0 : (puS A (iN k0) k G).2 = 0
      · have e4 : meS A G (iN k0) k < iN 0 := by show meS A G (iN k0) k < 0; rw [e3]; exact h0
        rw [decide_eq_true h0]
        simp (disch := first | omega | assumption | (simp (disch := omega) only [iN_lit, iN_add, iN_mul, iN_pred, iN_pred', iN_lt, iN_le, iN_eq, iN_nat, nlt_t, nlt_f, nle_t, nle_f, neq_t, neq_f, List.length_nil, List.length_cons, or_false, false_or, or_self, not_false_eq_true, not_true_eq_false, ↓reduceIte, if_true, if_false, Bool.false_eq_true, Nat.reduceAdd])) only [fX11_pulls_L30, ↓bK_11, ↓bK_9, ↓bR_0_7, ↓bR_0_6, fX11_pulls_J69_30, ↓hb_some, ↓bd_some, ↓letE_eq, h_z0, h_z1, h_zi0, h_zi1, ↓hb_of f1, ↓hb_of f2, iN_lit, iN_add, iN_mul, iN_pred, iN_pred', iN_lt, iN_le, iN_eq, iN_nat, nlt_t, nlt_f, nle_t, nle_f, neq_t, neq_f, List.length_nil, List.length_cons, or_false, false_or, or_self, not_false_eq_true, not_true_eq_false, ↓reduceIte, if_true, if_false, Bool.false_eq_true, Nat.reduceAdd, e4, Bool.not_true]
      · have e4 : ¬ meS A G (iN k0) k < iN 0 := by show ¬ meS A G (iN k0) k < 0; rw [e3]; exact h0
        rw [decide_eq_false h0]
        simp (disch := first | omega | assumption | (simp (disch := omega) only [iN_lit, iN_add, iN_mul, iN_pred, iN_pred', iN_lt, iN_le, iN_eq, iN_nat, nlt_t, nlt_f, nle_t, nle_f, neq_t, neq_f, List.length_nil, List.length_cons, or_false, false_or, or_self, not_false_eq_true, not_true_eq_false, ↓reduceIte, if_true, if_false, Bool.false_eq_true, Nat.reduceAdd])) only [fX11_pulls_L30, ↓bK_11, ↓bK_9, ↓bR_0_7, ↓bR_0_6, fX11_pulls_J69_30, ↓hb_some, ↓bd_some, ↓letE_eq, h_z0, h_z1, h_zi0, h_zi1, ↓hb_of f1, ↓hb_of f2, iN_lit, iN_add, iN_mul, iN_pred, iN_pred', iN_lt, iN_le, iN_eq, iN_nat, nlt_t, nlt_f, nle_t, nle_f, neq_t, neq_f, List.length_nil, List.length_cons, or_false, false_or, or_self, not_false_eq_true, not_true_eq_false, ↓reduceIte, if_true, if_false, Bool.false_eq_true, Nat.reduceAdd, e4, Bool.not_false])
    (fun n => by simp (disch := first | omega | assumption | (simp (disch := omega) only [iN_lit, iN_add, iN_mul, iN_pred, iN_pred', iN_lt, iN_le, iN_eq, iN_nat, nlt_t, nlt_f, nle_t, nle_f, neq_t, neq_f, List.length_nil, List.length_cons, or_false, false_or, or_self, not_false_eq_true, not_true_eq_false, ↓reduceIte, if_true, if_false, Bool.false_eq_true, Nat.reduceAdd])) only [fX11_pulls_L30, ↓bK_11, ↓bK_9, ↓bR_0_7, ↓bR_0_6, fX11_pulls_J69_30, ↓hb_of (c_mean _ _ _), ↓hb_of (c_add _), ↓hb_some, ↓bd_some, ↓letE_eq, h_z0, h_z1, h_zi0, h_zi1, iN_lit, iN_add, iN_mul, iN_pred, iN_pred', iN_lt, iN_le, iN_eq, iN_nat, nlt_t, nlt_f, nle_t, nle_f, neq_t, neq_f, List.length_nil, List.length_cons, or_false, false_or, or_self, not_false_eq_true, not_true_eq_false, ↓reduceIte, if_true, if_false, Bool.false_eq_true, Nat.reduceAdd]) FU (by unfold FU; omega)
  refine ⟨u2 I 9 1 (iN 4), A, mL L (meS A G (iN k0)) 4, ?_, frI.u, frQ.refl, by rw [mR_len]; decide, mR_C 4⟩
  have hn0 : ¬ iN k0 < 0 := by
    rw [show (0 : Int32) = iN 0 from rfl, iN_lt (by omega) (by omega)]; omega
  have hlt : iN k0 < (1 : Int32) <<< (I 11 9 &&& 31) := by
    rw [hG]
    show iN k0 < iN 1 <<< (iN G &&& iN 31)
    rw [hsh, iN_lt (by omega) (by omega)]; exact hk
  unfold fX11_pulls
  rw [if_neg hn0, bR_0_7, bK_11, hb_of c_groundSize, if_pos hlt, bR_0_6, bK_9, hb_of c_start]
  exact key
theorem r_pulls42 (hM : FM A J B G P W) (hpl : PLS A G) (hh : h < 4) (kx : Int32 → Int32 → PH → Option (Int32 × PH)) : fX12_pulls_L42 45 m x (iN h) kx FU (iN 0) (iN 0) (iN 0) (encC I E L pr ot (encR J B M rdv ru T)) = kx (iN (puS A m h G).1) (iN (puS A m h G).2) (encC I E L pr ot (encR J B M rdv ru T)) := by
  have h8 := hM.2.2.2.1
  have hG := hM.1
  have key := lp_det (fun n k (q : Nat × Nat) => fX12_pulls_L42 45 m x (iN h) kx n (iN q.1) (iN q.2) (iN k) (encC I E L pr ot (encR J B M rdv ru T))) (fun q => kx (iN q.1) (iN q.2) (encC I E L pr ot (encR J B M rdv ru T))) (puS A m h) G
    (fun k hk n => by
      have f1 : B 5 (4 * k + h) = A 13 (k * 4 + h) := by rw [show 4 * k + h = k * 4 + h by omega]; exact hM.2.2.2.2.2.2.2.1 _ (by omega)
      have e1 : puS A m h (k + 1) = if hasB m k && !decide (A 13 (k * 4 + h) = -1) then ((puS A m h k).1 + (A 13 (k * 4 + h)).toNatClampNeg, (puS A m h k).2 + 1) else puS A m h k := rfl
      cases hb : hasB m k with
      | false =>
        rw [e1, hb, Bool.false_and, if_neg (by decide)]
        simp (disch := first | omega | assumption | (simp (disch := omega) only [iN_lit, iN_add, iN_mul, iN_pred, iN_pred', iN_lt, iN_le, iN_eq, iN_nat, nlt_t, nlt_f, nle_t, nle_f, neq_t, neq_f, List.length_nil, List.length_cons, or_false, false_or, or_self, not_false_eq_true, not_true_eq_false, ↓reduceIte, if_true, if_false, Bool.false_eq_true, Nat.reduceAdd])) only [fX12_pulls_L42, ↓brR_5, ↓brA_5, ↓brS_5, ↓brG_1, fX12_pulls_J97_42, fX12_pulls_J136_28, ↓brK, fX12_pulls_J116_28, ↓hb_of (r_tell _ _), ↓hb_some, ↓bd_some, ↓letE_eq, h_z0, h_z1, h_zi0, h_zi1, ↓hb_of (has_n hb), iN_lit, iN_add, iN_mul, iN_pred, iN_pred', iN_lt, iN_le, iN_eq, iN_nat, nlt_t, nlt_f, nle_t, nle_f, neq_t, neq_f, List.length_nil, List.length_cons, or_false, false_or, or_self, not_false_eq_true, not_true_eq_false, ↓reduceIte, if_true, if_false, Bool.false_eq_true, Nat.reduceAdd, hG]
      | true =>
        by_cases h1 : A 13 (k * 4 + h) = -1
        · rw [e1, hb, decide_eq_true h1, Bool.not_true, Bool.and_false, if_neg (by decide)]
          have h1' : A 13 (k * 4 + h) = -iN 1 := h1
          simp (disch := first | omega | assumption | (simp (disch := omega) only [iN_lit, iN_add, iN_mul, iN_pred, iN_pred', iN_lt, iN_le, iN_eq, iN_nat, nlt_t, nlt_f, nle_t, nle_f, neq_t, neq_f, List.length_nil, List.length_cons, or_false, false_or, or_self, not_false_eq_true, not_true_eq_false, ↓reduceIte, if_true, if_false, Bool.false_eq_true, Nat.reduceAdd])) only [fX12_pulls_L42, ↓brR_5, ↓brA_5, ↓brS_5, ↓brG_1, fX12_pulls_J97_42, fX12_pulls_J136_28, ↓brK, fX12_pulls_J116_28, ↓hb_of (r_tell _ _), ↓hb_some, ↓bd_some, ↓letE_eq, h_z0, h_z1, h_zi0, h_zi1, ↓hb_of (has_y hb), iN_lit, iN_add, iN_mul, iN_pred, iN_pred', iN_lt, iN_le, iN_eq, iN_nat, nlt_t, nlt_f, nle_t, nle_f, neq_t, neq_f, List.length_nil, List.length_cons, or_false, false_or, or_self, not_false_eq_true, not_true_eq_false, ↓reduceIte, if_true, if_false, Bool.false_eq_true, Nat.reduceAdd, hG, f1, h1']
        · rcases hpl (k * 4 + h) (by omega) with e | ⟨v, hv, e⟩
          · exact absurd e h1
          · rw [e1, hb, decide_eq_false h1, Bool.not_false, Bool.and_self, if_pos rfl]
            dsimp only
            rw [e] at f1 ⊢
            rw [iN_nat (by omega)]
            have hne : (iN v = -iN 1) = False := ne_m (by omega) (by decide) (by decide)
            simp (disch := first | omega | assumption | (simp (disch := omega) only [iN_lit, iN_add, iN_mul, iN_pred, iN_pred', iN_lt, iN_le, iN_eq, iN_nat, nlt_t, nlt_f, nle_t, nle_f, neq_t, neq_f, List.length_nil, List.length_cons, or_false, false_or, or_self, not_false_eq_true, not_true_eq_false, ↓reduceIte, if_true, if_false, Bool.false_eq_true, Nat.reduceAdd])) only [fX12_pulls_L42, ↓brR_5, ↓brA_5, ↓brS_5, ↓brG_1, fX12_pulls_J97_42, fX12_pulls_J136_28, ↓brK, fX12_pulls_J116_28, ↓hb_of (r_tell _ _), ↓hb_some, ↓bd_some, ↓letE_eq, h_z0, h_z1, h_zi0, h_zi1, ↓hb_of (has_y hb), iN_lit, iN_add, iN_mul, iN_pred, iN_pred', iN_lt, iN_le, iN_eq, iN_nat, nlt_t, nlt_f, nle_t, nle_f, neq_t, neq_f, List.length_nil, List.length_cons, or_false, false_or, or_self, not_false_eq_true, not_true_eq_false, ↓reduceIte, if_true, if_false, Bool.false_eq_true, Nat.reduceAdd, hG, f1, hne])
    (fun n => by simp (disch := first | omega | assumption | (simp (disch := omega) only [iN_lit, iN_add, iN_mul, iN_pred, iN_pred', iN_lt, iN_le, iN_eq, iN_nat, nlt_t, nlt_f, nle_t, nle_f, neq_t, neq_f, List.length_nil, List.length_cons, or_false, false_or, or_self, not_false_eq_true, not_true_eq_false, ↓reduceIte, if_true, if_false, Bool.false_eq_true, Nat.reduceAdd])) only [fX12_pulls_L42, ↓brR_5, ↓brA_5, ↓brS_5, ↓brG_1, fX12_pulls_J97_42, fX12_pulls_J136_28, ↓brK, fX12_pulls_J116_28, ↓hb_of (has_y _), ↓hb_of (has_n _), ↓hb_of (r_tell _ _), ↓hb_some, ↓bd_some, ↓letE_eq, h_z0, h_z1, h_zi0, h_zi1, iN_lit, iN_add, iN_mul, iN_pred, iN_pred', iN_lt, iN_le, iN_eq, iN_nat, nlt_t, nlt_f, nle_t, nle_f, neq_t, neq_f, List.length_nil, List.length_cons, or_false, false_or, or_self, not_false_eq_true, not_true_eq_false, ↓reduceIte, if_true, if_false, Bool.false_eq_true, Nat.reduceAdd, hG]) FU (by unfold FU; omega)
  exact key
theorem pulls_M (hM : FM A J B G P W) (hpl : PLS A G) {k0 : Nat} (hk : k0 < 2 ^ G) : qM J B M rdv ru (fX12_pulls 45 (iN k0)) (bt (fun h => !decide ((puS A (iN k0) h G).2 = 0)) 4) (some (mR (meS A G (iN k0)) 4)) := by
  intro I E L pr ot T
  have h8 := hM.2.2.2.1
  have hp2 := p2 h8
  have hsh : iN 1 <<< (iN G &&& iN 31) = iN (2 ^ G) := shl_n ⟨G, by omega⟩
  have hM0 : FM A (u1 J 13 (iN 0)) B G P W := hM.j0 (by decide)
  have key := lp_det (fun n k (q : Int32 × (Nat → Int64)) => fX12_pulls_L28 45 (iN k0) (fun x6 h7 => some (x6, h7)) n q.1 (iN k) (encC I E L pr ot (encR (u1 (u1 J 13 (iN 0)) 12 (iN k)) B (q.2) rdv ru T))) (fun q => some (q.1, (encC I E L pr ot (encR (u1 (u1 J 13 (iN 0)) 12 (iN 4)) B (q.2) rdv ru T)))) (fun k => (bt (fun h => !decide ((puS A (iN k0) h G).2 = 0)) k, mL M (meS A G (iN k0)) k)) 4
    (fun k hk4 n => by
      have hM2 : FM A (u1 (u1 J 13 (iN 0)) 12 (iN k)) B G P W := hM0.j0 (by decide)
      have hb := puS_le (m := iN k0) hpl hk4 G (Nat.le_refl _)
      have f1 := fun v kx => r_pulls42 (I := I) (E := E) (L := L) (pr := pr) (ot := ot) (J := u1 (u1 J 13 (iN 0)) 12 (iN k)) (B := B) (M := mL M (meS A G (iN k0)) k) (rdv := rdv) (ru := ru) (T := T) (m := iN k0) (x := v) hM2 hpl hk4 kx
      have f2 := r_tell (I := I) (E := E) (L := L) (pr := pr) (ot := ot) (J := u1 (u1 J 13 (iN 0)) 12 (iN k)) (B := B) (M := mL M (meS A G (iN k0)) k) (rdv := rdv) (ru := ru) (T := T) (v := (meS A G (iN k0) k).toInt64) (n := k) (by rw [u1_eq, if_pos rfl]) (by omega)
      rw [u1_u1] at f2
      have e1 : bt (fun h => !decide ((puS A (iN k0) h G).2 = 0)) (k + 1) = bt (fun h => !decide ((puS A (iN k0) h G).2 = 0)) k ||| (if (!decide ((puS A (iN k0) k G).2 = 0)) = true then (1 : Int32) <<< (iN k &&& 31) else 0) := rfl
      have e2 : mL M (meS A G (iN k0)) (k + 1) = vp_updL (mL M (meS A G (iN k0)) k) k (meS A G (iN k0) k).toInt64 := rfl
      dsimp only
      rw [e1, e2]
      obtain ⟨F, hF⟩ : ∃ F, F = meS A G (iN k0) := ⟨_, rfl⟩
      rw [← hF] at f1 f2 ⊢
      by_cases h0 : (puS A (iN k0) k G).2 = 0
      · have e6 : F k = -1 := by rw [hF]; unfold meS; rw [if_pos h0]
        rw [decide_eq_true h0]
        rw [h0] at f1
        have e5 : (-1 : Int32).toInt64 = (-1 : Int64) := by decide
        rw [e6, e5] at f2 ⊢
        simp (disch := first | omega | assumption | (simp (disch := omega) only [iN_lit, iN_add, iN_mul, iN_pred, iN_pred', iN_lt, iN_le, iN_eq, iN_nat, nlt_t, nlt_f, nle_t, nle_f, neq_t, neq_f, List.length_nil, List.length_cons, or_false, false_or, or_self, not_false_eq_true, not_true_eq_false, ↓reduceIte, if_true, if_false, Bool.false_eq_true, Nat.reduceAdd])) only [fX12_pulls_L28, fX12_pulls_J97_42, fX12_pulls_J136_28, ↓brK, fX12_pulls_J116_28, ↓hb_some, ↓bd_some, ↓letE_eq, h_z0, h_z1, h_zi0, h_zi1, ↓hb_of f2, iN_lit, iN_add, iN_mul, iN_pred, iN_pred', iN_lt, iN_le, iN_eq, iN_nat, nlt_t, nlt_f, nle_t, nle_f, neq_t, neq_f, List.length_nil, List.length_cons, or_false, false_or, or_self, not_false_eq_true, not_true_eq_false, ↓reduceIte, if_true, if_false, Bool.false_eq_true, Nat.reduceAdd, f1, Bool.not_true]
      · have e6 : F k = iN (puS A (iN k0) k G).1 / iN (puS A (iN k0) k G).2 := by rw [hF]; unfold meS; rw [if_neg h0]
        rw [decide_eq_false h0]
        rw [e6] at f2 ⊢
        simp (disch := first | omega | assumption | (simp (disch := omega) only [iN_lit, iN_add, iN_mul, iN_pred, iN_pred', iN_lt, iN_le, iN_eq, iN_nat, nlt_t, nlt_f, nle_t, nle_f, neq_t, neq_f, List.length_nil, List.length_cons, or_false, false_or, or_self, not_false_eq_true, not_true_eq_false, ↓reduceIte, if_true, if_false, Bool.false_eq_true, Nat.reduceAdd])) only [fX12_pulls_L28, fX12_pulls_J97_42, fX12_pulls_J136_28, ↓brK, fX12_pulls_J116_28, ↓hb_some, ↓bd_some, ↓letE_eq, h_z0, h_z1, h_zi0, h_zi1, ↓hb_of f2, iN_lit, iN_add, iN_mul, iN_pred, iN_pred', iN_lt, iN_le, iN_eq, iN_nat, nlt_t, nlt_f, nle_t, nle_f, neq_t, neq_f, List.length_nil, List.length_cons, or_false, false_or, or_self, not_false_eq_true, not_true_eq_false, ↓reduceIte, if_true, if_false, Bool.false_eq_true, Nat.reduceAdd, f1, Bool.not_false])
    (fun n => by simp (disch := first | omega | assumption | (simp (disch := omega) only [iN_lit, iN_add, iN_mul, iN_pred, iN_pred', iN_lt, iN_le, iN_eq, iN_nat, nlt_t, nlt_f, nle_t, nle_f, neq_t, neq_f, List.length_nil, List.length_cons, or_false, false_or, or_self, not_false_eq_true, not_true_eq_false, ↓reduceIte, if_true, if_false, Bool.false_eq_true, Nat.reduceAdd])) only [fX12_pulls_L28, fX12_pulls_J97_42, fX12_pulls_J136_28, ↓brK, fX12_pulls_J116_28, ↓hb_of (r_tell _ _), ↓hb_some, ↓bd_some, ↓letE_eq, h_z0, h_z1, h_zi0, h_zi1, iN_lit, iN_add, iN_mul, iN_pred, iN_pred', iN_lt, iN_le, iN_eq, iN_nat, nlt_t, nlt_f, nle_t, nle_f, neq_t, neq_f, List.length_nil, List.length_cons, or_false, false_or, or_self, not_false_eq_true, not_true_eq_false, ↓reduceIte, if_true, if_false, Bool.false_eq_true, Nat.reduceAdd]) FU (by unfold FU; omega)
  refine ⟨u1 (u1 J 13 (iN 0)) 12 (iN 4), B, mL M (meS A G (iN k0)) 4, rdv, ?_, (frRJ.u (by decide)).trans (frRJ.u (by decide)), frRB.refl, by rw [mR_len]; decide, by rw [u1_eq, if_pos rfl]; exact mR_C 4⟩
  have hall : fX12_all 45 (encC I E L pr ot (encR (u1 J 13 (iN 0)) B M rdv ru T)) = some (iN (2 ^ G - 1), (encC I E L pr ot (encR (u1 J 13 (iN 0)) B M rdv ru T))) := by
    unfold fX12_all
    rw [brG_1, show (u1 J 13 (iN 0)) 1 = iN G from hM0.1]
    show some ((iN 1 <<< (iN G &&& iN 31) - iN 1), _) = _
    rw [hsh, iN_sub (by omega)]
  unfold fX12_pulls
  rw [brW_13, brK, hb_of (show fX12_all 45 (encC I E L pr ot (encR (u1 J 13 0) B M rdv ru T)) = some (iN (2 ^ G - 1), (encC I E L pr ot (encR (u1 J 13 0) B M rdv ru T))) from hall), hb_of (show fX12_in (iN k0) (0 : Int32) (iN (2 ^ G - 1)) (encC I E L pr ot (encR (u1 J 13 0) B M rdv ru T)) = some (1, (encC I E L pr ot (encR (u1 J 13 0) B M rdv ru T))) from in_y (Nat.zero_le k0) (by omega) (by omega)), if_1z, brW_12]
  exact key
theorem p_pulls (h : INV s I A L pr ot J B M ru G P W) (x : Int32) : pairG s I A L pr ot J B M rdv ru out (fX11_pulls 0 x) (fX12_pulls 45 x) := by
  have hI := h
  obtain ⟨pu, ck, -, mk⟩ := h.km
  obtain ⟨hF, hM, hpl, hz, hc, hn2, -⟩ := h
  have h8 := hM.2.2.2.1
  have hG := hF.1
  have hp2 := p2 h8
  have hsh : iN 1 <<< (iN G &&& iN 31) = iN (2 ^ G) := shl_n ⟨G, by omega⟩
  have hM0 : FM A (u1 J 13 (iN 0)) B G P W := hM.j0 (by decide)
  rcases arg_lt (2 ^ G) (by omega) x with ⟨k, hk, rfl⟩ | hx
  · exact pairG_q hI (fun T => pulls_C ck hpl hk) (pulls_M hM hpl hk)
  · refine pairG_q (ans := -1) hI (fun T => qC_no ?_) (qM_no (fun I E L pr ot T => ?_))
    · unfold fX11_pulls
      by_cases hn : x < 0
      · rw [if_pos hn]
      · have h0 : 0 ≤ x := by
          rw [Int32.lt_iff_toInt_lt] at hn
          rw [Int32.le_iff_toInt_le]; omega
        have hlt : ¬ x < (1 : Int32) <<< (I 11 9 &&& 31) := by
          rw [hG]
          show ¬ x < iN 1 <<< (iN G &&& iN 31)
          rw [hsh]; exact fun c => hx ⟨h0, c⟩
        rw [if_neg hn, bR_0_7, bK_11, hb_of c_groundSize, if_neg hlt]
    · have hall : fX12_all 45 (encC I E L pr ot (encR (u1 J 13 (iN 0)) B M rdv ru T)) = some (iN (2 ^ G - 1), (encC I E L pr ot (encR (u1 J 13 (iN 0)) B M rdv ru T))) := by
        unfold fX12_all
        rw [brG_1, show (u1 J 13 (iN 0)) 1 = iN G from hM0.1]
        show some ((iN 1 <<< (iN G &&& iN 31) - iN 1), _) = _
        rw [hsh, iN_sub (by omega)]
      have hxx : ¬ (iN 0 ≤ x ∧ x ≤ iN (2 ^ G - 1)) := fun c => hx ⟨c.1, by
        have c2 := c.2
        rw [Int32.le_iff_toInt_le, iN_int (by omega)] at c2
        rw [Int32.lt_iff_toInt_lt, iN_int (by omega)]; omega⟩
      unfold fX12_pulls
      simp only [iN_lit]
      rw [brW_13, brK, hb_of hall, hb_of (in_n hxx), if_00]
end PU
