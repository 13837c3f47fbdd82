/-! CALLS: same, right -/
def dwN (v : Nat) : Nat → Nat
  | 0 => 1
  | k + 1 => dwN v k * (v - k)
theorem dwN_le {v : Nat} (h : v ≤ 1000) : ∀ k, dwN v k ≤ 1000 ^ k
  | 0 => Nat.le_refl _
  | k + 1 => by
    unfold dwN
    rw [Nat.pow_succ]
    exact Nat.mul_le_mul (dwN_le h k) (by omega)
theorem dwN_pos {v : Nat} : ∀ k, k ≤ v → 0 < dwN v k
  | 0, _ => Nat.one_pos
  | k + 1, h => Nat.mul_pos (dwN_pos k (by omega)) (by omega)
theorem dwN_z {v : Nat} : ∀ k, v < k → dwN v k = 0
  | 0, h => absurd h (Nat.not_lt_zero _)
  | k + 1, h => by
    unfold dwN
    by_cases h1 : v = k
    · rw [h1, Nat.sub_self, Nat.mul_zero]
    · rw [dwN_z k (by omega), Nat.zero_mul]
theorem dwN_4 {v k : Nat} (h : v ≤ 1000) (hk : k ≤ 4) : dwN v k ≤ 1000000000000 :=
  Nat.le_trans (dwN_le h k) (Nat.pow_le_pow_right (by decide) hk)
def smN (f : Nat → Nat) : Nat → Nat
  | 0 => 0
  | k + 1 => smN f k + f k
theorem smN_le {f : Nat → Nat} {b n : Nat} (h : ∀ k, k < n → f k ≤ b) : ∀ k, k ≤ n → smN f k ≤ b * k
  | 0, _ => Nat.le_refl _
  | k + 1, hk => by
    have h1 := smN_le h k (by omega)
    have h2 := h k (by omega)
    unfold smN
    rw [Nat.mul_succ]; omega
def vN (Z : Nat → Int32) (g : Nat) : Nat := (Z g).toNatClampNeg
theorem OK.vn {G P : Nat} {Z : Nat → Int32} (h : OK G P Z) {g : Nat} (hg : g < 8) : Z g = iN (vN Z g) ∧ vN Z g ≤ 99 := by
  obtain ⟨k, h1, h2⟩ := iN_of' (n := 99) (h.2.1 g hg).1 (h.2.1 g hg).2 (by decide)
  have e : vN Z g = k := by
    unfold vN
    rw [h2, iN_nat (by omega)]
  rw [e]
  exact ⟨h2, h1⟩
theorem OK.smv {G P : Nat} {Z : Nat → Int32} (h : OK G P Z) : ∀ k, k ≤ 8 → sm Z k = iN (smN (vN Z) k)
  | 0, _ => rfl
  | k + 1, hk => by
    show sm Z k + Z k = iN (smN (vN Z) k + vN Z k)
    rw [h.smv k (by omega), ← iN_add, ← (h.vn (show k < 8 by omega)).1]
section SA
variable {I A E I' A' : Nat → Nat → Int32} {L L' : Nat → Int64} {pr ot s : Nat} {J J' : Nat → Int32} {B B' : Nat → Nat → Int32} {M M' : Nat → Int64} {rdv rdv' : Value} {ru : Nat} {T : PH} {G P W p q g n nr sz ro oa w t k v : Nat} {Z Z' R X : Nat → Int32} {x y z i2 m : Int32} {out : Nat → Int64} {pu : (Nat → Int32) → Int32} {h : PH}
theorem c_draw (hv : v ≤ 1000) (hk : k ≤ 4) : fX11_drawings (iN v) (iN k) h = some (qN (dwN v k), h) := by
  have key := lp_det (fun n j (q : Int64) => fX11_drawings_L5 (iN v) (iN k) (fun y1 h2 => some (y1, h2)) n q (iN j) h) (fun q => some (q, h)) (fun j => qN (dwN v j)) k
    (fun j hj n => by
      have e1 : qN (dwN v (j + 1)) = qN (dwN v j) * qN (v - j) := qN_mul.symm
      have hif : (if (0 : Int32) < iN v - iN j then iN v - iN j else (0 : Int32)) = iN (v - j) := by
        by_cases hvj : j ≤ v
        · rw [iN_sub hvj]
          by_cases h0 : v - j = 0
          · rw [h0]; rfl
          · rw [if_pos (show (0 : Int32) < iN (v - j) by rw [show (0 : Int32) = iN 0 from rfl, iN_lt (by omega) (by omega)]; omega)]
        · rw [show v - j = 0 by omega, if_neg]
          · rfl
          · rw [Int32.lt_iff_toInt_lt, Int32.toInt_sub, iN_int (by omega), iN_int (by omega)]
            show ¬ (0 : Int) < _
            rw [Int.bmod_eq_of_le (by omega) (by omega)]
            omega
      have e2 : (iN (v - j)).toInt64 = qN (v - j) := iN_64 (by omega)
      show fX11_drawings_L5 (iN v) (iN k) (fun y1 h2 => some (y1, h2)) (n + 1) (qN (dwN v j)) (iN j) h = _
      rw [fX11_drawings_L5, if_neg (show ¬ iN k ≤ iN j by rw [iN_le (by omega) (by omega)]; omega), letE_eq, letE_eq, letE_eq, hif, e2, ← e1, show iN j + (1 : Int32) = iN (j + 1) from iN_add])
    (fun n => by
      show fX11_drawings_L5 (iN v) (iN k) (fun y1 h2 => some (y1, h2)) (n + 1) (qN (dwN v k)) (iN k) h = _
      rw [fX11_drawings_L5, if_pos (show iN k ≤ iN k by rw [iN_le (by omega) (by omega)]; omega)]) FU (by unfold FU; omega)
  exact key
theorem r_fall (hv : v ≤ 1000) (hk : k ≤ 4) (hkv : k ≤ v) : fX12_falling (iN v) (iN k) h = some (qN (dwN v k), h) := by
  have key := lp_det (fun n j (q : Int64) => fX12_falling_L5 (iN v) (iN k) (fun y1 h2 => some (y1, h2)) n q (iN j) h) (fun q => some (q, h)) (fun j => qN (dwN v j)) k
    (fun j hj n => by
      have e1 : qN (dwN v (j + 1)) = qN (dwN v j) * qN (v - j) := qN_mul.symm
      have e2 : (iN (v - j)).toInt64 = qN (v - j) := iN_64 (by omega)
      show fX12_falling_L5 (iN v) (iN k) (fun y1 h2 => some (y1, h2)) (n + 1) (qN (dwN v j)) (iN j) h = _
      rw [fX12_falling_L5, if_neg (show ¬ iN k ≤ iN j by rw [iN_le (by omega) (by omega)]; omega), letE_eq, letE_eq, iN_sub (by omega), e2, ← e1, show iN j + (1 : Int32) = iN (j + 1) from iN_add])
    (fun n => by
      show fX12_falling_L5 (iN v) (iN k) (fun y1 h2 => some (y1, h2)) (n + 1) (qN (dwN v k)) (iN k) h = _
      rw [fX12_falling_L5, if_pos (show iN k ≤ iN k by rw [iN_le (by omega) (by omega)]; omega)]) FU (by unfold FU; omega)
  exact key
def saN (Z : Nat → Int32) (k G : Nat) : Nat := smN (fun g => dwN (vN Z g) k) G
theorem p_same (h : INV s I A L pr ot J B M ru G P W) (x : Int32) : pairG s I A L pr ot J B M rdv ru out (fX11_same 0 x) (fX12_same 45 x) := by
  have hI := h
  obtain ⟨pu, ck, -, mk⟩ := h.km
  obtain ⟨hF, hM, hpl, hz, hc, hn2, -⟩ := h
  have h8 := hM.2.2.2.1
  have hG := hF.1
  have hM1 : FM A (u1 J 13 (iN 0)) B G P W := hM.j0 (by decide)
  have hJ1 : (u1 J 13 (iN 0)) 1 = iN G := hM1.1
  rcases arg_le 4 (by decide) x with ⟨k, hk, rfl⟩ | hx
  rotate_left
  · refine pairG_q (ans := -1) hI (fun T => qC_no ?_) (qM_no (fun I E L pr ot T => ?_))
    · unfold fX11_same
      simp only [iN_lit]
      rw [hb_of (within_n (show ¬ (iN 1 ≤ x ∧ x ≤ iN 4) from fun c => hx ⟨Int32.le_trans (by decide) c.1, c.2⟩)), if_00]
    · unfold fX12_same
      simp only [iN_lit]
      rw [brW_13, hb_of (in_n (show ¬ (iN 1 ≤ x ∧ x ≤ iN 4) from fun c => hx ⟨Int32.le_trans (by decide) c.1, c.2⟩)), if_00]
  by_cases hk0 : k = 0
  · subst hk0
    refine pairG_q (ans := -1) hI (fun T => qC_no ?_) (qM_no (fun I E L pr ot T => ?_))
    · unfold fX11_same
      simp only [iN_lit]
      rw [hb_of (within_n (show ¬ (iN 1 ≤ iN 0 ∧ iN 0 ≤ iN 4) by decide)), if_00]
    · unfold fX12_same
      simp only [iN_lit]
      rw [brW_13, hb_of (in_n (show ¬ (iN 1 ≤ iN 0 ∧ iN 0 ≤ iN 4) by decide)), if_00]
  obtain ⟨S, hS⟩ : ∃ S, S = smN (vN (A 28)) G := ⟨_, rfl⟩
  have hSs : sm (A 28) G = iN S := by rw [hS]; exact hz.smv G h8
  have hSl : S ≤ 99 * G := by rw [hS]; exact smN_le (fun g hg => (hz.vn (show g < 8 by omega)).2) G (Nat.le_refl G)
  have hin : (1 ≤ k) := by omega
  by_cases hkS : k ≤ S
  rotate_left
  · refine pairG_q (ans := -2) hI (fun T => qC_no ?_) (qM_no (fun I E L pr ot T => ?_))
    · have f1 := c_stockOfAll (I := I) (A := A) (L := L) (pr := pr) (ot := ot) (T := T) (o := 27) hF (Or.inl rfl)
      rw [show A (27 + 1) = A 28 from rfl, hSs] at f1
      unfold fX11_same
      simp only [iN_lit]
      rw [hb_of (within_y hin hk (by decide)), if_10, bR_0_8, bK_27, hb_of f1, if_neg (show ¬ iN k ≤ iN S by rw [iN_le (by omega) (by omega)]; omega)]
    · have f1 := r_stock (I := I) (E := E) (L := L) (pr := pr) (ot := ot) (M := M) (rdv := rdv) (ru := ru) (T := T) hM1 hc
      rw [hSs] at f1
      unfold fX12_same
      simp only [iN_lit]
      rw [brW_13, hb_of (in_y hin hk (by decide)), if_10, brK, hb_of f1, if_neg (show ¬ iN k ≤ iN S by rw [iN_le (by omega) (by omega)]; omega)]
  have hd : 0 < dwN S k := dwN_pos k hkS
  have hd2 : dwN S k ≤ 1000000000000 := dwN_4 (by omega) hk
  have hn : saN (A 28) k G ≤ 1000000000000 * G := smN_le (fun g hg => dwN_4 (by have := (hz.vn (show g < 8 by omega)).2; omega) hk) G (Nat.le_refl G)
  have h45 : (2 : Nat) ^ 45 = 35184372088832 := by decide
  refine pairG_q (ans := 0) (rw := some (ptN (saN (A 28) k G) (dwN S k))) hI (fun T => ?_) (fun I E L pr ot T => ?_)
  · have f1 := c_stockOfAll (I := I) (A := A) (L := L) (pr := pr) (ot := ot) (T := T) (o := 27) hF (Or.inl rfl)
    rw [show A (27 + 1) = A 28 from rfl, hSs] at f1
    have key := fun (kx : Int64 → PH → Option (Int32 × PH)) => lp_det (fun n j (q : Int64) => fX11_same_L32 0 (iN k) (iN S) kx n q (iN j) (encC I A L pr ot T)) (fun q => kx q (encC I A L pr ot T)) (fun j => qN (saN (A 28) k j)) G
      (fun j hj n => by
        have f2 := c_stockOf (I := I) (A := A) (L := L) (pr := pr) (ot := ot) (T := T) (o := 27) (g := j) (Or.inl rfl) (by omega)
        have hv := hz.vn (show j < 8 by omega)
        rw [show A (27 + 1) j = A 28 j from rfl, hv.1] at f2
        have f3 := c_draw (h := (encC I A L pr ot T)) (v := vN (A 28) j) (k := k) (by omega) hk
        show fX11_same_L32 0 (iN k) (iN S) kx (n + 1) (qN (saN (A 28) k j)) (iN j) (encC I A L pr ot T) = _
        rw [fX11_same_L32, bR_0_7, bK_11, hb_of c_groundSize, hG, if_neg (show ¬ iN G ≤ iN j by rw [iN_le (by omega) (by omega)]; omega), bR_0_8, bK_27, hb_of f2, hb_of f3, letE_eq, letE_eq, qN_add, show iN j + (1 : Int32) = iN (j + 1) from iN_add]
        rfl)
      (fun n => by
        show fX11_same_L32 0 (iN k) (iN S) kx (n + 1) (qN (saN (A 28) k G)) (iN G) (encC I A L pr ot T) = _
        rw [fX11_same_L32, bR_0_7, bK_11, hb_of c_groundSize, hG, if_pos (show iN G ≤ iN G by rw [iN_le (by omega) (by omega)]; omega)]) FU (by unfold FU; omega)
    have f4 := c_draw (h := (encC I A L pr ot T)) (v := S) (k := k) (by omega) hk
    have f5 := c_part (I := I) (A := A) (L := L) (pr := pr) (ot := ot) (T := T) (a := saN (A 28) k G) (b := dwN S k) (by omega) (by omega) hd
    refine ⟨u2 I 9 1 (iN 2), A, vp_updL (vp_updL L 0 (qN (saN (A 28) k G / Nat.gcd (dwN S k) (saN (A 28) k G)))) 1 (qN (dwN S k / Nat.gcd (dwN S k) (saN (A 28) k G))), ?_, frI.u, frQ.refl, by simp [ptN], row_2 rfl⟩
    unfold fX11_same
    rw [hb_of (show fX11_within (iN k) (1 : Int32) (4 : Int32) (encC I A L pr ot T) = some (1, (encC I A L pr ot T)) from within_y hin hk (by decide)), if_1z, bR_0_8, bK_27, hb_of f1, if_pos (show iN k ≤ iN S by rw [iN_le (by omega) (by omega)]; omega)]
    refine (key _).trans ?_
    rw [hb_of f4, bK_0, hb_of f5]
  · have f1 := r_stock (I := I) (E := E) (L := L) (pr := pr) (ot := ot) (M := M) (rdv := rdv) (ru := ru) (T := T) hM1 hc
    rw [hSs] at f1
    have key := fun (kx : Int64 → PH → Option (Int32 × PH)) => lp_det (fun n j (q : Int64) => fX12_same_L32 45 (iN k) kx n q (iN j) (encC I E L pr ot (encR (u1 J 13 (iN 0)) B M rdv ru T))) (fun q => kx q (encC I E L pr ot (encR (u1 J 13 (iN 0)) B M rdv ru T))) (fun j => qN (saN (A 28) k j)) G
      (fun j hj n => by
        have hv := hz.vn (show j < 8 by omega)
        have e0 : B 0 j = iN (vN (A 28) j) := (hc.1 j (by omega)).trans hv.1
        have es : saN (A 28) k (j + 1) = saN (A 28) k j + dwN (vN (A 28) j) k := rfl
        by_cases hkv : k ≤ vN (A 28) j
        · have f3 := r_fall (h := (encC I E L pr ot (encR (u1 J 13 (iN 0)) B M rdv ru T))) (v := vN (A 28) j) (k := k) (by omega) hk hkv
          simp (disch := first | omega | assumption | (simp (disch := omega) only [iN_lit, iN_add, iN_mul, iN_pred, iN_pred', iN_lt, iN_le, iN_eq, iN_nat, nlt_t, nlt_f, nle_t, nle_f, neq_t, neq_f, List.length_nil, List.length_cons, or_false, false_or, or_self, not_false_eq_true, not_true_eq_false, ↓reduceIte, if_true, if_false, Bool.false_eq_true, Nat.reduceAdd])) only [fX12_same_L32, ↓brR_0, ↓brA_0, ↓brS_0, ↓brG_1, fX12_same_J68_32, ↓hb_some, ↓bd_some, ↓letE_eq, h_z0, h_z1, h_zi0, h_zi1, ↓hb_of f3, iN_lit, iN_add, iN_mul, iN_pred, iN_pred', iN_lt, iN_le, iN_eq, iN_nat, nlt_t, nlt_f, nle_t, nle_f, neq_t, neq_f, List.length_nil, List.length_cons, or_false, false_or, or_self, not_false_eq_true, not_true_eq_false, ↓reduceIte, if_true, if_false, Bool.false_eq_true, Nat.reduceAdd, hJ1, e0, hkv, es, qN_add]
        · rw [es, dwN_z k (by omega)]
          have ea : qN (saN (A 28) k j) + 0 = qN (saN (A 28) k j + 0) := qN_add (b := 0)
          simp (disch := first | omega | assumption | (simp (disch := omega) only [iN_lit, iN_add, iN_mul, iN_pred, iN_pred', iN_lt, iN_le, iN_eq, iN_nat, nlt_t, nlt_f, nle_t, nle_f, neq_t, neq_f, List.length_nil, List.length_cons, or_false, false_or, or_self, not_false_eq_true, not_true_eq_false, ↓reduceIte, if_true, if_false, Bool.false_eq_true, Nat.reduceAdd])) only [fX12_same_L32, ↓brR_0, ↓brA_0, ↓brS_0, ↓brG_1, fX12_same_J68_32, ↓hb_some, ↓bd_some, ↓letE_eq, h_z0, h_z1, h_zi0, h_zi1, iN_lit, iN_add, iN_mul, iN_pred, iN_pred', iN_lt, iN_le, iN_eq, iN_nat, nlt_t, nlt_f, nle_t, nle_f, neq_t, neq_f, List.length_nil, List.length_cons, or_false, false_or, or_self, not_false_eq_true, not_true_eq_false, ↓reduceIte, if_true, if_false, Bool.false_eq_true, Nat.reduceAdd, hJ1, e0, hkv, ea])
      (fun n => by
        simp (disch := first | omega | assumption | (simp (disch := omega) only [iN_lit, iN_add, iN_mul, iN_pred, iN_pred', iN_lt, iN_le, iN_eq, iN_nat, nlt_t, nlt_f, nle_t, nle_f, neq_t, neq_f, List.length_nil, List.length_cons, or_false, false_or, or_self, not_false_eq_true, not_true_eq_false, ↓reduceIte, if_true, if_false, Bool.false_eq_true, Nat.reduceAdd])) only [fX12_same_L32, ↓brR_0, ↓brA_0, ↓brS_0, ↓brG_1, fX12_same_J68_32, ↓hb_of (r_fall _ _ _), ↓hb_some, ↓bd_some, ↓letE_eq, h_z0, h_z1, h_zi0, h_zi1, iN_lit, iN_add, iN_mul, iN_pred, iN_pred', iN_lt, iN_le, iN_eq, iN_nat, nlt_t, nlt_f, nle_t, nle_f, neq_t, neq_f, List.length_nil, List.length_cons, or_false, false_or, or_self, not_false_eq_true, not_true_eq_false, ↓reduceIte, if_true, if_false, Bool.false_eq_true, Nat.reduceAdd, hJ1]) FU (by unfold FU; omega)
    have f4 := r_fall (h := (encC I E L pr ot (encR (u1 J 13 (iN 0)) B M rdv ru T))) (v := S) (k := k) (by omega) hk hkS
    have f5 := r_part (I := I) (E := E) (L := L) (pr := pr) (ot := ot) (J := u1 J 13 (iN 0)) (B := B) (M := M) (rdv := rdv) (ru := ru) (T := T) (a := saN (A 28) k G) (b := dwN S k) (by omega) (by omega) hd
    refine ⟨u1 (u1 J 13 (iN 0)) 12 (iN 2), B, vp_updL (vp_updL M 0 (qN (saN (A 28) k G / Nat.gcd (dwN S k) (saN (A 28) k G)))) 1 (qN (dwN S k / Nat.gcd (dwN S k) (saN (A 28) k G))), rdv, ?_, (frRJ.u (by decide)).trans (frRJ.u (by decide)), frRB.refl, by simp [ptN], by rw [u1_eq, if_pos rfl]; exact row_2 rfl⟩
    unfold fX12_same
    rw [brW_13, hb_of (show fX12_in (iN k) (1 : Int32) (4 : Int32) (encC I E L pr ot (encR (u1 J 13 0) B M rdv ru T)) = some (1, (encC I E L pr ot (encR (u1 J 13 0) B M rdv ru T))) from in_y hin hk (by decide)), if_1z, brK, hb_of (show fX12_stock 45 (encC I E L pr ot (encR (u1 J 13 0) B M rdv ru T)) = some (iN S, (encC I E L pr ot (encR (u1 J 13 0) B M rdv ru T))) from f1), if_pos (show iN k ≤ iN S by rw [iN_le (by omega) (by omega)]; omega)]
    refine (key _).trans ?_
    rw [brK, hb_of f1, hb_of f4, brK, hb_of f5]
end SA
