/-! CALLS: gives, takesBack, makes -/
section AC
variable {I A E : Nat → Nat → Int32} {L : Nat → Int64} {pr ot s : Nat} {J : Nat → Int32} {B : Nat → Nat → Int32} {M : Nat → Int64} {rdv : Value} {ru : Nat} {T : PH} {G P W p g : Nat} {Z : Nat → Int32} {x y : Int32} {out : Nat → Int64}
theorem frQ.cp (hz : nz (A 28)) : frQ A (u1 A 32 (A 28)) := ⟨fun x hx => by rw [u1_eq, if_neg (by omega)], fun _ => by rw [u1_eq, if_pos rfl]; exact hz⟩
theorem FS.cp (hF : FS I G P W) : FS I G P W := hF
theorem qC_cp {f : PH → Option (Int32 × PH)} {ans : Int32} (hz : nz (A 28)) (h : f (encC I A L pr ot T) = some (ans, (encC I (u1 A 32 (A 28)) L pr ot T))) : qC I A L pr ot T f ans none := ⟨I, u1 A 32 (A 28), L, h, frI.refl, frQ.cp hz, rfl, rfl⟩
theorem n1 : (-iN 1 < iN 0) = True := eq_true (by decide)
theorem n2 : (-iN 2 < iN 0) = True := eq_true (by decide)
theorem n3 : (-iN 3 < iN 0) = True := eq_true (by decide)
theorem m1 : (iN 0 ≤ -iN 1) = False := eq_false (by decide)
theorem m2 : (iN 0 ≤ -iN 2) = False := eq_false (by decide)
theorem m3 : (iN 0 ≤ -iN 3) = False := eq_false (by decide)
theorem o0 : (31 : Nat) + 1 = 32 := rfl
theorem o7 : (27 : Nat) + 1 = 28 := rfl
theorem e_no (hz : nz (A 28)) (hn : nz (A 32)) {v : Int32} (e : fX8_give 27 x y (encC I (u1 A 32 (A 28)) L pr ot T) = some (v, (encC I (u1 A 32 (A 28)) L pr ot T))) (hv : (v < 0) = True) : fX11_gives 0 x y (encC I A L pr ot T) = some (v, (encC I (u1 A 32 (A 28)) L pr ot T)) := by
  have e1 := c_copy (I := I) (L := L) (pr := pr) (ot := ot) (T := T) hz hn
  simp only [iN_lit] at hv
  simp (disch := first | omega | assumption | (simp (disch := omega) only [iN_lit, iN_add, iN_mul, iN_pred, iN_pred', iN_lt, iN_le, iN_eq, iN_nat, nlt_t, nlt_f, nle_t, nle_f, neq_t, neq_f, List.length_nil, List.length_cons, or_false, false_or, or_self, not_false_eq_true, not_true_eq_false, ↓reduceIte, if_true, if_false, Bool.false_eq_true, Nat.reduceAdd])) only [fX11_gives, ↓zK _, ↓bK_0, ↓bR_0_9, ↓bR_0_8, fX11_rememberedIfDone, ↓bK_7, ↓bR_0_5, ↓hb_of (c_remember _ _ _ _ _), ↓hb_some, ↓bd_some, ↓letE_eq, h_z0, h_z1, h_zi0, h_zi1, ↓hb_of e1, ↓hb_of e, iN_lit, iN_add, iN_mul, iN_pred, iN_pred', iN_lt, iN_le, iN_eq, iN_nat, nlt_t, nlt_f, nle_t, nle_f, neq_t, neq_f, List.length_nil, List.length_cons, or_false, false_or, or_self, not_false_eq_true, not_true_eq_false, ↓reduceIte, if_true, if_false, Bool.false_eq_true, Nat.reduceAdd, hv]
theorem e_noT (hz : nz (A 28)) (hn : nz (A 32)) {v : Int32} (e : fX8_takeBack 27 x y (encC I (u1 A 32 (A 28)) L pr ot T) = some (v, (encC I (u1 A 32 (A 28)) L pr ot T))) (hv : (v < 0) = True) : fX11_takesBack 0 x y (encC I A L pr ot T) = some (v, (encC I (u1 A 32 (A 28)) L pr ot T)) := by
  have e1 := c_copy (I := I) (L := L) (pr := pr) (ot := ot) (T := T) hz hn
  simp only [iN_lit] at hv
  simp (disch := first | omega | assumption | (simp (disch := omega) only [iN_lit, iN_add, iN_mul, iN_pred, iN_pred', iN_lt, iN_le, iN_eq, iN_nat, nlt_t, nlt_f, nle_t, nle_f, neq_t, neq_f, List.length_nil, List.length_cons, or_false, false_or, or_self, not_false_eq_true, not_true_eq_false, ↓reduceIte, if_true, if_false, Bool.false_eq_true, Nat.reduceAdd])) only [fX11_takesBack, ↓zK _, ↓bK_0, ↓bR_0_9, ↓bR_0_8, fX11_rememberedIfDone, ↓bK_7, ↓bR_0_5, ↓hb_of (c_remember _ _ _ _ _), ↓hb_some, ↓bd_some, ↓letE_eq, h_z0, h_z1, h_zi0, h_zi1, ↓hb_of e1, ↓hb_of e, iN_lit, iN_add, iN_mul, iN_pred, iN_pred', iN_lt, iN_le, iN_eq, iN_nat, nlt_t, nlt_f, nle_t, nle_f, neq_t, neq_f, List.length_nil, List.length_cons, or_false, false_or, or_self, not_false_eq_true, not_true_eq_false, ↓reduceIte, if_true, if_false, Bool.false_eq_true, Nat.reduceAdd, hv]
theorem e_noM (hz : nz (A 28)) (hn : nz (A 32)) {v : Int32} (e : fX8_make 27 x y (encC I (u1 A 32 (A 28)) L pr ot T) = some (v, (encC I (u1 A 32 (A 28)) L pr ot T))) (hv : (v < 0) = True) : fX11_makes 0 x y (encC I A L pr ot T) = some (v, (encC I (u1 A 32 (A 28)) L pr ot T)) := by
  have e1 := c_copy (I := I) (L := L) (pr := pr) (ot := ot) (T := T) hz hn
  simp only [iN_lit] at hv
  simp (disch := first | omega | assumption | (simp (disch := omega) only [iN_lit, iN_add, iN_mul, iN_pred, iN_pred', iN_lt, iN_le, iN_eq, iN_nat, nlt_t, nlt_f, nle_t, nle_f, neq_t, neq_f, List.length_nil, List.length_cons, or_false, false_or, or_self, not_false_eq_true, not_true_eq_false, ↓reduceIte, if_true, if_false, Bool.false_eq_true, Nat.reduceAdd])) only [fX11_makes, ↓zK _, ↓bK_0, ↓bR_0_9, ↓bR_0_8, fX11_rememberedIfDone, ↓bK_7, ↓bR_0_5, ↓hb_of (c_remember _ _ _ _ _), ↓hb_some, ↓bd_some, ↓letE_eq, h_z0, h_z1, h_zi0, h_zi1, ↓hb_of e1, ↓hb_of e, iN_lit, iN_add, iN_mul, iN_pred, iN_pred', iN_lt, iN_le, iN_eq, iN_nat, nlt_t, nlt_f, nle_t, nle_f, neq_t, neq_f, List.length_nil, List.length_cons, or_false, false_or, or_self, not_false_eq_true, not_true_eq_false, ↓reduceIte, if_true, if_false, Bool.false_eq_true, Nat.reduceAdd, hv]
theorem rem_S {sz : Nat} : (if sz + 1 < 12 then sz + 1 else 12) = (if sz < 12 then sz + 1 else 12) := by
  by_cases c : sz + 1 < 12
  · rw [if_pos c, if_pos (by omega)]
  · rw [if_neg c]; split <;> omega
/-- an act of the class that was done: then holds what was, now is Z, it is remembered -/
theorem e_yes (hz : nz (A 28)) {nx sz : Nat} (h1 : I 7 1 = iN nx) (h2 : I 7 2 = iN sz) (hn : nx < 12) (hs : sz ≤ 12) :
    fX5_remember 7 31 (encC I (u1 (u1 A 32 (A 28)) 28 Z) L pr ot T) = some ((), (encC (u2 (u2 I 7 1 (iN ((nx + 1) % 12))) 7 2 (iN (if sz + 1 < 12 then sz + 1 else 12))) (u1 (u1 (u1 A 32 (A 28)) 28 Z) 8 (va_cpy (A 28) (A 8) 0 (nx * 82) 82)) L pr ot T)) := by
  have e1 := c_remember (I := I) (A := u1 (u1 A 32 (A 28)) 28 Z) (L := L) (pr := pr) (ot := ot) (T := T) (o := 31) (Or.inr rfl) h1 h2 hn hs
  have e2 : (u1 (u1 A 32 (A 28)) 28 Z) (31 + 1) = A 28 := rfl
  have e3 : (u1 (u1 A 32 (A 28)) 28 Z) 8 = A 8 := rfl
  rw [e2, e3] at e1
  exact e1
theorem bc_nn : ∀ k : Fin 256, 0 ≤ bc (iN k.val) := by decide +kernel
def btn (f : Nat → Bool) : Nat → Nat
  | 0 => 0
  | k + 1 => btn f k + (if f k then 2 ^ k else 0)
theorem btn_lt {f : Nat → Bool} : ∀ n, btn f n < 2 ^ n
  | 0 => Nat.one_pos
  | n + 1 => by
    have := btn_lt (f := f) n
    unfold btn
    have e : 2 ^ (n + 1) = 2 ^ n + 2 ^ n := by rw [Nat.pow_succ]; omega
    split <;> omega
theorem bt8_n : ∀ b0 b1 b2 b3 b4 b5 b6 b7 : Bool, bt (b8 b0 b1 b2 b3 b4 b5 b6 b7) 8 = iN (btn (b8 b0 b1 b2 b3 b4 b5 b6 b7) 8) := by decide +kernel
theorem btn_congr {f g : Nat → Bool} : ∀ n, (∀ k, k < n → f k = g k) → btn f n = btn g n
  | 0, _ => rfl
  | n + 1, h => by
    unfold btn
    rw [btn_congr n (fun k hk => h k (by omega)), h n (by omega)]
theorem bt_n {f : Nat → Bool} : bt f 8 = iN (btn f 8) := by
  rw [bt_b8, bt8_n]
  rw [btn_congr 8 (fun k hk => b8_of f hk)]
theorem bc_bt (f : Nat → Bool) : 0 ≤ bc (bt f 8) := by
  rw [bt_n]
  exact bc_nn ⟨btn f 8, btn_lt 8⟩
theorem nn_lt {v : Int32} (h : 0 ≤ v) : (v < 0) = False := eq_false (fun c => by
  rw [Int32.lt_iff_toInt_lt] at c
  rw [Int32.le_iff_toInt_le] at h
  omega)
theorem rG_n (hM : FM A J B G P W) (hc : CP Z (B 0)) (h : ¬ ((0 ≤ x ∧ x < iN P) ∧ (0 ≤ y ∧ y < iN G))) : fX12_refusesGift 45 46 x y (encC I E L pr ot (encR J B M rdv ru T)) = some (-1, (encC I E L pr ot (encR J B M rdv ru T))) := by
  rcases arg_lt P (by have := hM.2.2.2.2.1; omega) x with ⟨p, hp, rfl⟩ | hx
  · have hy : ¬ (0 ≤ y ∧ y < iN G) := fun c => h ⟨rng hp (by have := hM.2.2.2.2.1; omega), c⟩
    simp (disch := first | omega | assumption | (simp (disch := omega) only [iN_lit, iN_add, iN_mul, iN_pred, iN_pred', iN_lt, iN_le, iN_eq, iN_nat, nlt_t, nlt_f, nle_t, nle_f, neq_t, neq_f, List.length_nil, List.length_cons, or_false, false_or, or_self, not_false_eq_true, not_true_eq_false, ↓reduceIte, if_true, if_false, Bool.false_eq_true, Nat.reduceAdd])) only [fX12_refusesGift, ↓brK, ↓hb_of (isM_n _ _), ↓hb_of (r_isMan _ _), ↓hb_of (isG_n _ _), ↓hb_of (r_isGround _ _), ↓hb_of (has_y _), ↓hb_of (has_n _), ↓maA _, ↓hb_some, ↓bd_some, ↓letE_eq, h_z0, h_z1, h_zi0, h_zi1, ↓hb_of (r_isMan hM hp), ↓hb_of (isG_n hM hy), iN_lit, iN_add, iN_mul, iN_pred, iN_pred', iN_lt, iN_le, iN_eq, iN_nat, nlt_t, nlt_f, nle_t, nle_f, neq_t, neq_f, List.length_nil, List.length_cons, or_false, false_or, or_self, not_false_eq_true, not_true_eq_false, ↓reduceIte, if_true, if_false, Bool.false_eq_true, Nat.reduceAdd]
  · simp (disch := first | omega | assumption | (simp (disch := omega) only [iN_lit, iN_add, iN_mul, iN_pred, iN_pred', iN_lt, iN_le, iN_eq, iN_nat, nlt_t, nlt_f, nle_t, nle_f, neq_t, neq_f, List.length_nil, List.length_cons, or_false, false_or, or_self, not_false_eq_true, not_true_eq_false, ↓reduceIte, if_true, if_false, Bool.false_eq_true, Nat.reduceAdd])) only [fX12_refusesGift, ↓brK, ↓hb_of (isM_n _ _), ↓hb_of (r_isMan _ _), ↓hb_of (isG_n _ _), ↓hb_of (r_isGround _ _), ↓hb_of (has_y _), ↓hb_of (has_n _), ↓maA _, ↓hb_some, ↓bd_some, ↓letE_eq, h_z0, h_z1, h_zi0, h_zi1, ↓hb_of (isM_n hM hx), iN_lit, iN_add, iN_mul, iN_pred, iN_pred', iN_lt, iN_le, iN_eq, iN_nat, nlt_t, nlt_f, nle_t, nle_f, neq_t, neq_f, List.length_nil, List.length_cons, or_false, false_or, or_self, not_false_eq_true, not_true_eq_false, ↓reduceIte, if_true, if_false, Bool.false_eq_true, Nat.reduceAdd]
theorem rG_h (hM : FM A J B G P W) (hc : CP Z (B 0)) (hp : p < P) (hg : g < G) (hb : hdB Z p g = true) : fX12_refusesGift 45 46 (iN p) (iN g) (encC I E L pr ot (encR J B M rdv ru T)) = some (-2, (encC I E L pr ot (encR J B M rdv ru T))) := by
  have h6 := hM.2.2.2.2.1
  have h8 := hM.2.2.2.1
  have hh := hc.has (show p < 6 by omega) (show g < 8 by omega)
  rw [hb] at hh
  simp (disch := first | omega | assumption | (simp (disch := omega) only [iN_lit, iN_add, iN_mul, iN_pred, iN_pred', iN_lt, iN_le, iN_eq, iN_nat, nlt_t, nlt_f, nle_t, nle_f, neq_t, neq_f, List.length_nil, List.length_cons, or_false, false_or, or_self, not_false_eq_true, not_true_eq_false, ↓reduceIte, if_true, if_false, Bool.false_eq_true, Nat.reduceAdd])) only [fX12_refusesGift, ↓brK, ↓hb_of (isM_n _ _), ↓hb_of (r_isMan _ _), ↓hb_of (isG_n _ _), ↓hb_of (r_isGround _ _), ↓hb_of (has_y _), ↓hb_of (has_n _), ↓maA _, ↓hb_some, ↓bd_some, ↓letE_eq, h_z0, h_z1, h_zi0, h_zi1, ↓hb_of (r_isMan hM hp), ↓hb_of (r_isGround hM hg), iN_lit, iN_add, iN_mul, iN_pred, iN_pred', iN_lt, iN_le, iN_eq, iN_nat, nlt_t, nlt_f, nle_t, nle_f, neq_t, neq_f, List.length_nil, List.length_cons, or_false, false_or, or_self, not_false_eq_true, not_true_eq_false, ↓reduceIte, if_true, if_false, Bool.false_eq_true, Nat.reduceAdd, fb_46]
theorem rG_o (hM : FM A J B G P W) (hc : CP Z (B 0)) (hp : p < P) (hg : g < G) (hb : hdB Z p g = false) (hs : Z g = 0) : fX12_refusesGift 45 46 (iN p) (iN g) (encC I E L pr ot (encR J B M rdv ru T)) = some (-3, (encC I E L pr ot (encR J B M rdv ru T))) := by
  have h6 := hM.2.2.2.2.1
  have h8 := hM.2.2.2.1
  have hh := hc.has (show p < 6 by omega) (show g < 8 by omega)
  have hs2 : B 0 g = 0 := by rw [hc.1 g (by omega), hs]
  rw [hb] at hh
  simp (disch := first | omega | assumption | (simp (disch := omega) only [iN_lit, iN_add, iN_mul, iN_pred, iN_pred', iN_lt, iN_le, iN_eq, iN_nat, nlt_t, nlt_f, nle_t, nle_f, neq_t, neq_f, List.length_nil, List.length_cons, or_false, false_or, or_self, not_false_eq_true, not_true_eq_false, ↓reduceIte, if_true, if_false, Bool.false_eq_true, Nat.reduceAdd])) only [fX12_refusesGift, ↓brK, ↓hb_of (isM_n _ _), ↓hb_of (r_isMan _ _), ↓hb_of (isG_n _ _), ↓hb_of (r_isGround _ _), ↓hb_of (has_y _), ↓hb_of (has_n _), ↓maA _, ↓hb_some, ↓bd_some, ↓letE_eq, h_z0, h_z1, h_zi0, h_zi1, ↓hb_of (r_isMan hM hp), ↓hb_of (r_isGround hM hg), iN_lit, iN_add, iN_mul, iN_pred, iN_pred', iN_lt, iN_le, iN_eq, iN_nat, nlt_t, nlt_f, nle_t, nle_f, neq_t, neq_f, List.length_nil, List.length_cons, or_false, false_or, or_self, not_false_eq_true, not_true_eq_false, ↓reduceIte, if_true, if_false, Bool.false_eq_true, Nat.reduceAdd, fb_46, hs2]
theorem rG_k (hM : FM A J B G P W) (hc : CP Z (B 0)) (hp : p < P) (hg : g < G) (hb : hdB Z p g = false) (hs : ¬ Z g = 0) : fX12_refusesGift 45 46 (iN p) (iN g) (encC I E L pr ot (encR J B M rdv ru T)) = some (0, (encC I E L pr ot (encR J B M rdv ru T))) := by
  have h6 := hM.2.2.2.2.1
  have h8 := hM.2.2.2.1
  have hh := hc.has (show p < 6 by omega) (show g < 8 by omega)
  have hs2 : ¬ B 0 g = iN 0 := by rw [hc.1 g (by omega)]; exact hs
  rw [hb] at hh
  simp (disch := first | omega | assumption | (simp (disch := omega) only [iN_lit, iN_add, iN_mul, iN_pred, iN_pred', iN_lt, iN_le, iN_eq, iN_nat, nlt_t, nlt_f, nle_t, nle_f, neq_t, neq_f, List.length_nil, List.length_cons, or_false, false_or, or_self, not_false_eq_true, not_true_eq_false, ↓reduceIte, if_true, if_false, Bool.false_eq_true, Nat.reduceAdd])) only [fX12_refusesGift, ↓brK, ↓hb_of (isM_n _ _), ↓hb_of (r_isMan _ _), ↓hb_of (isG_n _ _), ↓hb_of (r_isGround _ _), ↓hb_of (has_y _), ↓hb_of (has_n _), ↓maA _, ↓hb_some, ↓bd_some, ↓letE_eq, h_z0, h_z1, h_zi0, h_zi1, ↓hb_of (r_isMan hM hp), ↓hb_of (r_isGround hM hg), iN_lit, iN_add, iN_mul, iN_pred, iN_pred', iN_lt, iN_le, iN_eq, iN_nat, nlt_t, nlt_f, nle_t, nle_f, neq_t, neq_f, List.length_nil, List.length_cons, or_false, false_or, or_self, not_false_eq_true, not_true_eq_false, ↓reduceIte, if_true, if_false, Bool.false_eq_true, Nat.reduceAdd, fb_46, hs2]
theorem rB_n (hM : FM A J B G P W) (hc : CP Z (B 0)) (h : ¬ ((0 ≤ x ∧ x < iN P) ∧ (0 ≤ y ∧ y < iN G))) : fX12_refusesBack 45 46 x y (encC I E L pr ot (encR J B M rdv ru T)) = some (-1, (encC I E L pr ot (encR J B M rdv ru T))) := by
  rcases arg_lt P (by have := hM.2.2.2.2.1; omega) x with ⟨p, hp, rfl⟩ | hx
  · have hy : ¬ (0 ≤ y ∧ y < iN G) := fun c => h ⟨rng hp (by have := hM.2.2.2.2.1; omega), c⟩
    simp (disch := first | omega | assumption | (simp (disch := omega) only [iN_lit, iN_add, iN_mul, iN_pred, iN_pred', iN_lt, iN_le, iN_eq, iN_nat, nlt_t, nlt_f, nle_t, nle_f, neq_t, neq_f, List.length_nil, List.length_cons, or_false, false_or, or_self, not_false_eq_true, not_true_eq_false, ↓reduceIte, if_true, if_false, Bool.false_eq_true, Nat.reduceAdd])) only [fX12_refusesBack, ↓brK, ↓hb_of (isM_n _ _), ↓hb_of (r_isMan _ _), ↓hb_of (isG_n _ _), ↓hb_of (r_isGround _ _), ↓hb_of (has_y _), ↓hb_of (has_n _), ↓maA _, ↓hb_some, ↓bd_some, ↓letE_eq, h_z0, h_z1, h_zi0, h_zi1, ↓hb_of (r_isMan hM hp), ↓hb_of (isG_n hM hy), iN_lit, iN_add, iN_mul, iN_pred, iN_pred', iN_lt, iN_le, iN_eq, iN_nat, nlt_t, nlt_f, nle_t, nle_f, neq_t, neq_f, List.length_nil, List.length_cons, or_false, false_or, or_self, not_false_eq_true, not_true_eq_false, ↓reduceIte, if_true, if_false, Bool.false_eq_true, Nat.reduceAdd]
  · simp (disch := first | omega | assumption | (simp (disch := omega) only [iN_lit, iN_add, iN_mul, iN_pred, iN_pred', iN_lt, iN_le, iN_eq, iN_nat, nlt_t, nlt_f, nle_t, nle_f, neq_t, neq_f, List.length_nil, List.length_cons, or_false, false_or, or_self, not_false_eq_true, not_true_eq_false, ↓reduceIte, if_true, if_false, Bool.false_eq_true, Nat.reduceAdd])) only [fX12_refusesBack, ↓brK, ↓hb_of (isM_n _ _), ↓hb_of (r_isMan _ _), ↓hb_of (isG_n _ _), ↓hb_of (r_isGround _ _), ↓hb_of (has_y _), ↓hb_of (has_n _), ↓maA _, ↓hb_some, ↓bd_some, ↓letE_eq, h_z0, h_z1, h_zi0, h_zi1, ↓hb_of (isM_n hM hx), iN_lit, iN_add, iN_mul, iN_pred, iN_pred', iN_lt, iN_le, iN_eq, iN_nat, nlt_t, nlt_f, nle_t, nle_f, neq_t, neq_f, List.length_nil, List.length_cons, or_false, false_or, or_self, not_false_eq_true, not_true_eq_false, ↓reduceIte, if_true, if_false, Bool.false_eq_true, Nat.reduceAdd]
theorem rB_h (hM : FM A J B G P W) (hc : CP Z (B 0)) (hp : p < P) (hg : g < G) (hb : hdB Z p g = false) : fX12_refusesBack 45 46 (iN p) (iN g) (encC I E L pr ot (encR J B M rdv ru T)) = some (-2, (encC I E L pr ot (encR J B M rdv ru T))) := by
  have h6 := hM.2.2.2.2.1
  have h8 := hM.2.2.2.1
  have hh := hc.has (show p < 6 by omega) (show g < 8 by omega)
  rw [hb] at hh
  simp (disch := first | omega | assumption | (simp (disch := omega) only [iN_lit, iN_add, iN_mul, iN_pred, iN_pred', iN_lt, iN_le, iN_eq, iN_nat, nlt_t, nlt_f, nle_t, nle_f, neq_t, neq_f, List.length_nil, List.length_cons, or_false, false_or, or_self, not_false_eq_true, not_true_eq_false, ↓reduceIte, if_true, if_false, Bool.false_eq_true, Nat.reduceAdd])) only [fX12_refusesBack, ↓brK, ↓hb_of (isM_n _ _), ↓hb_of (r_isMan _ _), ↓hb_of (isG_n _ _), ↓hb_of (r_isGround _ _), ↓hb_of (has_y _), ↓hb_of (has_n _), ↓maA _, ↓hb_some, ↓bd_some, ↓letE_eq, h_z0, h_z1, h_zi0, h_zi1, ↓hb_of (r_isMan hM hp), ↓hb_of (r_isGround hM hg), iN_lit, iN_add, iN_mul, iN_pred, iN_pred', iN_lt, iN_le, iN_eq, iN_nat, nlt_t, nlt_f, nle_t, nle_f, neq_t, neq_f, List.length_nil, List.length_cons, or_false, false_or, or_self, not_false_eq_true, not_true_eq_false, ↓reduceIte, if_true, if_false, Bool.false_eq_true, Nat.reduceAdd, fb_46]
theorem rB_k (hM : FM A J B G P W) (hc : CP Z (B 0)) (hp : p < P) (hg : g < G) (hb : hdB Z p g = true) : fX12_refusesBack 45 46 (iN p) (iN g) (encC I E L pr ot (encR J B M rdv ru T)) = some (0, (encC I E L pr ot (encR J B M rdv ru T))) := by
  have h6 := hM.2.2.2.2.1
  have h8 := hM.2.2.2.1
  have hh := hc.has (show p < 6 by omega) (show g < 8 by omega)
  rw [hb] at hh
  simp (disch := first | omega | assumption | (simp (disch := omega) only [iN_lit, iN_add, iN_mul, iN_pred, iN_pred', iN_lt, iN_le, iN_eq, iN_nat, nlt_t, nlt_f, nle_t, nle_f, neq_t, neq_f, List.length_nil, List.length_cons, or_false, false_or, or_self, not_false_eq_true, not_true_eq_false, ↓reduceIte, if_true, if_false, Bool.false_eq_true, Nat.reduceAdd])) only [fX12_refusesBack, ↓brK, ↓hb_of (isM_n _ _), ↓hb_of (r_isMan _ _), ↓hb_of (isG_n _ _), ↓hb_of (r_isGround _ _), ↓hb_of (has_y _), ↓hb_of (has_n _), ↓maA _, ↓hb_some, ↓bd_some, ↓letE_eq, h_z0, h_z1, h_zi0, h_zi1, ↓hb_of (r_isMan hM hp), ↓hb_of (r_isGround hM hg), iN_lit, iN_add, iN_mul, iN_pred, iN_pred', iN_lt, iN_le, iN_eq, iN_nat, nlt_t, nlt_f, nle_t, nle_f, neq_t, neq_f, List.length_nil, List.length_cons, or_false, false_or, or_self, not_false_eq_true, not_true_eq_false, ↓reduceIte, if_true, if_false, Bool.false_eq_true, Nat.reduceAdd, fb_46]
/-- the state behind an act that was done -/
theorem INV.act (h : INV s I A L pr ot J B M ru G P W) {a : Nat → Int32} (hz : OK G P Z) (hc : CP Z a) {nx sz : Nat} (hn : nx < 12) (hs : sz ≤ 12) (e1 : I 7 1 = iN nx) (e2 : I 7 2 = iN sz) {Y : Nat → Int32} (hY : remB (B 26) (B 0) sz Y) {J' : Nat → Int32} (hJ : ∀ x, (x = 1 ∨ x = 2 ∨ x = 3 ∨ x = 10 ∨ x = 12 ∨ x = 23 ∨ x = 37 ∨ x = 47) → J' x = J x) (hJ2 : J' 27 = iN (if sz < 12 then sz + 1 else 12)) :
    INV (s + 1) (u2 (u2 I 7 1 (iN ((nx + 1) % 12))) 7 2 (iN (if sz + 1 < 12 then sz + 1 else 12))) (u1 (u1 (u1 A 32 (A 28)) 28 Z) 8 (va_cpy (A 28) (A 8) 0 (nx * 82) 82)) L pr ot J' (u1 (u1 B 26 Y) 0 a) M ru G P W := by
  have hI := h
  obtain ⟨h1, h2, hpl, h3, h4, h5, h6, h7, h8, h9, h10, h11, h12⟩ := h
  refine hI.mk2 (fun o k ho _ => ?_) (fun x hx => ?_) (fun x hx => hJ x (by omega)) (fun x hx => ?_) hz hc h3.1 (h6.fr rfl rfl (hJ 10 (by omega)) rfl) (h8.rem h3 h4 hn hs e1 e2 hY rfl rfl rfl hJ2 rfl) (h9.fr rfl (fun i hi => ?_) (hJ 47 (by omega)) (fun x hx => ?_)) (h10.fr rfl (fun x hx => ?_) (hJ 37 (by omega)) (fun x hx => ?_)) (h11.fr rfl (hJ 12 (by omega)))
  · rw [u2_eq, if_neg (by omega), u2_eq, if_neg (by omega)]
  · rw [u1_eq, if_neg (by omega), u1_eq, if_neg (by omega), u1_eq, if_neg (by omega)]
  · rw [u1_eq, if_neg (by omega), u1_eq, if_neg (by omega)]
  · show rwC (va_cpy (A 28) (A 8) 0 (nx * 82) 82) (12 + i) = _
    rw [rwC_ne (by omega)]
  · rw [u1_eq, if_neg (by omega), u1_eq, if_neg (by omega)]
  · rw [u1_eq, if_neg (by omega), u1_eq, if_neg (by omega), u1_eq, if_neg (by omega)]
  · rw [u1_eq, if_neg (by omega), u1_eq, if_neg (by omega)]
end AC
