/-! THE BUREAU'S ACTS by the model -/
theorem cpy_zero {f g : Nat → Int32} {k : Nat} : va_cpy f g 0 k 0 = g := by
  funext j
  unfold va_cpy
  rw [if_neg (by omega)]
theorem cpy_succ {f g : Nat → Int32} {k n : Nat} : va_cpy f g 0 k (n + 1) = upd (va_cpy f g 0 k n) (k + n) (f n) := by
  funext j
  unfold va_cpy upd
  by_cases e : j = k + n
  · rw [if_pos e, if_pos (by omega), show 0 + (j - k) = n by omega]
  · rw [if_neg e]
    dsimp only
    by_cases c : k ≤ j ∧ j < k + n
    · rw [if_pos c, if_pos (show k ≤ j ∧ j < k + (n + 1) by omega)]
    · rw [if_neg c, if_neg (show ¬ (k ≤ j ∧ j < k + (n + 1)) by omega)]
theorem upd_comm {f : Nat → Int32} {i j : Nat} {x y : Int32} (h : i ≠ j) : upd (upd f i x) j y = upd (upd f j y) i x := by
  funext k
  unfold upd
  by_cases a : k = j
  · subst a; rw [if_pos rfl, if_neg (Ne.symm h), if_pos rfl]
  · rw [if_neg a]
    by_cases b : k = i
    · rw [if_pos b, if_pos b]
    · rw [if_neg b, if_neg b, if_neg a]
/-- a is given g: held from now on -/
def hlA (a : Nat → Int32) (p g : Nat) : Nat → Int32 := upd (upd a (32 + p) (a (32 + p) ||| ((1 : Int32) <<< (iN g &&& 31)))) (38 + 8 * p + g) 0
def unA (a : Nat → Int32) (p g : Nat) : Nat → Int32 := upd (upd a (32 + p) (a (32 + p) &&& (((1 : Int32) <<< (iN g &&& 31)) ^^^ (-1 : Int32)))) (38 + 8 * p + g) 0
def giA (a : Nat → Int32) (p g : Nat) : Nat → Int32 := upd (upd (hlA a p g) g (a g - 1)) 87 (mnS (a 87 + 1))
def tbA (a : Nat → Int32) (p g : Nat) : Nat → Int32 := upd (unA a p g) g (mn99 (a g + 1))
/-- a row of the kept ones, of the class -/
def rwC (X : Nat → Int32) (i : Nat) : Nat → Int32 := fun k => if k < 82 then X (i * 82 + k) else 0
def rwM (X : Nat → Int32) (i : Nat) : Nat → Int32 := fun k => X (88 * i + k)
section MD
variable {I A E : Nat → Nat → Int32} {L : Nat → Int64} {pr ot : Nat} {J : Nat → Int32} {B : Nat → Nat → Int32} {M : Nat → Int64} {rdv : Value} {ru : Nat} {T : PH} {G P W p g w t oa nr h q sz : Nat} {Z a : Nat → Int32} {R : Nat → Int32} {pu : (Nat → Int32) → Int32}
theorem r_layG {of ot' bf bt' n k : Nat} (hA : ∀ (B : Nat → Nat → Int32) (i : Nat) (f : Int32 → Option (Unit × PH)), i < 88 → (h_ald .int (encC I E L pr ot (encR J B M rdv ru T)) of (iN i)).bind f = f (B bf i))
    (hS : ∀ (B : Nat → Nat → Int32) (i : Nat) (v : Int32) (f : PH → Option (Unit × PH)), i < n → (h_ast .int (encC I E L pr ot (encR J B M rdv ru T)) ot' (iN i) v).bind f = f (encC I E L pr ot (encR J (u1 B bt' (upd (B bt') i v)) M rdv ru T))) (hne : bf ≠ bt') (hk : k + 88 ≤ n) (hn : n < 2147483648) :
    fX12_lay of ot' (iN k) (encC I E L pr ot (encR J B M rdv ru T)) = some ((), (encC I E L pr ot (encR J (u1 B bt' (va_cpy (B bf) (B bt') 0 k 88)) M rdv ru T))) := by
  have key := lp_det (fun m j (X : Nat → Int32) => fX12_lay_L2 of ot' (iN k) (fun h1 => some ((), h1)) m (iN j) (encC I E L pr ot (encR J (u1 B bt' X) M rdv ru T))) (fun X => some ((), (encC I E L pr ot (encR J (u1 B bt' X) M rdv ru T)))) (fun j => va_cpy (B bf) (B bt') 0 k j) 88
    (fun j hj m => by
      rw [cpy_succ]
      simp (disch := first | omega | assumption | (simp (disch := omega) only [iN_lit, iN_add, iN_mul, iN_pred, iN_pred', iN_lt, iN_le, iN_eq, iN_nat, nlt_t, nlt_f, nle_t, nle_f, neq_t, neq_f, List.length_nil, List.length_cons, or_false, false_or, or_self, not_false_eq_true, not_true_eq_false, ↓reduceIte, if_true, if_false, Bool.false_eq_true, Nat.reduceAdd])) only [fX12_lay_L2, ↓maA _, ↓maS _, ↓hb_some, ↓bd_some, ↓letE_eq, h_z0, h_z1, h_zi0, h_zi1, iN_lit, iN_add, iN_mul, iN_pred, iN_pred', iN_lt, iN_le, iN_eq, iN_nat, nlt_t, nlt_f, nle_t, nle_f, neq_t, neq_f, List.length_nil, List.length_cons, or_false, false_or, or_self, not_false_eq_true, not_true_eq_false, ↓reduceIte, if_true, if_false, Bool.false_eq_true, Nat.reduceAdd, ↓hA _ _ _ hj, ↓hS _ _ _ _ (show k + j < n by omega), u1_eq, u1_u1, hne])
    (fun m => by simp (disch := first | omega | assumption | (simp (disch := omega) only [iN_lit, iN_add, iN_mul, iN_pred, iN_pred', iN_lt, iN_le, iN_eq, iN_nat, nlt_t, nlt_f, nle_t, nle_f, neq_t, neq_f, List.length_nil, List.length_cons, or_false, false_or, or_self, not_false_eq_true, not_true_eq_false, ↓reduceIte, if_true, if_false, Bool.false_eq_true, Nat.reduceAdd])) only [fX12_lay_L2, ↓maA _, ↓maS _, ↓hb_some, ↓bd_some, ↓letE_eq, h_z0, h_z1, h_zi0, h_zi1, iN_lit, iN_add, iN_mul, iN_pred, iN_pred', iN_lt, iN_le, iN_eq, iN_nat, nlt_t, nlt_f, nle_t, nle_f, neq_t, neq_f, List.length_nil, List.length_cons, or_false, false_or, or_self, not_false_eq_true, not_true_eq_false, ↓reduceIte, if_true, if_false, Bool.false_eq_true, Nat.reduceAdd]) FU (by unfold FU; omega)
  rw [cpy_zero, u1_self] at key
  exact key
theorem r_layT : fX12_lay 46 61 (iN 0) (encC I E L pr ot (encR J B M rdv ru T)) = some ((), (encC I E L pr ot (encR J (u1 B 29 (va_cpy (B 0) (B 29) 0 0 88)) M rdv ru T))) :=
  r_layG (n := 88) (fun B i f hi => by rw [brA_0 (in_arr hi (by decide) rfl), iN_nat (by omega)]) (fun B i v f hi => by rw [brS_29 (in_arr hi (by decide) rfl), iN_nat (by omega)]) (by decide) (by decide) (by decide)
theorem r_layS : fX12_lay 46 60 (iN 0) (encC I E L pr ot (encR J B M rdv ru T)) = some ((), (encC I E L pr ot (encR J (u1 B 28 (va_cpy (B 0) (B 28) 0 0 88)) M rdv ru T))) :=
  r_layG (n := 88) (fun B i f hi => by rw [brA_0 (in_arr hi (by decide) rfl), iN_nat (by omega)]) (fun B i v f hi => by rw [brS_28 (in_arr hi (by decide) rfl), iN_nat (by omega)]) (by decide) (by decide) (by decide)
theorem r_layU {k : Nat} (hk : k < 12) : fX12_lay 46 59 (iN (88 * k)) (encC I E L pr ot (encR J B M rdv ru T)) = some ((), (encC I E L pr ot (encR J (u1 B 26 (va_cpy (B 0) (B 26) 0 (88 * k) 88)) M rdv ru T))) :=
  r_layG (n := 1056) (fun B i f hi => by rw [brA_0 (in_arr hi (by decide) rfl), iN_nat (by omega)]) (fun B i v f hi => by rw [brS_26 (in_arr hi (by decide) rfl), iN_nat (by omega)]) (by decide) (by omega) (by decide)
theorem r_layV {k : Nat} (hk : k < 12) : fX12_lay 60 59 (iN (88 * k)) (encC I E L pr ot (encR J B M rdv ru T)) = some ((), (encC I E L pr ot (encR J (u1 B 26 (va_cpy (B 28) (B 26) 0 (88 * k) 88)) M rdv ru T))) :=
  r_layG (n := 1056) (fun B i f hi => by rw [brA_28 (in_arr hi (by decide) rfl), iN_nat (by omega)]) (fun B i v f hi => by rw [brS_26 (in_arr hi (by decide) rfl), iN_nat (by omega)]) (by decide) (by omega) (by decide)
theorem r_layK {k : Nat} (hk : k < 2) : fX12_lay 46 75 (iN (88 * k)) (encC I E L pr ot (encR J B M rdv ru T)) = some ((), (encC I E L pr ot (encR J (u1 B 48 (va_cpy (B 0) (B 48) 0 (88 * k) 88)) M rdv ru T))) :=
  r_layG (n := 176) (fun B i f hi => by rw [brA_0 (in_arr hi (by decide) rfl), iN_nat (by omega)]) (fun B i v f hi => by rw [brS_48 (in_arr hi (by decide) rfl), iN_nat (by omega)]) (by decide) (by omega) (by decide)
theorem cpy_in {f g : Nat → Int32} {k n j : Nat} (h : j < n) : va_cpy f g 0 k n (k + j) = f j := by
  unfold va_cpy
  rw [if_pos (by omega), show 0 + (k + j - k) = j by omega]
theorem cpy_out {f g : Nat → Int32} {k n j : Nat} (h : ¬ (k ≤ j ∧ j < k + n)) : va_cpy f g 0 k n j = g j := if_neg h
/-- what remember leaves of the undos -/
def remB (X f : Nat → Int32) (sz : Nat) (Y : Nat → Int32) : Prop :=
  (∀ j k, j + 1 < (if sz < 12 then sz + 1 else 12) → k < 88 → rwM Y j k = rwM X (if sz < 12 then j else j + 1) k) ∧ (∀ k, k < 88 → rwM Y ((if sz < 12 then sz + 1 else 12) - 1) k = f k)
theorem r_rem49 {o1 bf : Nat} (hl : ∀ k (B : Nat → Nat → Int32) (J : Nat → Int32), k < 12 → fX12_lay o1 59 (iN (88 * k)) (encC I E L pr ot (encR J B M rdv ru T)) = some ((), (encC I E L pr ot (encR J (u1 B 26 (va_cpy (B bf) (B 26) 0 (88 * k) 88)) M rdv ru T)))) (hJ : J 27 = iN sz) (hs : sz < 12) :
    fX12_remember_J49 45 o1 (encC I E L pr ot (encR J B M rdv ru T)) = some ((), (encC I E L pr ot (encR (u1 J 27 (iN (sz + 1))) (u1 B 26 (va_cpy (B bf) (B 26) 0 (88 * sz) 88)) M rdv ru T))) := by
  simp (disch := first | omega | assumption | (simp (disch := omega) only [iN_lit, iN_add, iN_mul, iN_pred, iN_pred', iN_lt, iN_le, iN_eq, iN_nat, nlt_t, nlt_f, nle_t, nle_f, neq_t, neq_f, List.length_nil, List.length_cons, or_false, false_or, or_self, not_false_eq_true, not_true_eq_false, ↓reduceIte, if_true, if_false, Bool.false_eq_true, Nat.reduceAdd])) only [fX12_remember_J49, ↓brR_26, ↓brA_26, ↓brS_26, ↓brG_27, ↓brW_27, ↓hb_of (r_layT), ↓hb_of (r_layS), ↓hb_of (r_layU _), ↓hb_of (r_layV _), ↓hb_of (r_layK _), ↓hb_some, ↓bd_some, ↓letE_eq, h_z0, h_z1, h_zi0, h_zi1, ↓hb_of (hl sz _ _ hs), iN_lit, iN_add, iN_mul, iN_pred, iN_pred', iN_lt, iN_le, iN_eq, iN_nat, nlt_t, nlt_f, nle_t, nle_f, neq_t, neq_f, List.length_nil, List.length_cons, or_false, false_or, or_self, not_false_eq_true, not_true_eq_false, ↓reduceIte, if_true, if_false, Bool.false_eq_true, Nat.reduceAdd, hJ]
theorem r_rem {o1 bf : Nat} (hl : ∀ k (B : Nat → Nat → Int32) (J : Nat → Int32), k < 12 → fX12_lay o1 59 (iN (88 * k)) (encC I E L pr ot (encR J B M rdv ru T)) = some ((), (encC I E L pr ot (encR J (u1 B 26 (va_cpy (B bf) (B 26) 0 (88 * k) 88)) M rdv ru T)))) (hbf : bf ≠ 26) (hJ : J 27 = iN sz) (hs : sz ≤ 12) :
    ∃ Y, fX12_remember 45 o1 (encC I E L pr ot (encR J B M rdv ru T)) = some ((), (encC I E L pr ot (encR (u1 J 27 (iN (if sz < 12 then sz + 1 else 12))) (u1 B 26 Y) M rdv ru T))) ∧ remB (B 26) (B bf) sz Y := by
  by_cases c : sz < 12
  · refine ⟨va_cpy (B bf) (B 26) 0 (88 * sz) 88, ?_, ?_, ?_⟩
    · have hne : ¬ iN sz = iN 12 := by rw [iN_eq (by omega) (by omega)]; omega
      rw [if_pos c]
      have e := r_rem49 (I := I) (E := E) (L := L) (pr := pr) (ot := ot) (M := M) (rdv := rdv) (ru := ru) (T := T) (B := B) hl hJ c
      simp (disch := first | omega | assumption | (simp (disch := omega) only [iN_lit, iN_add, iN_mul, iN_pred, iN_pred', iN_lt, iN_le, iN_eq, iN_nat, nlt_t, nlt_f, nle_t, nle_f, neq_t, neq_f, List.length_nil, List.length_cons, or_false, false_or, or_self, not_false_eq_true, not_true_eq_false, ↓reduceIte, if_true, if_false, Bool.false_eq_true, Nat.reduceAdd])) only [fX12_remember, ↓brG_27, ↓brW_27, ↓hb_some, ↓bd_some, ↓letE_eq, h_z0, h_z1, h_zi0, h_zi1, iN_lit, iN_add, iN_mul, iN_pred, iN_pred', iN_lt, iN_le, iN_eq, iN_nat, nlt_t, nlt_f, nle_t, nle_f, neq_t, neq_f, List.length_nil, List.length_cons, or_false, false_or, or_self, not_false_eq_true, not_true_eq_false, ↓reduceIte, if_true, if_false, Bool.false_eq_true, Nat.reduceAdd, hJ, hne]
      exact e
    · intro j k hj hk
      rw [if_pos c] at hj ⊢
      unfold rwM
      exact cpy_out (by omega)
    · intro k hk
      rw [if_pos c, Nat.add_sub_cancel]
      exact cpy_in hk
  · have e12 : sz = 12 := by omega
    subst e12
    have key := lp_k (fun (kx : PH → Option (Unit × PH)) n k (X : Nat → Int32) => fX12_remember_L11 45 o1 kx n (iN k) (encC I E L pr ot (encR J (u1 B 26 X) M rdv ru T))) (fun kx X => kx (encC I E L pr ot (encR J (u1 B 26 X) M rdv ru T))) (fun k X => ∀ j, X j = if j < k then B 26 (j + 88) else B 26 j) 968
      (fun k X hk hi => by
        refine ⟨upd X k (B 26 (k + 88)), fun j => ?_, fun kx n => ?_⟩
        · unfold upd
          by_cases e : j = k
          · rw [if_pos e, if_pos (by omega), e]
          · rw [if_neg e, hi j]
            by_cases d : j < k
            · rw [if_pos d, if_pos (by omega)]
            · rw [if_neg d, if_neg (by omega)]
        · have e1 : X (k + 88) = B 26 (k + 88) := by rw [hi, if_neg (by omega)]
          simp (disch := first | omega | assumption | (simp (disch := omega) only [iN_lit, iN_add, iN_mul, iN_pred, iN_pred', iN_lt, iN_le, iN_eq, iN_nat, nlt_t, nlt_f, nle_t, nle_f, neq_t, neq_f, List.length_nil, List.length_cons, or_false, false_or, or_self, not_false_eq_true, not_true_eq_false, ↓reduceIte, if_true, if_false, Bool.false_eq_true, Nat.reduceAdd])) only [fX12_remember_L11, ↓brR_26, ↓brA_26, ↓brS_26, fX12_remember_J49, ↓brG_27, ↓brW_27, ↓hb_of (r_layT), ↓hb_of (r_layS), ↓hb_of (r_layU _), ↓hb_of (r_layV _), ↓hb_of (r_layK _), ↓hb_some, ↓bd_some, ↓letE_eq, h_z0, h_z1, h_zi0, h_zi1, iN_lit, iN_add, iN_mul, iN_pred, iN_pred', iN_lt, iN_le, iN_eq, iN_nat, nlt_t, nlt_f, nle_t, nle_f, neq_t, neq_f, List.length_nil, List.length_cons, or_false, false_or, or_self, not_false_eq_true, not_true_eq_false, ↓reduceIte, if_true, if_false, Bool.false_eq_true, Nat.reduceAdd, u1_eq, u1_u1, e1])
      (fun X hi kx n => by simp (disch := first | omega | assumption | (simp (disch := omega) only [iN_lit, iN_add, iN_mul, iN_pred, iN_pred', iN_lt, iN_le, iN_eq, iN_nat, nlt_t, nlt_f, nle_t, nle_f, neq_t, neq_f, List.length_nil, List.length_cons, or_false, false_or, or_self, not_false_eq_true, not_true_eq_false, ↓reduceIte, if_true, if_false, Bool.false_eq_true, Nat.reduceAdd])) only [fX12_remember_L11, ↓brR_26, ↓brA_26, ↓brS_26, fX12_remember_J49, ↓brG_27, ↓brW_27, ↓hb_of (r_layT), ↓hb_of (r_layS), ↓hb_of (r_layU _), ↓hb_of (r_layV _), ↓hb_of (r_layK _), ↓hb_some, ↓bd_some, ↓letE_eq, h_z0, h_z1, h_zi0, h_zi1, iN_lit, iN_add, iN_mul, iN_pred, iN_pred', iN_lt, iN_le, iN_eq, iN_nat, nlt_t, nlt_f, nle_t, nle_f, neq_t, neq_f, List.length_nil, List.length_cons, or_false, false_or, or_self, not_false_eq_true, not_true_eq_false, ↓reduceIte, if_true, if_false, Bool.false_eq_true, Nat.reduceAdd]) 968 0 (B 26) (by omega) (fun j => by rw [if_neg (by omega)])
    obtain ⟨X, h1, h2⟩ := key
    have h3 := h2 (fun h2 => (h_gi 11 27 h2 45).bind fun x3 => (h_pv 11 27 h2 45 (.int (x3 - (1 : Int32)))).bind fun h4 => fX12_remember_J49 45 o1 h4) FU (by unfold FU; omega)
    rw [u1_self] at h3
    refine ⟨va_cpy (B bf) X 0 (88 * 11) 88, ?_, ?_, ?_⟩
    · have e := r_rem49 (I := I) (E := E) (L := L) (pr := pr) (ot := ot) (M := M) (rdv := rdv) (ru := ru) (T := T) (J := u1 J 27 (iN 11)) (B := u1 B 26 X) (sz := 11) hl (by rw [u1_eq, if_pos rfl]) (by decide)
      have e5 : u1 B 26 X bf = B bf := by rw [u1_eq, if_neg hbf]
      rw [e5] at e
      have e6 : iN 12 - iN 1 = iN 11 := by decide
      simp only [iN_lit] at h3
      simp (disch := first | omega | assumption | (simp (disch := omega) only [iN_lit, iN_add, iN_mul, iN_pred, iN_pred', iN_lt, iN_le, iN_eq, iN_nat, nlt_t, nlt_f, nle_t, nle_f, neq_t, neq_f, List.length_nil, List.length_cons, or_false, false_or, or_self, not_false_eq_true, not_true_eq_false, ↓reduceIte, if_true, if_false, Bool.false_eq_true, Nat.reduceAdd])) only [fX12_remember, ↓brG_27, ↓brW_27, ↓hb_some, ↓bd_some, ↓letE_eq, h_z0, h_z1, h_zi0, h_zi1, iN_lit, iN_add, iN_mul, iN_pred, iN_pred', iN_lt, iN_le, iN_eq, iN_nat, nlt_t, nlt_f, nle_t, nle_f, neq_t, neq_f, List.length_nil, List.length_cons, or_false, false_or, or_self, not_false_eq_true, not_true_eq_false, ↓reduceIte, if_true, if_false, Bool.false_eq_true, Nat.reduceAdd, hJ, u1_eq]
      rw [h3]
      simp (disch := first | omega | assumption | (simp (disch := omega) only [iN_lit, iN_add, iN_mul, iN_pred, iN_pred', iN_lt, iN_le, iN_eq, iN_nat, nlt_t, nlt_f, nle_t, nle_f, neq_t, neq_f, List.length_nil, List.length_cons, or_false, false_or, or_self, not_false_eq_true, not_true_eq_false, ↓reduceIte, if_true, if_false, Bool.false_eq_true, Nat.reduceAdd])) only [↓brG_27, ↓brW_27, hJ, e6, e, u1_u1, u1_eq, iN_lit, iN_add, iN_mul, iN_pred, iN_pred', iN_lt, iN_le, iN_eq, iN_nat, nlt_t, nlt_f, nle_t, nle_f, neq_t, neq_f, List.length_nil, List.length_cons, or_false, false_or, or_self, not_false_eq_true, not_true_eq_false, ↓reduceIte, if_true, if_false, Bool.false_eq_true, Nat.reduceAdd]
    · intro j k hj hk
      rw [if_neg (by omega)] at hj ⊢
      unfold rwM
      rw [cpy_out (by omega), h1, if_pos (by omega), show 88 * j + k + 88 = 88 * (j + 1) + k by omega]
    · intro k hk
      rw [if_neg (by omega)]
      unfold rwM
      rw [show 12 - 1 = 11 from rfl]
      exact cpy_in hk
theorem r_hold (ha : oa = 46 ∨ oa = 61) (hp : p < 6) (hg : g < 8) : fX12_hold oa (iN p) (iN g) (encC I E L pr ot (encR J B M rdv ru T)) = some ((), (encC I E L pr ot (encR J (u1 B (fb oa) (hlA (B (fb oa)) p g)) M rdv ru T))) := by
  unfold hlA
  simp (disch := first | omega | assumption | (simp (disch := omega) only [iN_lit, iN_add, iN_mul, iN_pred, iN_pred', iN_lt, iN_le, iN_eq, iN_nat, nlt_t, nlt_f, nle_t, nle_f, neq_t, neq_f, List.length_nil, List.length_cons, or_false, false_or, or_self, not_false_eq_true, not_true_eq_false, ↓reduceIte, if_true, if_false, Bool.false_eq_true, Nat.reduceAdd])) only [fX12_hold, ↓maA _, ↓maS _, ↓hb_some, ↓bd_some, ↓letE_eq, h_z0, h_z1, h_zi0, h_zi1, iN_lit, iN_add, iN_mul, iN_pred, iN_pred', iN_lt, iN_le, iN_eq, iN_nat, nlt_t, nlt_f, nle_t, nle_f, neq_t, neq_f, List.length_nil, List.length_cons, or_false, false_or, or_self, not_false_eq_true, not_true_eq_false, ↓reduceIte, if_true, if_false, Bool.false_eq_true, Nat.reduceAdd, u1_eq, u1_u1]
theorem r_goGift (ha : oa = 46 ∨ oa = 61) (hp : p < 6) (hg : g < 8) : fX12_goGift oa (iN p) (iN g) (encC I E L pr ot (encR J B M rdv ru T)) = some ((), (encC I E L pr ot (encR J (u1 B (fb oa) (giA (B (fb oa)) p g)) M rdv ru T))) := by
  have e1 : hlA (B (fb oa)) p g g = B (fb oa) g := by
    unfold hlA
    rw [upd_ne (by omega), upd_ne (by omega)]
  have e2 : upd (hlA (B (fb oa)) p g) g (B (fb oa) g - 1) 87 = B (fb oa) 87 := by
    rw [upd_ne (by omega)]
    unfold hlA
    rw [upd_ne (by omega), upd_ne (by omega)]
  unfold giA mnS
  simp only [iN_lit] at e2
  simp (disch := first | omega | assumption | (simp (disch := omega) only [iN_lit, iN_add, iN_mul, iN_pred, iN_pred', iN_lt, iN_le, iN_eq, iN_nat, nlt_t, nlt_f, nle_t, nle_f, neq_t, neq_f, List.length_nil, List.length_cons, or_false, false_or, or_self, not_false_eq_true, not_true_eq_false, ↓reduceIte, if_true, if_false, Bool.false_eq_true, Nat.reduceAdd])) only [fX12_goGift, ↓hb_of (r_hold _ _ _), ↓maA _, ↓maS _, ↓hb_some, ↓bd_some, ↓letE_eq, h_z0, h_z1, h_zi0, h_zi1, iN_lit, iN_add, iN_mul, iN_pred, iN_pred', iN_lt, iN_le, iN_eq, iN_nat, nlt_t, nlt_f, nle_t, nle_f, neq_t, neq_f, List.length_nil, List.length_cons, or_false, false_or, or_self, not_false_eq_true, not_true_eq_false, ↓reduceIte, if_true, if_false, Bool.false_eq_true, Nat.reduceAdd, u1_eq, u1_u1, e1, e2]
theorem r_goBack (ha : oa = 46 ∨ oa = 61) (hp : p < 6) (hg : g < 8) : fX12_goBack oa (iN p) (iN g) (encC I E L pr ot (encR J B M rdv ru T)) = some ((), (encC I E L pr ot (encR J (u1 B (fb oa) (tbA (B (fb oa)) p g)) M rdv ru T))) := by
  have e1 : unA (B (fb oa)) p g g = B (fb oa) g := by
    unfold unA
    rw [upd_ne (by omega), upd_ne (by omega)]
  unfold tbA mn99
  unfold unA at e1 ⊢
  simp only [iN_lit] at e1
  simp (disch := first | omega | assumption | (simp (disch := omega) only [iN_lit, iN_add, iN_mul, iN_pred, iN_pred', iN_lt, iN_le, iN_eq, iN_nat, nlt_t, nlt_f, nle_t, nle_f, neq_t, neq_f, List.length_nil, List.length_cons, or_false, false_or, or_self, not_false_eq_true, not_true_eq_false, ↓reduceIte, if_true, if_false, Bool.false_eq_true, Nat.reduceAdd])) only [fX12_goBack, ↓maA _, ↓maS _, ↓hb_some, ↓bd_some, ↓letE_eq, h_z0, h_z1, h_zi0, h_zi1, iN_lit, iN_add, iN_mul, iN_pred, iN_pred', iN_lt, iN_le, iN_eq, iN_nat, nlt_t, nlt_f, nle_t, nle_f, neq_t, neq_f, List.length_nil, List.length_cons, or_false, false_or, or_self, not_false_eq_true, not_true_eq_false, ↓reduceIte, if_true, if_false, Bool.false_eq_true, Nat.reduceAdd, u1_eq, u1_u1, e1]
theorem CP.hl (hc : CP Z a) (hp : p < 6) (hg : g < 8) : CP (upd Z (32 + p * 8 + g) 0) (hlA a p g) := by
  obtain ⟨c1, c2, c3, c4, c5⟩ := hc
  have hh : ∀ q i, q < 6 → i < 8 → hdB (upd Z (32 + p * 8 + g) 0) q i = ((decide (q = p) && (i == g)) || hdB Z q i) := fun q i hq hi => by
    unfold hdB
    by_cases e : 32 + q * 8 + i = 32 + p * 8 + g
    · have e1 : q = p := by omega
      have e2 : i = g := by omega
      rw [e, upd_eq, decide_eq_true e1, e2]
      simp
    · rw [upd_ne e]
      have e2 : ¬ (q = p ∧ i = g) := fun c => e (by rw [c.1, c.2])
      have e3 : (decide (q = p) && (i == g)) = false := by
        by_cases e4 : q = p
        · have : ¬ i = g := fun c => e2 ⟨e4, c⟩
          simp [this]
        · simp [e4]
      rw [e3, Bool.false_or]
  refine ⟨fun k hk => ?_, fun q hq => ?_, fun q i hq hi hb => ?_, ?_, ?_⟩
  · unfold hlA
    rw [upd_ne (by omega), upd_ne (by omega), upd_ne (by omega)]
    exact c1 k hk
  · unfold hlA
    rw [upd_ne (by omega)]
    by_cases e : q = p
    · subst e
      rw [upd_eq, c2 q hq, bt_or hg]
      exact bt_congr (fun i hi => by rw [hh q i hq hi]; simp)
    · rw [upd_ne (by omega), c2 q hq]
      exact bt_congr (fun i hi => by rw [hh q i hq hi]; simp [e])
  · rw [hh q i hq hi] at hb
    unfold hlA
    by_cases e : q = p ∧ i = g
    · obtain ⟨rfl, rfl⟩ := e
      rw [upd_eq, upd_eq]
    · have e3 : (decide (q = p) && (i == g)) = false := by
        by_cases e4 : q = p
        · have : ¬ i = g := fun c => e ⟨e4, c⟩
          simp [this]
        · simp [e4]
      rw [e3, Bool.false_or] at hb
      rw [upd_ne (fun c => e (by omega)), upd_ne (by omega), upd_ne (fun c => e (by omega))]
      exact c3 q i hq hi hb
  · unfold hlA
    rw [upd_ne (by omega), upd_ne (by omega), upd_ne (by omega)]; exact c4
  · unfold hlA
    rw [upd_ne (by omega), upd_ne (by omega), upd_ne (by omega)]; exact c5
theorem CP.un (hc : CP Z a) (hp : p < 6) (hg : g < 8) : CP (upd Z (32 + p * 8 + g) (-1)) (unA a p g) := by
  obtain ⟨c1, c2, c3, c4, c5⟩ := hc
  have hh : ∀ q i, q < 6 → i < 8 → hdB (upd Z (32 + p * 8 + g) (-1)) q i = (!(decide (q = p) && (i == g)) && hdB Z q i) := fun q i hq hi => by
    unfold hdB
    by_cases e : 32 + q * 8 + i = 32 + p * 8 + g
    · have e1 : q = p := by omega
      have e2 : i = g := by omega
      rw [e, upd_eq, decide_eq_true e1, e2]
      simp
    · rw [upd_ne e]
      have e2 : ¬ (q = p ∧ i = g) := fun c => e (by rw [c.1, c.2])
      have e3 : (decide (q = p) && (i == g)) = false := by
        by_cases e4 : q = p
        · have : ¬ i = g := fun c => e2 ⟨e4, c⟩
          simp [this]
        · simp [e4]
      rw [e3]; rfl
  refine ⟨fun k hk => ?_, fun q hq => ?_, fun q i hq hi hb => ?_, ?_, ?_⟩
  · unfold unA
    rw [upd_ne (by omega), upd_ne (by omega), upd_ne (by omega)]
    exact c1 k hk
  · unfold unA
    rw [upd_ne (by omega)]
    by_cases e : q = p
    · subst e
      rw [upd_eq, c2 q hq, bt_an hg]
      exact bt_congr (fun i hi => by rw [hh q i hq hi]; simp)
    · rw [upd_ne (by omega), c2 q hq]
      exact bt_congr (fun i hi => by rw [hh q i hq hi]; simp [e])
  · rw [hh q i hq hi] at hb
    unfold unA
    have e : ¬ (q = p ∧ i = g) := fun c => by
      rw [c.1, c.2] at hb
      simp at hb
    have hb2 : hdB Z q i = true := by
      cases h2 : hdB Z q i
      · rw [h2, Bool.and_false] at hb; exact hb
      · rfl
    rw [upd_ne (fun c => e (by omega)), upd_ne (by omega), upd_ne (fun c => e (by omega))]
    exact c3 q i hq hi hb2
  · unfold unA
    rw [upd_ne (by omega), upd_ne (by omega), upd_ne (by omega)]; exact c4
  · unfold unA
    rw [upd_ne (by omega), upd_ne (by omega), upd_ne (by omega)]; exact c5
theorem CP.st (hc : CP Z a) {k : Nat} {v : Int32} (hk : k < 32) : CP (upd Z k v) (upd a k v) := by
  obtain ⟨c1, c2, c3, c4, c5⟩ := hc
  have hh : ∀ q i, hdB (upd Z k v) q i = hdB Z q i := fun q i => by unfold hdB; rw [upd_ne (by omega)]
  refine ⟨fun j hj => ?_, fun q hq => ?_, fun q i hq hi hb => ?_, ?_, ?_⟩
  · unfold upd
    split
    · rfl
    · exact c1 j hj
  · rw [upd_ne (by omega), c2 q hq]
    exact bt_congr (fun i _ => (hh q i).symm)
  · rw [upd_ne (by omega), upd_ne (by omega)]
    exact c3 q i hq hi (by rw [← hh q i]; exact hb)
  · rw [upd_ne (by omega), upd_ne (by omega)]; exact c4
  · rw [upd_ne (by omega), upd_ne (by omega)]; exact c5
theorem CP.sg (hc : CP Z a) {v : Int32} : CP (upd Z 81 v) (upd a 87 v) := by
  obtain ⟨c1, c2, c3, c4, c5⟩ := hc
  have hh : ∀ q i, q < 6 → i < 8 → hdB (upd Z 81 v) q i = hdB Z q i := fun q i hq hi => by unfold hdB; rw [upd_ne (by omega)]
  refine ⟨fun j hj => ?_, fun q hq => ?_, fun q i hq hi hb => ?_, ?_, ?_⟩
  · rw [upd_ne (by omega), upd_ne (by omega)]; exact c1 j hj
  · rw [upd_ne (by omega), c2 q hq]
    exact bt_congr (fun i hi => (hh q i hq hi).symm)
  · rw [upd_ne (by omega), upd_ne (by omega)]
    exact c3 q i hq hi (by rw [← hh q i hq hi]; exact hb)
  · rw [upd_ne (by omega), upd_ne (by omega)]; exact c4
  · rw [upd_eq, upd_eq]
theorem CP.gi (hc : CP Z a) (hp : p < 6) (hg : g < 8) : CP (giZ Z p g) (giA a p g) := by
  have h1 := ((hc.hl hp hg).st (k := g) (v := Z g - 1) (by omega)).sg (v := mnS (Z 81 + 1))
  unfold giZ giA
  rw [upd_comm (i := g) (by omega), hc.1 g (by omega), hc.2.2.2.2]
  exact h1
theorem CP.tb (hc : CP Z a) (hp : p < 6) (hg : g < 8) : CP (tbZ Z p g) (tbA a p g) := by
  have h1 := (hc.un hp hg).st (k := g) (v := mn99 (Z g + 1)) (by omega)
  unfold tbZ tbA
  rw [hc.1 g (by omega)]
  exact h1
theorem mn99_k {v : Int32} {n : Nat} (h : 0 ≤ v) (h9 : v ≤ 99) (hn : n ≤ 99) : 0 ≤ mn99 (v + iN n) ∧ mn99 (v + iN n) ≤ 99 := by
  obtain ⟨k, hk, rfl⟩ := iN_of' h (show v ≤ iN 99 from h9) (by decide)
  rw [iN_add]
  unfold mn99
  split
  · rename_i c
    rw [show (99 : Int32) = iN 99 from rfl, iN_lt (by omega) (by omega)] at c
    rw [show (0 : Int32) = iN 0 from rfl, show (99 : Int32) = iN 99 from rfl, iN_le (by omega) (by omega), iN_le (by omega) (by omega)]
    omega
  · exact ⟨by decide, by decide⟩
theorem OK.st (hz : OK G P Z) {k : Nat} {v : Int32} (hk : k < 8) (hv : 0 ≤ v ∧ v ≤ 99) : OK G P (upd Z k v) := by
  obtain ⟨z1, z2, z3, z4⟩ := hz
  refine ⟨fun j hj => ?_, fun i hi => ?_, fun q hq h hh => ?_, fun q i hq hi hb => ?_⟩
  · rw [upd_ne (by omega)]; exact z1 j hj
  · unfold upd
    split
    · exact hv
    · exact z2 i hi
  · rw [upd_ne (by omega)]; exact z3 q hq h hh
  · unfold hdB at hb
    rw [upd_ne (by omega)] at hb ⊢
    exact z4 q i hq hi hb
theorem OK.sg (hz : OK G P Z) {v : Int32} : OK G P (upd Z 81 v) := by
  obtain ⟨z1, z2, z3, z4⟩ := hz
  refine ⟨fun j hj => ?_, fun i hi => ?_, fun q hq h hh => ?_, fun q i hq hi hb => ?_⟩
  · rw [upd_ne (by omega)]; exact z1 j hj
  · rw [upd_ne (by omega)]; exact z2 i hi
  · rw [upd_ne (by omega)]; exact z3 q hq h hh
  · unfold hdB at hb
    rw [upd_ne (by omega)] at hb ⊢
    exact z4 q i hq hi hb
theorem OK.he (hz : OK G P Z) (hp : p < 6) (hg : g < 8) (hpp : p < P) (hgg : g < G) {v : Int32} (hv : v = -1 ∨ (0 ≤ v ∧ v ≤ 99)) : OK G P (upd Z (32 + p * 8 + g) v) := by
  obtain ⟨z1, z2, z3, z4⟩ := hz
  refine ⟨fun j hj => ?_, fun i hi => ?_, fun q hq h hh => ?_, fun q i hq hi hb => ?_⟩
  · rw [upd_ne (by omega)]; exact z1 j hj
  · rw [upd_ne (by omega)]; exact z2 i hi
  · rw [upd_ne (by omega)]; exact z3 q hq h hh
  · unfold hdB at hb
    by_cases e : 32 + q * 8 + i = 32 + p * 8 + g
    · have e1 : q = p := by omega
      have e2 : i = g := by omega
      rw [e, upd_eq] at hb ⊢
      rcases hv with hv | hv
      · rw [hv] at hb; exact absurd hb (by decide)
      · exact ⟨by omega, by omega, hv⟩
    · rw [upd_ne e] at hb ⊢
      exact z4 q i hq hi hb
theorem sub1 {v : Int32} (h1 : 1 ≤ v) (h2 : v ≤ 99) : 0 ≤ v - 1 ∧ v - 1 ≤ 99 := by
  have h0 : (0 : Int32) ≤ v := by
    rw [Int32.le_iff_toInt_le] at h1 ⊢
    have e1 : (1 : Int32).toInt = 1 := by decide
    have e0 : (0 : Int32).toInt = 0 := by decide
    omega
  obtain ⟨k, hk, rfl⟩ := iN_of' h0 (show v ≤ iN 99 from h2) (by decide)
  have key : ∀ k : Fin 100, 1 ≤ iN k.val → 0 ≤ iN k.val - 1 ∧ iN k.val - 1 ≤ 99 := by decide +kernel
  exact key ⟨k, by omega⟩ h1
theorem OK.gi (hz : OK G P Z) (h8 : G ≤ 8) (h6 : P ≤ 6) (hp : p < P) (hg : g < G) (hs : 1 ≤ Z g) : OK G P (giZ Z p g) :=
  ((hz.st (k := g) (by omega) (sub1 hs (hz.2.1 g (by omega)).2)).he (by omega) (by omega) hp hg (v := 0) (Or.inr ⟨by decide, by decide⟩)).sg
theorem OK.tb (hz : OK G P Z) (h8 : G ≤ 8) (h6 : P ≤ 6) (hp : p < P) (hg : g < G) : OK G P (tbZ Z p g) :=
  (hz.he (by omega) (by omega) hp hg (Or.inl rfl)).st (by omega) (mn99_k (n := 1) (hz.2.1 g (by omega)).1 (hz.2.1 g (by omega)).2 (by decide))
theorem OK.mk (hz : OK G P Z) (h8 : G ≤ 8) (hg : g < G) {n : Nat} (hn : n ≤ 99) : OK G P (mkZ Z g (iN n)) :=
  hz.st (by omega) (mn99_k (hz.2.1 g (by omega)).1 (hz.2.1 g (by omega)).2 hn)
end MD
