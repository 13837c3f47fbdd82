/-! CALLS: what each begins with -/
theorem arg_lt (n : Nat) (hn : n < 2147483648) (x : Int32) : (∃ k, k < n ∧ x = iN k) ∨ ¬ (0 ≤ x ∧ x < iN n) := by
  by_cases c : 0 ≤ x ∧ x < iN n
  · exact Or.inl (iN_of c.1 c.2 hn)
  · exact Or.inr c
theorem arg_le (n : Nat) (hn : n < 2147483647) (x : Int32) : (∃ k, k ≤ n ∧ x = iN k) ∨ ¬ (0 ≤ x ∧ x ≤ iN n) := by
  by_cases c : 0 ≤ x ∧ x ≤ iN n
  · exact Or.inl (iN_of' c.1 c.2 hn)
  · exact Or.inr c
section CB
variable {I A E : Nat → Nat → Int32} {L : Nat → Int64} {pr ot : Nat} {J : Nat → Int32} {B : Nat → Nat → Int32} {M : Nat → Int64} {rdv : Value} {ru : Nat} {T : PH} {G P W p g w t oa nr h q sz m : Nat} {Z a : Nat → Int32} {R : Nat → Int32} {pu : (Nat → Int32) → Int32} {x : Int32}
theorem hasG_y (hF : FS I G P W) (h : g < G) : fX0_hasGround 11 (iN g) (encC I A L pr ot T) = some (1, (encC I A L pr ot T)) := c_hasGround hF.1 h hF.2.2.2.1
theorem hasG_n (hF : FS I G P W) (h : ¬ (0 ≤ x ∧ x < iN G)) : fX0_hasGround 11 x (encC I A L pr ot T) = some (0, (encC I A L pr ot T)) := c_hasGround0 (by rw [hF.1]; exact h)
theorem hasP_y (hF : FS I G P W) (h : p < P) : fX0_hasPerson 11 (iN p) (encC I A L pr ot T) = some (1, (encC I A L pr ot T)) := c_hasPerson hF.2.1 h hF.2.2.2.2.1
theorem hasP_n (hF : FS I G P W) (h : ¬ (0 ≤ x ∧ x < iN P)) : fX0_hasPerson 11 x (encC I A L pr ot T) = some (0, (encC I A L pr ot T)) := c_hasPerson0 (by rw [hF.2.1]; exact h)
theorem hasW_y (hF : FS I G P W) (h : w < W) : fX0_hasWant 11 (iN w) (encC I A L pr ot T) = some (1, (encC I A L pr ot T)) := c_hasWant hF.2.2.1 h hF.2.2.2.2.2
theorem hasW_n (hF : FS I G P W) (h : ¬ (0 ≤ x ∧ x < iN W)) : fX0_hasWant 11 x (encC I A L pr ot T) = some (0, (encC I A L pr ot T)) := c_hasWant0 (by rw [hF.2.2.1]; exact h)
theorem isG_n (hM : FM A J B G P W) (h : ¬ (0 ≤ x ∧ x < iN G)) : fX12_isGround 45 x (encC I E L pr ot (encR J B M rdv ru T)) = some (0, (encC I E L pr ot (encR J B M rdv ru T))) := by rw [isG hM, if_neg h]
theorem isM_n (hM : FM A J B G P W) (h : ¬ (0 ≤ x ∧ x < iN P)) : fX12_isMan 45 x (encC I E L pr ot (encR J B M rdv ru T)) = some (0, (encC I E L pr ot (encR J B M rdv ru T))) := by rw [isM hM, if_neg h]
theorem isW_n (hM : FM A J B G P W) (h : ¬ (0 ≤ x ∧ x < iN W)) : fX12_isWant 45 x (encC I E L pr ot (encR J B M rdv ru T)) = some (0, (encC I E L pr ot (encR J B M rdv ru T))) := by rw [isW hM, if_neg h]
theorem FM.j0 (hM : FM A J B G P W) {v : Int32} {k : Nat} (hk : ¬ (1 ≤ k ∧ k ≤ 3)) : FM A (u1 J k v) B G P W := hM.frame (fun x _ _ => by rw [u1_eq, if_neg (by omega)]) (fun _ _ _ => rfl)
/-! the row -/
theorem c_start : fX3_start 9 (encC I A L pr ot T) = some ((), (encC (u2 I 9 1 (iN 0)) A L pr ot T)) := rfl
theorem aL_10 {β : Type} {f : Int32 → Option β} : (h_al .long (encC I A L pr ot T) 10).bind f = f (iN 8) := rfl
theorem u2_u2 {v w : Int32} {o k : Nat} : u2 (u2 I o k v) o k w = u2 I o k w := by
  funext o' k'
  unfold u2
  split <;> rfl
theorem c_add {v : Int64} {n : Nat} (h : n < 8) : fX3_add 9 v (encC (u2 I 9 1 (iN n)) A L pr ot T) = some ((), (encC (u2 I 9 1 (iN (n + 1))) A (vp_updL L n v) pr ot T)) := by
  have e : u2 I 9 1 (iN n) 9 1 = iN n := by rw [u2_eq, if_pos ⟨rfl, rfl⟩]
  unfold fX3_add
  simp (disch := first | omega | assumption | (simp (disch := omega) only [iN_lit, iN_add, iN_mul, iN_pred, iN_pred', iN_lt, iN_le, iN_eq, iN_nat, nlt_t, nlt_f, nle_t, nle_f, neq_t, neq_f, List.length_nil, List.length_cons, or_false, false_or, or_self, not_false_eq_true, not_true_eq_false, ↓reduceIte, if_true, if_false, Bool.false_eq_true, Nat.reduceAdd])) only [fX3_add, ↓bR_9_0, ↓bA_10, ↓bS_10, ↓bG_9_1, ↓bW_9_1, ↓hb_some, ↓bd_some, ↓letE_eq, h_z0, h_z1, h_zi0, h_zi1, iN_lit, iN_add, iN_mul, iN_pred, iN_pred', iN_lt, iN_le, iN_eq, iN_nat, nlt_t, nlt_f, nle_t, nle_f, neq_t, neq_f, List.length_nil, List.length_cons, or_false, false_or, or_self, not_false_eq_true, not_true_eq_false, ↓reduceIte, if_true, if_false, Bool.false_eq_true, Nat.reduceAdd, e, u2_u2, ↓bS_10, ↓aL_10]
theorem r_tell {v : Int64} {n : Nat} (hn : J 12 = iN n) (h : n < 16) : fX12_tell 45 v (encC I E L pr ot (encR J B M rdv ru T)) = some ((), (encC I E L pr ot (encR (u1 J 12 (iN (n + 1))) B (vp_updL M n v) rdv ru T))) := by
  simp (disch := first | omega | assumption | (simp (disch := omega) only [iN_lit, iN_add, iN_mul, iN_pred, iN_pred', iN_lt, iN_le, iN_eq, iN_nat, nlt_t, nlt_f, nle_t, nle_f, neq_t, neq_f, List.length_nil, List.length_cons, or_false, false_or, or_self, not_false_eq_true, not_true_eq_false, ↓reduceIte, if_true, if_false, Bool.false_eq_true, Nat.reduceAdd])) only [fX12_tell, ↓brR_11, ↓brA_11, ↓brS_11, ↓brG_12, ↓brW_12, ↓hb_some, ↓bd_some, ↓letE_eq, h_z0, h_z1, h_zi0, h_zi1, iN_lit, iN_add, iN_mul, iN_pred, iN_pred', iN_lt, iN_le, iN_eq, iN_nat, nlt_t, nlt_f, nle_t, nle_f, neq_t, neq_f, List.length_nil, List.length_cons, or_false, false_or, or_self, not_false_eq_true, not_true_eq_false, ↓reduceIte, if_true, if_false, Bool.false_eq_true, Nat.reduceAdd, hn]
theorem updL_eq {M : Nat → Int64} {k : Nat} {v : Int64} : vp_updL M k v k = v := pk_uLs
theorem updL_ne {M : Nat → Int64} {k j : Nat} {v : Int64} (h : j ≠ k) : vp_updL M k v j = M j := pk_uLn h
theorem row_1 {n : Int32} {M : Nat → Int64} {v : Int64} (h : n = iN 1) : rowC n (vp_updL M 0 v) [v] := ⟨h, fun k hk => by
  match k, hk with
  | 0, _ => exact updL_eq⟩
theorem row_2 {n : Int32} {M : Nat → Int64} {v w : Int64} (h : n = iN 2) : rowC n (vp_updL (vp_updL M 0 v) 1 w) [v, w] := ⟨h, fun k hk => by
  match k, hk with
  | 0, _ => exact (updL_ne (by decide)).trans updL_eq
  | 1, _ => exact updL_eq⟩
theorem row_s {n : Int32} {M : Nat → Int64} {xs : List Int64} {v : Int64} {m : Nat} (h : rowC n M xs) (hm : m = xs.length) : rowC (iN (m + 1)) (vp_updL M m v) (xs ++ [v]) := by
  refine ⟨by rw [hm, List.length_append]; rfl, fun k hk => ?_⟩
  rw [List.length_append] at hk
  subst hm
  by_cases e : k = xs.length
  · subst e
    rw [updL_eq, List.getD_eq_getElem?_getD, List.getElem?_append_right (Nat.le_refl _), Nat.sub_self]
    rfl
  · have hk2 : k < xs.length := by simp at hk; omega
    rw [updL_ne e, h.2 k hk2, List.getD_eq_getElem?_getD, List.getD_eq_getElem?_getD, List.getElem?_append_left hk2]
theorem row_0 {M : Nat → Int64} : rowC (iN 0) M [] := ⟨rfl, fun k hk => absurd hk (Nat.not_lt_zero _)⟩
theorem qM_no {f : PH → Option (Int32 × PH)} {ans : Int32} (h : ∀ (I E : Nat → Nat → Int32) (L : Nat → Int64) (pr ot : Nat) (T : PH), f (encC I E L pr ot (encR J B M rdv ru T)) = some (ans, (encC I E L pr ot (encR (u1 J 13 0) B M rdv ru T)))) : qM J B M rdv ru f ans none :=
  fun I E L pr ot T => ⟨u1 J 13 0, B, M, rdv, h I E L pr ot T, fun x hx => by rw [u1_eq, if_neg (by omega)], frRB.refl, by rw [u1_eq, if_neg (by decide)], rfl⟩
end CB
