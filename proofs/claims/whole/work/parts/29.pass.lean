/-! DAYS of one of PEOPLE, by the class -/
theorem frL.refl {o ro : Nat} {A : Nat → Nat → Int32} : frL o ro A A := fun _ _ _ _ _ => rfl
theorem frL.trans {o ro : Nat} {A B C : Nat → Nat → Int32} (h1 : frL o ro A B) (h2 : frL o ro B C) : frL o ro A C := fun x x1 x2 x3 x4 => (h2 x x1 x2 x3 x4).trans (h1 x x1 x2 x3 x4)
theorem lvZ_congr {A B : Nat → Nat → Int32} {pu : (Nat → Int32) → Int32} {G p : Nat} {Z : Nat → Int32} (h2 : B 12 = A 12) (h3 : B 13 = A 13) (h4 : B 14 = A 14) : lvZ B pu G p Z = lvZ A pu G p Z := by
  unfold lvZ mvS
  rw [h2, h3, h4]
theorem cl9_ok (v : Int32) : 0 ≤ cl9 v ∧ cl9 v ≤ 9 := by
  unfold cl9
  split
  · rename_i h
    split
    · rename_i h2; exact ⟨h, h2⟩
    · exact ⟨by decide, by decide⟩
  · exact ⟨by decide, by decide⟩
theorem lvZ_day {A : Nat → Nat → Int32} {pu : (Nat → Int32) → Int32} {G p k : Nat} {Z : Nat → Int32} (hp : p < 6) (hG : G ≤ 8) (hk : 80 ≤ k) : lvZ A pu G p Z k = Z k := by
  unfold lvZ
  rw [if_neg (fun c => by have := c.2; omega), if_neg (fun c => by have := c.2.1; omega)]
theorem okH_lv {A : Nat → Nat → Int32} {pu : (Nat → Int32) → Int32} {G p : Nat} {Z : Nat → Int32} : okH (lvZ A pu G p Z) p := by
  intro h hh
  unfold lvZ
  rw [if_pos ⟨by omega, by omega⟩]
  exact cl9_ok _
def dyP (A : Nat → Nat → Int32) (pu : (Nat → Int32) → Int32) (G p : Nat) (Z : Nat → Int32) : Nat → Int32 := upd (lvZ A pu G p Z) 80 (Z 80 + 1)
def psZ (A : Nat → Nat → Int32) (pu : (Nat → Int32) → Int32) (G p : Nat) (Z : Nat → Int32) : Nat → Nat → Int32
  | 0 => Z
  | n + 1 => dyP A pu G p (psZ A pu G p Z n)
theorem okH_dy {A : Nat → Nat → Int32} {pu : (Nat → Int32) → Int32} {G p : Nat} (hp : p < 6) {Z : Nat → Int32} : okH (dyP A pu G p Z) p := by
  intro h hh
  unfold dyP upd
  rw [if_neg (by omega)]
  exact okH_lv h hh
theorem okH_ps {A : Nat → Nat → Int32} {pu : (Nat → Int32) → Int32} {G p : Nat} (hp : p < 6) {Z : Nat → Int32} (hv : okH Z p) : ∀ n, okH (psZ A pu G p Z n) p
  | 0 => hv
  | _ + 1 => okH_dy hp
section PS
variable {I A : Nat → Nat → Int32} {L : Nat → Int64} {pr ot : Nat} {T : PH} {o ro G P W p g : Nat} {pu : (Nat → Int32) → Int32}
/-- live, and the day behind it -/
theorem c_liveday (hF : FS I G P W) (ho : o = 27 ∨ o = 31) (hro : ro = 19 ∨ ro = 23) (hr : RU I A ro pu) (hp : p < P) (hv : okH (A (o + 1)) p) :
    ∃ B, fX8_live o (iN p) ro (encC I A L pr ot T) = some ((), encC I B L pr ot T) ∧ frL o ro A (u1 B (o + 1) (upd (B (o + 1)) 80 (B (o + 1) 80 + 1))) ∧ upd (B (o + 1)) 80 (B (o + 1) 80 + 1) = dyP A pu G p (A (o + 1)) := by
  obtain ⟨B, h1, h2, h3⟩ := c_live (L := L) (pr := pr) (ot := ot) (T := T) hF ho hro hr hp hv
  refine ⟨B, h1, fun x x1 x2 x3 x4 => ?_, ?_⟩
  · rw [u1_eq, if_neg x1]
    exact h2 x x1 x2 x3 x4
  · rw [h3]
    unfold dyP
    rw [lvZ_day (by have := hF.2.2.2.2.1; omega) hF.2.2.2.1 (Nat.le_refl _)]
theorem c_pass (hF : FS I G P W) (ho : o = 27 ∨ o = 31) (hro : ro = 19 ∨ ro = 23) (hr : RU I A ro pu) (hp : p < P) (hv : okH (A (o + 1)) p) {N : Nat} (hN : N < 2000) :
    ∃ B, fX8_pass o (iN p) (iN N) ro (encC I A L pr ot T) = some ((), encC I B L pr ot T) ∧ frL o ro A B ∧ B (o + 1) = psZ A pu G p (A (o + 1)) N := by
  have h6 := hF.2.2.2.2.1
  have key := lp_up (fun n k (B : Nat → Nat → Int32) => fX8_pass_L3 o (iN p) (iN N) ro (fun h1 => some ((), h1)) n (iN k) (encC I B L pr ot T)) (fun B => some ((), encC I B L pr ot T)) (fun k B => frL o ro A B ∧ B (o + 1) = psZ A pu G p (A (o + 1)) k) N
    (fun k B hk hi => by
      obtain ⟨h1, h2⟩ := hi
      obtain ⟨C, e1, e2, e3⟩ := c_liveday (L := L) (pr := pr) (ot := ot) (T := T) hF ho hro (hr.congr (h1 (ro + 1) (by omega) (by omega) (by omega) (by omega))) hp (by rw [h2]; exact okH_ps (by omega) hv k)
      refine ⟨_, ⟨h1.trans e2, ?_⟩, fun n => ?_⟩
      · rw [u1_eq, if_pos rfl, e3, h2]
        show dyP B pu G p _ = dyP A pu G p _
        unfold dyP
        rw [lvZ_congr (h1 12 (by omega) (by omega) (by omega) (by omega)) (h1 13 (by omega) (by omega) (by omega) (by omega)) (h1 14 (by omega) (by omega) (by omega) (by omega))]
      · simp (disch := first | omega | (simp (disch := omega) only [iN_lit, iN_add, iN_mul, iN_pred, iN_pred', iN_lt, iN_le, iN_eq, iN_nat, nlt_t, nlt_f, nle_t, nle_f, neq_t, neq_f, List.length_nil, List.length_cons, or_false, false_or, or_self, not_false_eq_true, not_true_eq_false, ↓reduceIte, if_true, if_false, Bool.false_eq_true, Nat.reduceAdd])) only [fX8_pass_L3, ↓zK ho, ↓zR_1 ho, ↓zA_1 ho, ↓zS_1 ho, ↓hb_of e1, ↓letE_eq, iN_lit, iN_add, iN_mul, iN_pred, iN_pred', iN_lt, iN_le, iN_eq, iN_nat, nlt_t, nlt_f, nle_t, nle_f, neq_t, neq_f, List.length_nil, List.length_cons, or_false, false_or, or_self, not_false_eq_true, not_true_eq_false, ↓reduceIte, if_true, if_false, Bool.false_eq_true, Nat.reduceAdd])
    (fun B hi n => by simp (disch := first | omega | (simp (disch := omega) only [iN_lit, iN_add, iN_mul, iN_pred, iN_pred', iN_lt, iN_le, iN_eq, iN_nat, nlt_t, nlt_f, nle_t, nle_f, neq_t, neq_f, List.length_nil, List.length_cons, or_false, false_or, or_self, not_false_eq_true, not_true_eq_false, ↓reduceIte, if_true, if_false, Bool.false_eq_true, Nat.reduceAdd])) only [fX8_pass_L3, iN_lit, iN_add, iN_mul, iN_pred, iN_pred', iN_lt, iN_le, iN_eq, iN_nat, nlt_t, nlt_f, nle_t, nle_f, neq_t, neq_f, List.length_nil, List.length_cons, or_false, false_or, or_self, not_false_eq_true, not_true_eq_false, ↓reduceIte, if_true, if_false, Bool.false_eq_true, Nat.reduceAdd]) N 0 A (by omega) ⟨frL.refl, rfl⟩
  obtain ⟨B, ⟨h1, h2⟩, h3⟩ := key
  exact ⟨B, h3 FU (by unfold FU; omega), h1, h2⟩
/-- DAYS of all, one of PEOPLE behind the other -/
def paF (A : Nat → Nat → Int32) (pu : (Nat → Int32) → Int32) (G : Nat) (n : Nat) (Z : Nat → Int32) : Nat → Nat → Int32
  | 0 => Z
  | p + 1 => psZ A pu G p (upd (paF A pu G n Z p) 80 (Z 80)) n
def paZ (A : Nat → Nat → Int32) (pu : (Nat → Int32) → Int32) (G P : Nat) (n : Nat) (Z : Nat → Int32) : Nat → Int32 := upd (paF A pu G n Z P) 80 (Z 80 + iN n)
theorem psZ_congr {A B : Nat → Nat → Int32} {Z : Nat → Int32} (h2 : B 12 = A 12) (h3 : B 13 = A 13) (h4 : B 14 = A 14) : ∀ n, psZ B pu G p Z n = psZ A pu G p Z n
  | 0 => rfl
  | n + 1 => by
    show dyP B pu G p (psZ B pu G p Z n) = dyP A pu G p (psZ A pu G p Z n)
    rw [psZ_congr h2 h3 h4 n]
    unfold dyP
    rw [lvZ_congr h2 h3 h4]
end PS
