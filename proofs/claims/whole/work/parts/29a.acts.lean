/-! THE BUREAU'S ACTS, by the class -/
def nz (Z : Nat → Int32) : Prop := ∀ j, 82 ≤ j → Z j = 0
theorem cpy_eq {Z Y : Nat → Int32} (h1 : nz Z) (h2 : nz Y) : va_cpy Z Y 0 0 82 = Z := by
  funext j
  unfold va_cpy
  by_cases c : 0 ≤ j ∧ j < 0 + 82
  · rw [if_pos c, Nat.zero_add, Nat.sub_zero]
  · rw [if_neg c, h2 j (by omega), h1 j (by omega)]
theorem w_cpy {h : PH} {a b n0 n1 s d n : Nat} {f f1 : Nat → Int32} (e1 : h[a]? = some (.inl (.int, (n0, .inl f)))) (e2 : h[b]? = some (.inl (.int, (n1, .inl f1)))) (hs : s + n ≤ n0) (hd : d + n ≤ n1) (h0 : n0 < 2147483648) (h1 : n1 < 2147483648) :
    h_cpy h a (iN s) b (iN d) (iN n) = some (h.set b (.inl (.int, (n1, .inl (va_cpy f f1 s d n))))) := by
  unfold h_cpy
  rw [e1, e2]
  simp only [iN_nat (show s < 2147483648 by omega), iN_nat (show d < 2147483648 by omega), iN_nat (show n < 2147483648 by omega)]
  rw [if_pos]
  refine ⟨trivial, trivial, ?_, ?_, ?_, hs, hd⟩ <;>
    (rw [show (0 : Int32) = iN 0 from rfl, iN_lt (by omega) (by omega)]; omega)
/-- the loop upward, for every continuation -/
theorem lp_k {κ σ α : Type} (F : κ → Nat → Nat → σ → Option α) (kx : κ → σ → Option α) (Inv : Nat → σ → Prop) (N : Nat)
    (hs : ∀ k s, k < N → Inv k s → ∃ s', Inv (k + 1) s' ∧ ∀ c n, F c (n + 1) k s = F c n (k + 1) s')
    (he : ∀ s, Inv N s → ∀ c n, F c (n + 1) N s = kx c s) :
    ∀ (d k : Nat) (s : σ), k + d = N → Inv k s → ∃ s', Inv N s' ∧ ∀ c n, d < n → F c n k s = kx c s' := by
  intro d
  induction d with
  | zero =>
    intro k s hk hi
    cases hk
    refine ⟨s, hi, fun c n hn => ?_⟩
    obtain ⟨m, rfl⟩ : ∃ m, n = m + 1 := ⟨n - 1, by omega⟩
    exact he s hi c m
  | succ d ih =>
    intro k s hk hi
    obtain ⟨s1, h1, h2⟩ := hs k s (by omega) hi
    obtain ⟨s2, h3, h4⟩ := ih (k + 1) s1 (by omega) h1
    refine ⟨s2, h3, fun c n hn => ?_⟩
    obtain ⟨m, rfl⟩ : ∃ m, n = m + 1 := ⟨n - 1, by omega⟩
    rw [h2 c m]
    exact h4 c m (by omega)
section ACT
variable {I A : Nat → Nat → Int32} {L : Nat → Int64} {pr ot : Nat} {T : PH} {o ro G P W p g : Nat} {pu : (Nat → Int32) → Int32} {β : Type}
theorem z_cpy {o o' : Nat} (ho : o = 27 ∨ o = 31) (ho' : o' = 27 ∨ o' = 31) {f : PH → Option β} : (h_cpy (encC I A L pr ot T) (o + 1) (iN 0) (o' + 1) (iN 0) (iN 82)).bind f = f (encC I (u1 A (o' + 1) (va_cpy (A (o + 1)) (A (o' + 1)) 0 0 82)) L pr ot T) := by
  rcases ho with rfl | rfl <;> rcases ho' with rfl | rfl <;> (rw [w_cpy (n0 := 82) (n1 := 82) rfl rfl (by decide) (by decide) (by decide) (by decide)]; rfl)
theorem z_save {k : Nat} (ho : o = 27 ∨ o = 31) (hk : k < 14) {f : PH → Option β} : (h_cpy (encC I A L pr ot T) (o + 1) (iN 0) 8 (iN (k * 82)) (iN 82)).bind f = f (encC I (u1 A 8 (va_cpy (A (o + 1)) (A 8) 0 (k * 82) 82)) L pr ot T) := by
  rcases ho with rfl | rfl <;> (rw [w_cpy (n0 := 82) (n1 := 1148) rfl rfl (by decide) (by omega) (by decide) (by decide)]; rfl)
theorem z_load {k : Nat} (ho : o = 27 ∨ o = 31) (hk : k < 14) {f : PH → Option β} : (h_cpy (encC I A L pr ot T) 8 (iN (k * 82)) (o + 1) (iN 0) (iN 82)).bind f = f (encC I (u1 A (o + 1) (va_cpy (A 8) (A (o + 1)) (k * 82) 0 82)) L pr ot T) := by
  rcases ho with rfl | rfl <;> (rw [w_cpy (n0 := 1148) (n1 := 82) rfl rfl (by omega) (by decide) (by decide) (by decide)]; rfl)
theorem c_copy (h1 : nz (A 28)) (h2 : nz (A 32)) : fX8_copy 31 27 (encC I A L pr ot T) = some ((), (encC I (u1 A 32 (A 28)) L pr ot T)) := by
  have e := z_cpy (I := I) (A := A) (L := L) (pr := pr) (ot := ot) (T := T) (β := Unit × PH) (o := 27) (o' := 31) (Or.inl rfl) (Or.inr rfl) (f := fun h3 => some ((), h3))
  rw [cpy_eq h1 h2] at e
  unfold fX8_copy
  rw [zR_1 (Or.inl rfl), zR_1 (Or.inr rfl)]
  exact e
theorem waS_congr {A B Z : Nat → _} {W p : Nat} (h : ∀ x, 15 ≤ x → x ≤ 18 → B x = A x) : waS B Z W p = waS A Z W p := by
  have e1 : ofB B = ofB A := by
    funext w t v
    unfold ofB
    rw [h 17 (by omega) (by omega), h 18 (by omega) (by omega)]
  have e2 : tmB B Z p = tmB A Z p := by
    funext w t
    unfold tmB
    rw [e1, h 16 (by omega) (by omega)]
  have e3 : hwB B Z p = hwB A Z p := by
    funext w
    unfold hwB
    rw [e2, h 15 (by omega) (by omega)]
  unfold waS
  rw [e3]
theorem TS.congr {A B : Nat → Nat → Int32} {W : Nat} (hT : TS A W) (h : ∀ x, 15 ≤ x → x ≤ 18 → B x = A x) : TS B W := by
  intro w hw
  rw [h 15 (by omega) (by omega), h 16 (by omega) (by omega)]
  exact hT w hw
theorem paF_ok {A : Nat → Nat → Int32} {Z : Nat → Int32} {n : Nat} (h6 : P ≤ 6) (hG : G ≤ 8) (hz : ∀ p, p < 6 → okH Z p) : ∀ q, q ≤ P → ∀ p, p < 6 → okH (paF A pu G n Z q) p
  | 0, _ => hz
  | q + 1, hq => by
    intro p hp h hh
    have ih := paF_ok (A := A) (Z := Z) (n := n) h6 hG hz q (by omega)
    show 0 ≤ psZ A pu G q _ n _ ∧ psZ A pu G q _ n _ ≤ 9
    have base : ∀ p, p < 6 → okH (upd (paF A pu G n Z q) 80 (Z 80)) p := fun p hp h hh => by
      unfold upd
      rw [if_neg (by omega)]
      exact ih p hp h hh
    have key : ∀ m, ∀ p, p < 6 → okH (psZ A pu G q (upd (paF A pu G n Z q) 80 (Z 80)) m) p := by
      intro m
      induction m with
      | zero => exact base
      | succ m im =>
        intro p hp h hh
        show 0 ≤ upd (lvZ A pu G q _) 80 _ _ ∧ upd (lvZ A pu G q _) 80 _ _ ≤ 9
        unfold upd
        rw [if_neg (by omega)]
        unfold lvZ
        split
        · exact cl9_ok _
        · rename_i c
          rw [if_neg (fun d => by have := d.1; omega)]
          exact im p hp h hh
    exact key n p hp h hh
theorem c_passAll (hF : FS I G P W) (ho : o = 27 ∨ o = 31) (hro : ro = 19 ∨ ro = 23) (hr : RU I A ro pu) (hv : ∀ p, p < 6 → okH (A (o + 1)) p) {N : Nat} (hN : N < 2000) :
    ∃ B, fX8_passAll o (iN N) ro (encC I A L pr ot T) = some ((), (encC I B L pr ot T)) ∧ frL o ro A B ∧ B (o + 1) = paZ A pu G P N (A (o + 1)) := by
  have hF' := hF
  obtain ⟨hG, hP, hW, h8, h6, h7⟩ := hF
  have key := lp_up (fun n k (B : Nat → Nat → Int32) => fX8_passAll_L11 o (iN N) ro (A (o + 1) 80) (fun h3 => (h_gr 7 1 h3 o).bind fun q4 => (h_ast .int h3 q4 (80 : Int32) (A (o + 1) 80 + iN N)).bind fun h5 => some ((), h5)) n (iN k) (encC I B L pr ot T)) (fun B => (h_gr 7 1 (encC I B L pr ot T) o).bind fun q4 => (h_ast .int (encC I B L pr ot T) q4 (80 : Int32) (A (o + 1) 80 + iN N)).bind fun h5 => some ((), h5)) (fun k B => frL o ro A B ∧ B (o + 1) = paF A pu G N (A (o + 1)) k) P
    (fun k B hk hi => by
      obtain ⟨h1, h2⟩ := hi
      obtain ⟨C, e1, e2, e3⟩ := c_pass (I := I) (A := u1 B (o + 1) (upd (B (o + 1)) 80 (A (o + 1) 80))) (L := L) (pr := pr) (ot := ot) (T := T) (W := W) (P := P) hF' ho hro ((hr.congr (h1 (ro + 1) (by omega) (by omega) (by omega) (by omega))).congr (by rw [u1_eq, if_neg (by omega)])) hk (by
        rw [u1_eq, if_pos rfl, h2]
        intro h hh
        unfold upd
        rw [if_neg (by omega)]
        exact paF_ok h6 h8 hv k (by omega) k (by omega) h hh) hN
      refine ⟨C, ⟨fun x x1 x2 x3 x4 => ?_, ?_⟩, fun n => ?_⟩
      · rw [e2 x x1 x2 x3 x4, u1_eq, if_neg x1]
        exact h1 x x1 x2 x3 x4
      · rw [e3, u1_eq, if_pos rfl, h2]
        show _ = psZ A pu G k (upd (paF A pu G N (A (o + 1)) k) 80 (A (o + 1) 80)) N
        exact psZ_congr (by rw [u1_eq, if_neg (by omega)]; exact h1 12 (by omega) (by omega) (by omega) (by omega)) (by rw [u1_eq, if_neg (by omega)]; exact h1 13 (by omega) (by omega) (by omega) (by omega)) (by rw [u1_eq, if_neg (by omega)]; exact h1 14 (by omega) (by omega) (by omega) (by omega)) N
      · simp (disch := first | omega | assumption | (simp (disch := omega) only [iN_lit, iN_add, iN_mul, iN_pred, iN_pred', iN_lt, iN_le, iN_eq, iN_nat, nlt_t, nlt_f, nle_t, nle_f, neq_t, neq_f, List.length_nil, List.length_cons, or_false, false_or, or_self, not_false_eq_true, not_true_eq_false, ↓reduceIte, if_true, if_false, Bool.false_eq_true, Nat.reduceAdd])) only [fX8_passAll_L11, ↓bK_11, ↓zK _, ↓zR_0 _, ↓zR_1 _, ↓zA_1 _, ↓zS_1 _, ↓hb_of (c_personSize), ↓hb_some, ↓bd_some, ↓letE_eq, h_z0, h_z1, h_zi0, h_zi1, iN_lit, iN_add, iN_mul, iN_pred, iN_pred', iN_lt, iN_le, iN_eq, iN_nat, nlt_t, nlt_f, nle_t, nle_f, neq_t, neq_f, List.length_nil, List.length_cons, or_false, false_or, or_self, not_false_eq_true, not_true_eq_false, ↓reduceIte, if_true, if_false, Bool.false_eq_true, Nat.reduceAdd, ↓hb_of e1, hP])
    (fun B hi n => by simp (disch := first | omega | assumption | (simp (disch := omega) only [iN_lit, iN_add, iN_mul, iN_pred, iN_pred', iN_lt, iN_le, iN_eq, iN_nat, nlt_t, nlt_f, nle_t, nle_f, neq_t, neq_f, List.length_nil, List.length_cons, or_false, false_or, or_self, not_false_eq_true, not_true_eq_false, ↓reduceIte, if_true, if_false, Bool.false_eq_true, Nat.reduceAdd])) only [fX8_passAll_L11, ↓bK_11, ↓zK _, ↓zR_0 _, ↓zR_1 _, ↓zA_1 _, ↓zS_1 _, ↓hb_of (c_personSize), ↓hb_some, ↓bd_some, ↓letE_eq, h_z0, h_z1, h_zi0, h_zi1, iN_lit, iN_add, iN_mul, iN_pred, iN_pred', iN_lt, iN_le, iN_eq, iN_nat, nlt_t, nlt_f, nle_t, nle_f, neq_t, neq_f, List.length_nil, List.length_cons, or_false, false_or, or_self, not_false_eq_true, not_true_eq_false, ↓reduceIte, if_true, if_false, Bool.false_eq_true, Nat.reduceAdd, hP, iN_lit, iN_add, iN_mul, iN_pred, iN_pred', iN_lt, iN_le, iN_eq, iN_nat, nlt_t, nlt_f, nle_t, nle_f, neq_t, neq_f, List.length_nil, List.length_cons, or_false, false_or, or_self, not_false_eq_true, not_true_eq_false, ↓reduceIte, if_true, if_false, Bool.false_eq_true, Nat.reduceAdd]) P 0 A (by omega) ⟨frL.refl, rfl⟩
  obtain ⟨B, ⟨h1, h2⟩, h3⟩ := key
  refine ⟨u1 B (o + 1) (upd (B (o + 1)) 80 (A (o + 1) 80 + iN N)), ?_, fun x x1 x2 x3 x4 => ?_, ?_⟩
  · have h4 := h3 FU (by unfold FU; omega)
    simp (disch := first | omega | assumption | (simp (disch := omega) only [iN_lit, iN_add, iN_mul, iN_pred, iN_pred', iN_lt, iN_le, iN_eq, iN_nat, nlt_t, nlt_f, nle_t, nle_f, neq_t, neq_f, List.length_nil, List.length_cons, or_false, false_or, or_self, not_false_eq_true, not_true_eq_false, ↓reduceIte, if_true, if_false, Bool.false_eq_true, Nat.reduceAdd])) only [fX8_passAll, ↓zR_1 _, ↓zA_1 _, ↓zS_1 _, ↓hb_some, ↓bd_some, ↓letE_eq, h_z0, h_z1, h_zi0, h_zi1, iN_lit, iN_add, iN_mul, iN_pred, iN_pred', iN_lt, iN_le, iN_eq, iN_nat, nlt_t, nlt_f, nle_t, nle_f, neq_t, neq_f, List.length_nil, List.length_cons, or_false, false_or, or_self, not_false_eq_true, not_true_eq_false, ↓reduceIte, if_true, if_false, Bool.false_eq_true, Nat.reduceAdd, iN_lit, iN_add, iN_mul, iN_pred, iN_pred', iN_lt, iN_le, iN_eq, iN_nat, nlt_t, nlt_f, nle_t, nle_f, neq_t, neq_f, List.length_nil, List.length_cons, or_false, false_or, or_self, not_false_eq_true, not_true_eq_false, ↓reduceIte, if_true, if_false, Bool.false_eq_true, Nat.reduceAdd] at h4 ⊢
    exact h4
  · rw [u1_eq, if_neg x1]; exact h1 x x1 x2 x3 x4
  · rw [u1_eq, if_pos rfl, h2]; rfl
end ACT
