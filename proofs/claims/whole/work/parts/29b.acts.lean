/-! THE BUREAU'S ACTS, by the class: days, what is given and taken back, what is kept -/
/-- how often p came to have a WANT in so many days -/
def cmS (A : Nat → Nat → Int32) (pu : (Nat → Int32) → Int32) (G W p : Nat) (Z : Nat → Int32) : Nat → Int32 :=
  sm (fun k => bc (waS A (psZ A pu G p Z (k + 1)) W p &&& (waS A (psZ A pu G p Z k) W p ^^^ (-1 : Int32))))
def spC (A : Nat → Nat → Int32) (pu : (Nat → Int32) → Int32) (G W n : Nat) (Z : Nat → Int32) : Nat → Int32 :=
  sm (fun p => cmS A pu G W p (upd (paF A pu G n Z p) 80 (Z 80)) n)
def mnS (v : Int32) : Int32 := if v < 9999 then v else 9999
/-- g is given to p; is taken back; n of g are made -/
def giZ (Z : Nat → Int32) (p g : Nat) : Nat → Int32 := upd (upd (upd Z g (Z g - 1)) (32 + p * 8 + g) 0) 81 (mnS (Z 81 + 1))
def tbZ (Z : Nat → Int32) (p g : Nat) : Nat → Int32 := upd (upd Z (32 + p * 8 + g) (-1)) g (mn99 (Z g + 1))
def mkZ (Z : Nat → Int32) (g : Nat) (n : Int32) : Nat → Int32 := upd Z g (mn99 (Z g + n))
theorem upd_ne {f : Nat → Int32} {k j : Nat} {v : Int32} (h : j ≠ k) : upd f k v j = f j := if_neg h
theorem upd_eq {f : Nat → Int32} {k : Nat} {v : Int32} : upd f k v k = v := if_pos rfl
section ACT
variable {I A : Nat → Nat → Int32} {L : Nat → Int64} {pr ot : Nat} {T : PH} {o ro G P W p g : Nat} {pu : (Nat → Int32) → Int32} {β : Type}
theorem c_spend45 (hF : FS I G P W) (hT : TS A W) (ho : o = 27 ∨ o = 31) (hro : ro = 19 ∨ ro = 23) (hr : RU I A ro pu) (hp : p < P) (hv : okH (A (o + 1)) p) {N : Nat} (hN : N < 2000) {x3 c0 : Int32} :
    ∃ B, (∀ kx : Int32 → PH → Option (Int32 × PH), fX8_spend_L45 o (iN N) ro x3 (iN p) kx FU c0 (waS A (A (o + 1)) W p) (iN 0) (encC I A L pr ot T) = kx (c0 + cmS A pu G W p (A (o + 1)) N) (encC I B L pr ot T)) ∧ frL o ro A B ∧ B (o + 1) = psZ A pu G p (A (o + 1)) N := by
  have h6 := hF.2.2.2.2.1
  have key := lp_k (fun (kx : Int32 → PH → Option (Int32 × PH)) n k (s : Int32 × Int32 × (Nat → Nat → Int32)) => fX8_spend_L45 o (iN N) ro x3 (iN p) kx n s.1 s.2.1 (iN k) (encC I (s.2.2) L pr ot T)) (fun kx s => kx s.1 (encC I (s.2.2) L pr ot T)) (fun k s => frL o ro A s.2.2 ∧ s.2.2 (o + 1) = psZ A pu G p (A (o + 1)) k ∧ s.1 = c0 + cmS A pu G W p (A (o + 1)) k ∧ s.2.1 = waS A (psZ A pu G p (A (o + 1)) k) W p) N
    (fun k s hk hi => by
      obtain ⟨c, hd, B⟩ := s
      obtain ⟨h1, h2, h3, h4⟩ := hi
      dsimp only at h1 h2 h3 h4
      obtain ⟨C, e1, e2, e3⟩ := c_liveday (L := L) (pr := pr) (ot := ot) (T := T) hF ho hro (hr.congr (h1 (ro + 1) (by omega) (by omega) (by omega) (by omega))) hp (by rw [h2]; exact okH_ps (by omega) hv k)
      have e4 : upd (C (o + 1)) 80 (C (o + 1) 80 + 1) = psZ A pu G p (A (o + 1)) (k + 1) := by
        rw [e3, h2]
        show dyP B pu G p _ = dyP A pu G p _
        unfold dyP
        rw [lvZ_congr (h1 12 (by omega) (by omega) (by omega) (by omega)) (h1 13 (by omega) (by omega) (by omega) (by omega)) (h1 14 (by omega) (by omega) (by omega) (by omega))]
      have e5 : ∀ x, 15 ≤ x → x ≤ 18 → (u1 C (o + 1) (upd (C (o + 1)) 80 (C (o + 1) 80 + 1))) x = A x := fun x x1 x2 => (h1.trans e2) x (by omega) (by omega) (by omega) (by omega)
      have e6 := c_wantsOf (L := L) (pr := pr) (ot := ot) (T := T) (p := p) (o := o) hF (hT.congr e5) ho (by omega)
      rw [waS_congr e5, u1_eq, if_pos rfl, e4] at e6
      refine ⟨(c + bc (waS A (psZ A pu G p (A (o + 1)) (k + 1)) W p &&& (waS A (psZ A pu G p (A (o + 1)) k) W p ^^^ (-1 : Int32))), waS A (psZ A pu G p (A (o + 1)) (k + 1)) W p, u1 C (o + 1) (psZ A pu G p (A (o + 1)) (k + 1))), ⟨?_, ?_, ?_, rfl⟩, fun kx n => ?_⟩
      · rw [← e4]; exact h1.trans e2
      · dsimp only; rw [u1_eq, if_pos rfl]
      · dsimp only
        rw [h3, Int32.add_assoc]; rfl
      · dsimp only
        rw [h4]
        simp only [iN_lit] at e4 e6 ⊢
        simp (disch := first | omega | assumption | (simp (disch := omega) only [iN_lit, iN_add, iN_mul, iN_pred, iN_pred', iN_lt, iN_le, iN_eq, iN_nat, nlt_t, nlt_f, nle_t, nle_f, neq_t, neq_f, List.length_nil, List.length_cons, or_false, false_or, or_self, not_false_eq_true, not_true_eq_false, ↓reduceIte, if_true, if_false, Bool.false_eq_true, Nat.reduceAdd])) only [fX8_spend_L45, ↓zK _, ↓zR_1 _, ↓zA_1 _, ↓zS_1 _, ↓hb_of (c_wantsOf _ _ _ _), ↓hb_of (c_bitCount), ↓hb_some, ↓bd_some, ↓letE_eq, h_z0, h_z1, h_zi0, h_zi1, iN_lit, iN_add, iN_mul, iN_pred, iN_pred', iN_lt, iN_le, iN_eq, iN_nat, nlt_t, nlt_f, nle_t, nle_f, neq_t, neq_f, List.length_nil, List.length_cons, or_false, false_or, or_self, not_false_eq_true, not_true_eq_false, ↓reduceIte, if_true, if_false, Bool.false_eq_true, Nat.reduceAdd, ↓hb_of e1, ↓hb_of e6, e4, ↓hb_of c_bitCount, iN_lit, iN_add, iN_mul, iN_pred, iN_pred', iN_lt, iN_le, iN_eq, iN_nat, nlt_t, nlt_f, nle_t, nle_f, neq_t, neq_f, List.length_nil, List.length_cons, or_false, false_or, or_self, not_false_eq_true, not_true_eq_false, ↓reduceIte, if_true, if_false, Bool.false_eq_true, Nat.reduceAdd])
    (fun s hi kx n => by
      obtain ⟨c, hd, B⟩ := s
      simp (disch := first | omega | assumption | (simp (disch := omega) only [iN_lit, iN_add, iN_mul, iN_pred, iN_pred', iN_lt, iN_le, iN_eq, iN_nat, nlt_t, nlt_f, nle_t, nle_f, neq_t, neq_f, List.length_nil, List.length_cons, or_false, false_or, or_self, not_false_eq_true, not_true_eq_false, ↓reduceIte, if_true, if_false, Bool.false_eq_true, Nat.reduceAdd])) only [fX8_spend_L45, ↓zK _, ↓zR_1 _, ↓zA_1 _, ↓zS_1 _, ↓hb_of (c_wantsOf _ _ _ _), ↓hb_of (c_bitCount), ↓hb_some, ↓bd_some, ↓letE_eq, h_z0, h_z1, h_zi0, h_zi1, iN_lit, iN_add, iN_mul, iN_pred, iN_pred', iN_lt, iN_le, iN_eq, iN_nat, nlt_t, nlt_f, nle_t, nle_f, neq_t, neq_f, List.length_nil, List.length_cons, or_false, false_or, or_self, not_false_eq_true, not_true_eq_false, ↓reduceIte, if_true, if_false, Bool.false_eq_true, Nat.reduceAdd, iN_lit, iN_add, iN_mul, iN_pred, iN_pred', iN_lt, iN_le, iN_eq, iN_nat, nlt_t, nlt_f, nle_t, nle_f, neq_t, neq_f, List.length_nil, List.length_cons, or_false, false_or, or_self, not_false_eq_true, not_true_eq_false, ↓reduceIte, if_true, if_false, Bool.false_eq_true, Nat.reduceAdd]) N 0 (c0, waS A (A (o + 1)) W p, A) (by omega) ⟨frL.refl, rfl, (Int32.add_zero c0).symm, rfl⟩
  obtain ⟨⟨c, hd, B⟩, ⟨h1, h2, h3, h4⟩, h5⟩ := key
  refine ⟨B, fun kx => ?_, h1, h2⟩
  have := h5 kx FU (by unfold FU; omega)
  dsimp only at this h3
  rw [← h3]
  exact this
theorem c_spend (hF : FS I G P W) (hT : TS A W) (ho : o = 27 ∨ o = 31) (hro : ro = 19 ∨ ro = 23) (hr : RU I A ro pu) (hv : ∀ p, p < 6 → okH (A (o + 1)) p) {N : Nat} (hN : N < 2000) :
    ∃ B, fX8_spend o (iN N) ro (encC I A L pr ot T) = some (spC A pu G W N (A (o + 1)) P, (encC I B L pr ot T)) ∧ frL o ro A B ∧ B (o + 1) = paZ A pu G P N (A (o + 1)) := by
  have hF' := hF
  obtain ⟨hG, hP, hW, h8, h6, h7⟩ := hF
  have key := lp_up (fun n k (s : Int32 × (Nat → Nat → Int32)) => fX8_spend_L14 o (iN N) ro (A (o + 1) 80) (fun x3 h4 => (h_gr 7 1 h4 o).bind fun q5 => (h_ast .int h4 q5 (80 : Int32) (A (o + 1) 80 + iN N)).bind fun h6 => some (x3, h6)) n s.1 (iN k) (encC I (s.2) L pr ot T)) (fun s => (h_gr 7 1 (encC I (s.2) L pr ot T) o).bind fun q5 => (h_ast .int (encC I (s.2) L pr ot T) q5 (80 : Int32) (A (o + 1) 80 + iN N)).bind fun h6 => some (s.1, h6)) (fun k s => frL o ro A s.2 ∧ s.2 (o + 1) = paF A pu G N (A (o + 1)) k ∧ s.1 = spC A pu G W N (A (o + 1)) k) P
    (fun k s hk hi => by
      obtain ⟨c, B⟩ := s
      obtain ⟨h1, h2, h3⟩ := hi
      dsimp only at h1 h2 h3
      have f0 : (u1 B (o + 1) (upd (B (o + 1)) 80 (A (o + 1) 80))) (o + 1) = upd (paF A pu G N (A (o + 1)) k) 80 (A (o + 1) 80) := by rw [u1_eq, if_pos rfl, h2]
      have f1 : ∀ x, x ≤ 18 → (u1 B (o + 1) (upd (B (o + 1)) 80 (A (o + 1) 80))) x = A x := fun x hx => by
        rw [u1_eq, if_neg (by omega)]; exact h1 x (by omega) (by omega) (by omega) (by omega)
      have f2 : waS (u1 B (o + 1) (upd (B (o + 1)) 80 (A (o + 1) 80))) = waS A := by
        funext Z W p; exact waS_congr (fun x _ hx => f1 x hx)
      have e6 := c_wantsOf (L := L) (pr := pr) (ot := ot) (T := T) (p := k) (o := o) hF' (hT.congr (fun x _ hx => f1 x hx)) ho (by omega)
      obtain ⟨C, e1, e2, e3⟩ := c_spend45 (I := I) (A := u1 B (o + 1) (upd (B (o + 1)) 80 (A (o + 1) 80))) (L := L) (pr := pr) (ot := ot) (T := T) (W := W) (P := P) (p := k) (x3 := A (o + 1) 80) (c0 := c) hF' (hT.congr (fun x _ hx => f1 x hx)) ho hro ((hr.congr (h1 (ro + 1) (by omega) (by omega) (by omega) (by omega))).congr (by rw [u1_eq, if_neg (by omega)])) hk (by
        rw [f0]
        intro h hh
        unfold upd
        rw [if_neg (by omega)]
        exact paF_ok h6 h8 hv k (by omega) k (by omega) h hh) hN
      have f3 : ∀ n, psZ (u1 B (o + 1) (upd (B (o + 1)) 80 (A (o + 1) 80))) pu G k (upd (paF A pu G N (A (o + 1)) k) 80 (A (o + 1) 80)) n = psZ A pu G k (upd (paF A pu G N (A (o + 1)) k) 80 (A (o + 1) 80)) n := fun n => psZ_congr (f1 12 (by omega)) (f1 13 (by omega)) (f1 14 (by omega)) n
      have f4 : cmS (u1 B (o + 1) (upd (B (o + 1)) 80 (A (o + 1) 80))) pu G W k (upd (paF A pu G N (A (o + 1)) k) 80 (A (o + 1) 80)) N = cmS A pu G W k (upd (paF A pu G N (A (o + 1)) k) 80 (A (o + 1) 80)) N := by
        unfold cmS
        refine sm_congr (fun j _ => ?_)
        rw [f2, f3, f3]
      rw [f0, f2] at e6
      rw [f0, f2, f4] at e1
      refine ⟨(spC A pu G W N (A (o + 1)) (k + 1), C), ⟨fun x x1 x2 x3 x4 => ?_, ?_, rfl⟩, fun n => ?_⟩
      · dsimp only
        rw [e2 x x1 x2 x3 x4, u1_eq, if_neg x1]
        exact h1 x x1 x2 x3 x4
      · dsimp only
        rw [e3, f0]
        exact f3 N
      · dsimp only
        have e7 : c + cmS A pu G W k (upd (paF A pu G N (A (o + 1)) k) 80 (A (o + 1) 80)) N = spC A pu G W N (A (o + 1)) (k + 1) := by rw [h3]; rfl
        simp (disch := first | omega | assumption | (simp (disch := omega) only [iN_lit, iN_add, iN_mul, iN_pred, iN_pred', iN_lt, iN_le, iN_eq, iN_nat, nlt_t, nlt_f, nle_t, nle_f, neq_t, neq_f, List.length_nil, List.length_cons, or_false, false_or, or_self, not_false_eq_true, not_true_eq_false, ↓reduceIte, if_true, if_false, Bool.false_eq_true, Nat.reduceAdd])) only [fX8_spend_L14, ↓bK_11, ↓zK _, ↓zR_0 _, ↓zR_1 _, ↓zA_1 _, ↓zS_1 _, ↓hb_of (c_personSize), ↓hb_of (c_wantsOf _ _ _ _), ↓hb_some, ↓bd_some, ↓letE_eq, h_z0, h_z1, h_zi0, h_zi1, iN_lit, iN_add, iN_mul, iN_pred, iN_pred', iN_lt, iN_le, iN_eq, iN_nat, nlt_t, nlt_f, nle_t, nle_f, neq_t, neq_f, List.length_nil, List.length_cons, or_false, false_or, or_self, not_false_eq_true, not_true_eq_false, ↓reduceIte, if_true, if_false, Bool.false_eq_true, Nat.reduceAdd, ↓hb_of e6, hP, iN_lit, iN_add, iN_mul, iN_pred, iN_pred', iN_lt, iN_le, iN_eq, iN_nat, nlt_t, nlt_f, nle_t, nle_f, neq_t, neq_f, List.length_nil, List.length_cons, or_false, false_or, or_self, not_false_eq_true, not_true_eq_false, ↓reduceIte, if_true, if_false, Bool.false_eq_true, Nat.reduceAdd] at e1 ⊢
        rw [e1, e7])
    (fun s hi n => by
      obtain ⟨c, B⟩ := s
      simp (disch := first | omega | assumption | (simp (disch := omega) only [iN_lit, iN_add, iN_mul, iN_pred, iN_pred', iN_lt, iN_le, iN_eq, iN_nat, nlt_t, nlt_f, nle_t, nle_f, neq_t, neq_f, List.length_nil, List.length_cons, or_false, false_or, or_self, not_false_eq_true, not_true_eq_false, ↓reduceIte, if_true, if_false, Bool.false_eq_true, Nat.reduceAdd])) only [fX8_spend_L14, ↓bK_11, ↓zK _, ↓zR_0 _, ↓zR_1 _, ↓zA_1 _, ↓zS_1 _, ↓hb_of (c_personSize), ↓hb_of (c_wantsOf _ _ _ _), ↓hb_some, ↓bd_some, ↓letE_eq, h_z0, h_z1, h_zi0, h_zi1, iN_lit, iN_add, iN_mul, iN_pred, iN_pred', iN_lt, iN_le, iN_eq, iN_nat, nlt_t, nlt_f, nle_t, nle_f, neq_t, neq_f, List.length_nil, List.length_cons, or_false, false_or, or_self, not_false_eq_true, not_true_eq_false, ↓reduceIte, if_true, if_false, Bool.false_eq_true, Nat.reduceAdd, hP, iN_lit, iN_add, iN_mul, iN_pred, iN_pred', iN_lt, iN_le, iN_eq, iN_nat, nlt_t, nlt_f, nle_t, nle_f, neq_t, neq_f, List.length_nil, List.length_cons, or_false, false_or, or_self, not_false_eq_true, not_true_eq_false, ↓reduceIte, if_true, if_false, Bool.false_eq_true, Nat.reduceAdd]) P 0 (0, A) (by omega) ⟨frL.refl, rfl, rfl⟩
  obtain ⟨⟨c, B⟩, ⟨h1, h2, h3⟩, h4⟩ := key
  dsimp only at h1 h2 h3
  refine ⟨u1 B (o + 1) (upd (B (o + 1)) 80 (A (o + 1) 80 + iN N)), ?_, fun x x1 x2 x3 x4 => ?_, ?_⟩
  · have h5 := h4 FU (by unfold FU; omega)
    simp (disch := first | omega | assumption | (simp (disch := omega) only [iN_lit, iN_add, iN_mul, iN_pred, iN_pred', iN_lt, iN_le, iN_eq, iN_nat, nlt_t, nlt_f, nle_t, nle_f, neq_t, neq_f, List.length_nil, List.length_cons, or_false, false_or, or_self, not_false_eq_true, not_true_eq_false, ↓reduceIte, if_true, if_false, Bool.false_eq_true, Nat.reduceAdd])) only [fX8_spend, ↓zR_1 _, ↓zA_1 _, ↓zS_1 _, ↓hb_some, ↓bd_some, ↓letE_eq, h_z0, h_z1, h_zi0, h_zi1, iN_lit, iN_add, iN_mul, iN_pred, iN_pred', iN_lt, iN_le, iN_eq, iN_nat, nlt_t, nlt_f, nle_t, nle_f, neq_t, neq_f, List.length_nil, List.length_cons, or_false, false_or, or_self, not_false_eq_true, not_true_eq_false, ↓reduceIte, if_true, if_false, Bool.false_eq_true, Nat.reduceAdd, iN_lit, iN_add, iN_mul, iN_pred, iN_pred', iN_lt, iN_le, iN_eq, iN_nat, nlt_t, nlt_f, nle_t, nle_f, neq_t, neq_f, List.length_nil, List.length_cons, or_false, false_or, or_self, not_false_eq_true, not_true_eq_false, ↓reduceIte, if_true, if_false, Bool.false_eq_true, Nat.reduceAdd] at h5 ⊢
    rw [h5, h3]
  · rw [u1_eq, if_neg x1]; exact h1 x x1 x2 x3 x4
  · rw [u1_eq, if_pos rfl, h2]; rfl
end ACT
