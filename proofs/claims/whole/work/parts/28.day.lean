/-! A DAY OF ONE OF PEOPLE, by the class: the two loops -/
section LW
variable {I A : Nat → Nat → Int32} {L : Nat → Int64} {pr ot : Nat} {T : PH} {o ro G P W p g : Nat} {pu : (Nat → Int32) → Int32}
/-- what a day of p on o leaves as it is -/
def frL (o ro : Nat) (A B : Nat → Nat → Int32) : Prop := ∀ x, x ≠ o + 1 → x ≠ o + 2 → x ≠ o + 3 → x ≠ ro + 3 → B x = A x
theorem c_isIn_gs {Z : Nat → Int32} {h : PH} {k : Nat} (h8 : G ≤ 8) (hk : k < G) : fX11_isIn (iN k) (gsS Z G p) h = some ((if hdB Z p k then 1 else 0), h) := by
  rw [c_isIn]
  have e := bt_has (f := hdB Z p) h8 (show k < 8 by omega)
  rw [decide_eq_true hk, Bool.true_and] at e
  rw [← e]
  unfold hasB gsS
  by_cases c : (((bt (hdB Z p) G) >>> (iN k &&& 31)) &&& (1 : Int32)) = 1
  · rw [if_pos c, decide_eq_true c]; rfl
  · rw [if_neg c, decide_eq_false c]; rfl
/-- the state in the loop of the grounds -/
def iv63 (A : Nat → Nat → Int32) (pu : (Nat → Int32) → Int32) (o ro G p k : Nat) (B : Nat → Nat → Int32) : Prop :=
  frL o ro A B ∧ (B (o + 2) 3 = bc (gsS (A (o + 1)) G p) ∧ B (o + 2) 5 = A 14 p ∧ B (o + 2) 6 = dy7 (A (o + 1))) ∧
  (∀ h, h < 4 → B (o + 3) h = mvS A (A (o + 1)) pu G p (dy7 (A (o + 1))) h k) ∧
  B (o + 1) = fun j => if 32 + p * 8 ≤ j ∧ j < 32 + p * 8 + k ∧ ¬ A (o + 1) j = -1 then mn99 (A (o + 1) j + 1) else A (o + 1) j
theorem c_live63 (hF : FS I G P W) (ho : o = 27 ∨ o = 31) (hro : ro = 19 ∨ ro = 23) (hr : RU I A ro pu) (hp : p < 6) (kx : PH → Option (Unit × PH)) {k : Nat} (hk : k < G) {B : Nat → Nat → Int32} (hi : iv63 A pu o ro G p k B) :
    ∃ B', iv63 A pu o ro G p (k + 1) B' ∧ ∀ n, fX8_live_L63 o (iN p) ro (gsS (A (o + 1)) G p) kx (n + 1) (iN k) (encC I B L pr ot T) = fX8_live_L63 o (iN p) ro (gsS (A (o + 1)) G p) kx n (iN (k + 1)) (encC I B' L pr ot T) := by
  have hF' := hF
  obtain ⟨hG, hP, hW, h8, h6, h7⟩ := hF
  obtain ⟨h1, ⟨g3, g5, g6⟩, h3, h4⟩ := hi
  have e0 := fun B => c_isIn_gs (p := p) (Z := A (o + 1)) (h := encC I B L pr ot T) h8 hk
  have eg := fun B => c_groundSize (I := I) (A := B) (L := L) (pr := pr) (ot := ot) (T := T)
  cases hb : hdB (A (o + 1)) p k with
  | false =>
    rw [hb] at e0
    have hz : A (o + 1) (32 + p * 8 + k) = -1 := by
      unfold hdB at hb
      simpa using hb
    refine ⟨B, ⟨h1, ⟨g3, g5, g6⟩, fun h hh => ?_, ?_⟩, fun n => ?_⟩
    · rw [h3 h hh]
      show _ = mvS A (A (o + 1)) pu G p (dy7 (A (o + 1))) h k + (if hdB (A (o + 1)) p k = true ∧ ¬ A 13 (k * 4 + h) = -1 then _ else (0 : Int32))
      rw [hb, if_neg (fun c => by cases c.1), Int32.add_zero]
    · rw [h4]
      funext j
      by_cases e : j = 32 + p * 8 + k
      · subst e
        rw [if_neg (fun c => c.2.2 hz), if_neg (fun c => c.2.2 hz)]
      · by_cases c : 32 + p * 8 ≤ j ∧ j < 32 + p * 8 + k ∧ ¬ A (o + 1) j = -1
        · rw [if_pos c, if_pos ⟨c.1, by omega, c.2.2⟩]
        · rw [if_neg c, if_neg (fun d => c ⟨d.1, by omega, d.2.2⟩)]
    · simp (disch := first | omega | (simp (disch := omega) only [iN_lit, iN_add, iN_mul, iN_pred, iN_pred', iN_lt, iN_le, iN_eq, iN_nat, nlt_t, nlt_f, nle_t, nle_f, neq_t, neq_f, List.length_nil, List.length_cons, or_false, false_or, or_self, not_false_eq_true, not_true_eq_false, ↓reduceIte, if_true, if_false, Bool.false_eq_true, Nat.reduceAdd])) only [fX8_live_L63, fX8_live_J113_63, ↓zR_0 ho, ↓bK_11, ↓hb_of (eg _), ↓hb_of (e0 _), ↓letE_eq, hG, iN_lit, iN_add, iN_mul, iN_pred, iN_pred', iN_lt, iN_le, iN_eq, iN_nat, nlt_t, nlt_f, nle_t, nle_f, neq_t, neq_f, List.length_nil, List.length_cons, or_false, false_or, or_self, not_false_eq_true, not_true_eq_false, ↓reduceIte, if_true, if_false, Bool.false_eq_true, Nat.reduceAdd]
  | true =>
    rw [hb] at e0
    have hz : ¬ A (o + 1) (32 + p * 8 + k) = -1 := by
      unfold hdB at hb
      simpa using hb
    have hBr : RU I B ro pu := hr.congr (h1 (ro + 1) (by omega) (by omega) (by omega) (by omega))
    obtain ⟨C, e1, f1, f2, f3⟩ := c_pushBy (L := L) (pr := pr) (ot := ot) (T := T) hF' ho hro hBr hp hk
    have hB13 : B 13 = A 13 := h1 13 (by omega) (by omega) (by omega) (by omega)
    have hB12 : B 12 = A 12 := h1 12 (by omega) (by omega) (by omega) (by omega)
    have hBh : ∀ h, h < 4 → B (o + 1) (8 + p * 4 + h) = A (o + 1) (8 + p * 4 + h) := fun h hh => by
      rw [h4]
      show (if _ then _ else _) = _
      rw [if_neg (fun c => by have := c.1; omega)]
    have hBd : B (o + 1) (32 + p * 8 + k) = A (o + 1) (32 + p * 8 + k) := by
      rw [h4]
      show (if _ then _ else _) = _
      rw [if_neg (fun c => by have := c.2.1; omega)]
    have hCz : C (o + 1) = B (o + 1) := f1 (o + 1) (by omega) (by omega) (by omega)
    have e2 := fun B => c_daysHeld (I := I) (A := B) (L := L) (pr := pr) (ot := ot) (T := T) ho hp (show k < 8 by omega)
    have e3 := fun B v => c_putDaysHeld (I := I) (A := B) (L := L) (pr := pr) (ot := ot) (T := T) (v := v) ho hp (show k < 8 by omega)
    have hd1 : ¬ (o + 2 = o + 1) := by omega
    have hd2 : ¬ (o + 3 = o + 1) := by omega
    refine ⟨u1 C (o + 1) (upd (C (o + 1)) (32 + p * 8 + k) (mn99 (C (o + 1) (32 + p * 8 + k) + 1))), ⟨fun x x1 x2 x3 x4 => ?_, ?_, fun h hh => ?_, ?_⟩, fun n => ?_⟩
    · rw [u1_eq, if_neg x1, f1 x x2 x3 x4]
      exact h1 x x1 x2 x3 x4
    · rw [u1_eq, if_neg hd1, f2.1, f2.2.1, f2.2.2]
      exact ⟨g3, g5, g6⟩
    · rw [u1_eq, if_neg hd2, f3 h hh, h3 h hh, hB13, hB12, hBh h hh, hBd, g3, g5, g6]
      show _ = mvS A (A (o + 1)) pu G p (dy7 (A (o + 1))) h k + (if hdB (A (o + 1)) p k = true ∧ ¬ A 13 (k * 4 + h) = -1 then _ else (0 : Int32))
      rw [hb]
      by_cases c : A 13 (k * 4 + h) = -1
      · rw [if_pos c, if_neg (fun d => d.2 c)]
      · rw [if_neg c, if_pos ⟨rfl, c⟩]
    · rw [u1_eq, if_pos rfl, hCz, hBd]
      funext j
      unfold upd
      by_cases e : j = 32 + p * 8 + k
      · subst e
        rw [if_pos rfl, if_pos ⟨by omega, by omega, hz⟩]
      · rw [if_neg e, h4]
        show (if _ then _ else _) = _
        by_cases c : 32 + p * 8 ≤ j ∧ j < 32 + p * 8 + k ∧ ¬ A (o + 1) j = -1
        · rw [if_pos c, if_pos ⟨c.1, by omega, c.2.2⟩]
        · rw [if_neg c, if_neg (fun d => c ⟨d.1, by omega, d.2.2⟩)]
    · unfold mn99
      simp (disch := first | omega | (simp (disch := omega) only [iN_lit, iN_add, iN_mul, iN_pred, iN_pred', iN_lt, iN_le, iN_eq, iN_nat, nlt_t, nlt_f, nle_t, nle_f, neq_t, neq_f, List.length_nil, List.length_cons, or_false, false_or, or_self, not_false_eq_true, not_true_eq_false, ↓reduceIte, if_true, if_false, Bool.false_eq_true, Nat.reduceAdd])) only [fX8_live_L63, fX8_live_J113_63, ↓zR_0 ho, ↓zK ho, ↓bK_11, ↓hb_of (eg _), ↓hb_of (e0 _), ↓hb_of e1, ↓hb_of (e2 _), ↓hb_of (e3 _ _), ↓letE_eq, hG, iN_lit, iN_add, iN_mul, iN_pred, iN_pred', iN_lt, iN_le, iN_eq, iN_nat, nlt_t, nlt_f, nle_t, nle_f, neq_t, neq_f, List.length_nil, List.length_cons, or_false, false_or, or_self, not_false_eq_true, not_true_eq_false, ↓reduceIte, if_true, if_false, Bool.false_eq_true, Nat.reduceAdd]
/-- the state in the loop of the humours -/
def iv122 (A : Nat → Nat → Int32) (pu : (Nat → Int32) → Int32) (o ro G p k : Nat) (B : Nat → Nat → Int32) : Prop :=
  frL o ro A B ∧
  (∀ h, h < 4 → B (o + 3) h = mvS A (A (o + 1)) pu G p (dy7 (A (o + 1))) h G) ∧
  B (o + 1) = fun j => if 8 + p * 4 ≤ j ∧ j < 8 + p * 4 + k then cl9 (A (o + 1) j + mvS A (A (o + 1)) pu G p (dy7 (A (o + 1))) (j - (8 + p * 4)) G) else if 32 + p * 8 ≤ j ∧ j < 32 + p * 8 + G ∧ ¬ A (o + 1) j = -1 then mn99 (A (o + 1) j + 1) else A (o + 1) j
theorem c_live122 (ho : o = 27 ∨ o = 31) (hro : ro = 19 ∨ ro = 23) (hp : p < 6) (kx : PH → Option (Unit × PH)) {k : Nat} (hk : k < 4) {B : Nat → Nat → Int32} (hi : iv122 A pu o ro G p k B) :
    ∃ B', iv122 A pu o ro G p (k + 1) B' ∧ ∀ n, fX8_live_L122 o (iN p) kx (n + 1) (iN k) (encC I B L pr ot T) = fX8_live_L122 o (iN p) kx n (iN (k + 1)) (encC I B' L pr ot T) := by
  obtain ⟨h1, h3, h4⟩ := hi
  have hBh : B (o + 1) (8 + p * 4 + k) = A (o + 1) (8 + p * 4 + k) := by
    rw [h4]
    show (if _ then _ else _) = _
    rw [if_neg (fun c => by have := c.2; omega), if_neg (fun c => by have := c.1; omega)]
  have e2 := fun B => c_humourOf (I := I) (A := B) (L := L) (pr := pr) (ot := ot) (T := T) ho hp hk
  have e3 := fun B v => c_putHumour (I := I) (A := B) (L := L) (pr := pr) (ot := ot) (T := T) (v := v) ho hp hk
  have hd2 : ¬ (o + 3 = o + 1) := by omega
  refine ⟨u1 B (o + 1) (upd (B (o + 1)) (8 + p * 4 + k) (cl9 (B (o + 1) (8 + p * 4 + k) + B (o + 3) k))), ⟨fun x x1 x2 x3 x4 => ?_, fun h hh => ?_, ?_⟩, fun n => ?_⟩
  · rw [u1_eq, if_neg x1]
    exact h1 x x1 x2 x3 x4
  · rw [u1_eq, if_neg hd2]
    exact h3 h hh
  · rw [u1_eq, if_pos rfl, hBh, h3 k hk]
    funext j
    unfold upd
    by_cases e : j = 8 + p * 4 + k
    · subst e
      rw [if_pos rfl, if_pos ⟨by omega, by omega⟩, Nat.add_sub_cancel_left]
    · rw [if_neg e, h4]
      show (if _ then _ else _) = _
      by_cases c : 8 + p * 4 ≤ j ∧ j < 8 + p * 4 + k
      · rw [if_pos c, if_pos ⟨c.1, by omega⟩]
      · rw [if_neg c, if_neg (c := 8 + p * 4 ≤ j ∧ j < 8 + p * 4 + (k + 1)) (fun d => c ⟨d.1, by have := d.2; omega⟩)]
  · unfold cl9
    simp (disch := first | omega | (simp (disch := omega) only [iN_lit, iN_add, iN_mul, iN_pred, iN_pred', iN_lt, iN_le, iN_eq, iN_nat, nlt_t, nlt_f, nle_t, nle_f, neq_t, neq_f, List.length_nil, List.length_cons, or_false, false_or, or_self, not_false_eq_true, not_true_eq_false, ↓reduceIte, if_true, if_false, Bool.false_eq_true, Nat.reduceAdd])) only [fX8_live_L122, ↓zK ho, ↓zR_3 ho, ↓zA_3 ho, ↓hb_of (e2 _), ↓hb_of (e3 _ _), ↓hb_of c_clamp, ↓letE_eq, iN_lit, iN_add, iN_mul, iN_pred, iN_pred', iN_lt, iN_le, iN_eq, iN_nat, nlt_t, nlt_f, nle_t, nle_f, neq_t, neq_f, List.length_nil, List.length_cons, or_false, false_or, or_self, not_false_eq_true, not_true_eq_false, ↓reduceIte, if_true, if_false, Bool.false_eq_true, Nat.reduceAdd]
/-- what stands is right: humours of p -/
def okH (Z : Nat → Int32) (p : Nat) : Prop := ∀ h, h < 4 → 0 ≤ Z (8 + p * 4 + h) ∧ Z (8 + p * 4 + h) ≤ 9
theorem mvS_none {A : Nat → Nat → Int32} {Z : Nat → Int32} {N : Int32} {h : Nat} (hn : ∀ g, g < G → hdB Z p g = false) : mvS A Z pu G p N h G = 0 := by
  have : ∀ n, n ≤ G → mvS A Z pu G p N h n = 0 := by
    intro n
    induction n with
    | zero => intro _; rfl
    | succ n ih =>
      intro hle
      show mvS A Z pu G p N h n + (if hdB Z p n = true ∧ ¬ A 13 (n * 4 + h) = -1 then _ else (0 : Int32)) = 0
      rw [ih (by omega), hn n (by omega), if_neg (fun c => by cases c.1)]
      rfl
  exact this G (Nat.le_refl _)
theorem lvZ_none {A : Nat → Nat → Int32} {Z : Nat → Int32} (hv : okH Z p) (hn : ∀ g, g < G → hdB Z p g = false) : lvZ A pu G p Z = Z := by
  funext j
  unfold lvZ
  by_cases c : 8 + p * 4 ≤ j ∧ j < 8 + p * 4 + 4
  · rw [if_pos c, mvS_none hn, Int32.add_zero]
    obtain ⟨h1, h2⟩ := hv (j - (8 + p * 4)) (by omega)
    rw [show 8 + p * 4 + (j - (8 + p * 4)) = j by omega] at h1 h2
    unfold cl9
    rw [if_pos h1, if_pos h2]
  · rw [if_neg c]
    by_cases d : 32 + p * 8 ≤ j ∧ j < 32 + p * 8 + G ∧ ¬ Z j = -1
    · have := hn (j - (32 + p * 8)) (by omega)
      unfold hdB at this
      rw [show 32 + p * 8 + (j - (32 + p * 8)) = j by omega] at this
      exact absurd (by simpa using this) d.2.2
    · rw [if_neg d]
theorem c_live (hF : FS I G P W) (ho : o = 27 ∨ o = 31) (hro : ro = 19 ∨ ro = 23) (hr : RU I A ro pu) (hp : p < P) (hv : okH (A (o + 1)) p) :
    ∃ B, fX8_live o (iN p) ro (encC I A L pr ot T) = some ((), encC I B L pr ot T) ∧ frL o ro A B ∧ B (o + 1) = lvZ A pu G p (A (o + 1)) := by
  have hF' := hF
  obtain ⟨hG, hP, hW, h8, h6, h7⟩ := hF
  have e0 := c_groundsOf (A := A) (L := L) (pr := pr) (ot := ot) (T := T) hF' ho (show p < 6 by omega)
  by_cases hz : gsS (A (o + 1)) G p = 0
  · refine ⟨A, ?_, fun x _ _ _ _ => rfl, (lvZ_none hv (fun g hg => bt_z h8 hg hz)).symm⟩
    rw [hz] at e0
    simp (disch := first | omega | (simp (disch := omega) only [iN_lit, iN_add, iN_mul, iN_pred, iN_pred', iN_lt, iN_le, iN_eq, iN_nat, nlt_t, nlt_f, nle_t, nle_f, neq_t, neq_f, List.length_nil, List.length_cons, or_false, false_or, or_self, not_false_eq_true, not_true_eq_false, ↓reduceIte, if_true, if_false, Bool.false_eq_true, Nat.reduceAdd])) only [fX8_live, ↓zK ho, ↓hb_of e0, iN_lit, iN_add, iN_mul, iN_pred, iN_pred', iN_lt, iN_le, iN_eq, iN_nat, nlt_t, nlt_f, nle_t, nle_f, neq_t, neq_f, List.length_nil, List.length_cons, or_false, false_or, or_self, not_false_eq_true, not_true_eq_false, ↓reduceIte, if_true, if_false, Bool.false_eq_true, Nat.reduceAdd]
  · have hz' : ¬ gsS (A (o + 1)) G p = iN 0 := hz
    have es := fun B => c_strengthOf (I := I) (A := B) (L := L) (pr := pr) (ot := ot) (T := T) hP h6 hp
    obtain ⟨F, hf0, hf⟩ := c_fill4 (I := I) (L := L) (pr := pr) (ot := ot) (T := T) (A := u1 A (o + 2) (upd (upd (upd (A (o + 2)) 3 (bc (gsS (A (o + 1)) G p))) 5 (A 14 p)) 6 (dy7 (A (o + 1))))) ho
    have hd1 : ¬ (o + 2 = o + 3) := by omega
    have hd2 : ¬ (o + 1 = o + 3) := by omega
    have hd3 : ¬ (o + 1 = o + 2) := by omega
    have key := lp_up (fun n k (B : Nat → Nat → Int32) => fX8_live_L63 o (iN p) ro (gsS (A (o + 1)) G p) (fun h18 => fX8_live_L122 o (iN p) (fun h19 => some ((), h19)) FU (0 : Int32) h18) n (iN k) (encC I B L pr ot T)) (fun B => fX8_live_L122 o (iN p) (fun h19 => some ((), h19)) FU (0 : Int32) (encC I B L pr ot T)) (fun k B => iv63 A pu o ro G p k B) G
      (fun k B hk hi => c_live63 hF' ho hro hr (by omega) _ hk hi) (fun B hi n => by
        simp (disch := first | omega | (simp (disch := omega) only [iN_lit, iN_add, iN_mul, iN_pred, iN_pred', iN_lt, iN_le, iN_eq, iN_nat, nlt_t, nlt_f, nle_t, nle_f, neq_t, neq_f, List.length_nil, List.length_cons, or_false, false_or, or_self, not_false_eq_true, not_true_eq_false, ↓reduceIte, if_true, if_false, Bool.false_eq_true, Nat.reduceAdd])) only [fX8_live_L63, ↓zR_0 ho, ↓bK_11, ↓hb_of c_groundSize, hG, iN_lit, iN_add, iN_mul, iN_pred, iN_pred', iN_lt, iN_le, iN_eq, iN_nat, nlt_t, nlt_f, nle_t, nle_f, neq_t, neq_f, List.length_nil, List.length_cons, or_false, false_or, or_self, not_false_eq_true, not_true_eq_false, ↓reduceIte, if_true, if_false, Bool.false_eq_true, Nat.reduceAdd]) G 0 (u1 (u1 A (o + 2) (upd (upd (upd (A (o + 2)) 3 (bc (gsS (A (o + 1)) G p))) 5 (A 14 p)) 6 (dy7 (A (o + 1))))) (o + 3) F) (by omega) ⟨fun x x1 x2 x3 x4 => by rw [u1_eq, if_neg x3, u1_eq, if_neg x2], by rw [u1_eq, if_neg hd1, u1_eq, if_pos rfl]; exact ⟨rfl, rfl, rfl⟩, fun h hh => by rw [u1_eq, if_pos rfl]; exact hf0 h hh, by
        rw [u1_eq, if_neg hd2, u1_eq, if_neg hd3]
        funext j
        rw [if_neg (fun c => by have := c.2.1; have := c.1; omega)]⟩
    obtain ⟨B, ⟨k1, _, k3, k4⟩, k5⟩ := key
    have key2 := lp_up (fun n k (B : Nat → Nat → Int32) => fX8_live_L122 o (iN p) (fun h19 => some ((), h19)) n (iN k) (encC I B L pr ot T)) (fun B => some ((), encC I B L pr ot T)) (fun k B => iv122 A pu o ro G p k B) 4
      (fun k B hk hi => c_live122 ho hro (by omega) _ hk hi) (fun B hi n => by
        simp (disch := first | omega | (simp (disch := omega) only [iN_lit, iN_add, iN_mul, iN_pred, iN_pred', iN_lt, iN_le, iN_eq, iN_nat, nlt_t, nlt_f, nle_t, nle_f, neq_t, neq_f, List.length_nil, List.length_cons, or_false, false_or, or_self, not_false_eq_true, not_true_eq_false, ↓reduceIte, if_true, if_false, Bool.false_eq_true, Nat.reduceAdd])) only [fX8_live_L122, iN_lit, iN_add, iN_mul, iN_pred, iN_pred', iN_lt, iN_le, iN_eq, iN_nat, nlt_t, nlt_f, nle_t, nle_f, neq_t, neq_f, List.length_nil, List.length_cons, or_false, false_or, or_self, not_false_eq_true, not_true_eq_false, ↓reduceIte, if_true, if_false, Bool.false_eq_true, Nat.reduceAdd]) 4 0 B (by omega) ⟨k1, k3, by
        rw [k4]
        funext j
        rw [if_neg (c := 8 + p * 4 ≤ j ∧ j < 8 + p * 4 + 0) (fun c => by have := c.2; have := c.1; omega)]⟩
    obtain ⟨C, ⟨m1, _, m3⟩, m4⟩ := key2
    refine ⟨C, ?_, m1, m3⟩
    have r1 := k5 FU (by unfold FU; omega)
    have r2 := m4 FU (by unfold FU; omega)
    rw [← r2]
    refine Eq.trans ?_ r1
    unfold dy7 at hf
    unfold dy7
    simp only [iN_lit] at hf
    simp (disch := first | omega | (simp (disch := omega) only [iN_lit, iN_add, iN_mul, iN_pred, iN_pred', iN_lt, iN_le, iN_eq, iN_nat, nlt_t, nlt_f, nle_t, nle_f, neq_t, neq_f, List.length_nil, List.length_cons, or_false, false_or, or_self, not_false_eq_true, not_true_eq_false, ↓reduceIte, if_true, if_false, Bool.false_eq_true, Nat.reduceAdd])) only [fX8_live, ↓zK ho, ↓zR_0 ho, ↓zR_1 ho, ↓zR_2 ho, ↓zR_3 ho, ↓zA_1 ho, ↓zS_2 ho, ↓bK_11, ↓hb_of e0, ↓hb_of c_bitCount, ↓hb_of (es _), hz', u1_eq, u1_u1, iN_lit, iN_add, iN_mul, iN_pred, iN_pred', iN_lt, iN_le, iN_eq, iN_nat, nlt_t, nlt_f, nle_t, nle_f, neq_t, neq_f, List.length_nil, List.length_cons, or_false, false_or, or_self, not_false_eq_true, not_true_eq_false, ↓reduceIte, if_true, if_false, Bool.false_eq_true, Nat.reduceAdd]
    rw [hb_of hf]
end LW
