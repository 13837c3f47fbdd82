/-! THE MODEL over the encoded heaps: how it stands to the class's cells; what only reads -/
def fb (oa : Nat) : Nat := if oa = 46 then 0 else 29
theorem fb_46 : fb 46 = 0 := rfl
theorem fb_61 : fb 61 = 29 := rfl
/-- the model's row a stands as the class's cells Z -/
def CP (Z a : Nat → Int32) : Prop := (∀ k, k < 32 → a k = Z k) ∧ (∀ p, p < 6 → a (32 + p) = bt (hdB Z p) 8) ∧ (∀ p g, p < 6 → g < 8 → hdB Z p g = true → a (38 + 8 * p + g) = Z (32 + p * 8 + g)) ∧ a 86 = Z 80 ∧ a 87 = Z 81
/-- cells that stand right -/
def OK (G P : Nat) (Z : Nat → Int32) : Prop := nz Z ∧ (∀ g, g < 8 → 0 ≤ Z g ∧ Z g ≤ 99) ∧ (∀ p, p < 6 → okH Z p) ∧ (∀ p g, p < 6 → g < 8 → hdB Z p g = true → p < P ∧ g < G ∧ 0 ≤ Z (32 + p * 8 + g) ∧ Z (32 + p * 8 + g) ≤ 99)
def FM (A : Nat → Nat → Int32) (J : Nat → Int32) (B : Nat → Nat → Int32) (G P W : Nat) : Prop :=
  J 1 = iN G ∧ J 2 = iN P ∧ J 3 = iN W ∧ G ≤ 8 ∧ P ≤ 6 ∧ W ≤ 6 ∧ (∀ g, g < G → B 4 g = A 12 g) ∧ (∀ k, k < G * 4 → B 5 k = A 13 k) ∧ (∀ p, p < P → B 6 p = A 14 p) ∧
  (∀ w, w < W → ∃ n, n ≤ 3 ∧ A 15 w = iN n ∧ B 7 w = iN n ∧ ∀ t, t < n → ∃ k m, k < 4 ∧ m < 10 ∧ A 16 (w * 3 + t) = iN k ∧ A 18 (w * 3 + t) = iN m ∧ B 8 (9 * w + 3 * t) = iN k ∧ B 8 (9 * w + 3 * t + 2) = iN m ∧ ((A 17 (w * 3 + t) = 60 ∧ B 8 (9 * w + 3 * t + 1) = 0) ∨ (A 17 (w * 3 + t) = 62 ∧ B 8 (9 * w + 3 * t + 1) = 1)))
theorem FM.TS {A B : Nat → Nat → Int32} {J : Nat → Int32} {G P W : Nat} (h : FM A J B G P W) : TS A W := by
  intro w hw
  obtain ⟨-, -, -, -, -, -, -, -, -, ht⟩ := h
  obtain ⟨n, h1, h2, -, h3⟩ := ht w hw
  refine ⟨n, h1, h2, fun t ht => ?_⟩
  obtain ⟨k, m, h4, -, h5, -⟩ := h3 t ht
  exact ⟨k, h4, h5⟩
theorem FM.frame {A B B' : Nat → Nat → Int32} {J J' : Nat → Int32} {G P W : Nat} (h : FM A J B G P W) (hj : ∀ x, 1 ≤ x → x ≤ 3 → J' x = J x) (hb : ∀ x, 4 ≤ x → x ≤ 8 → B' x = B x) : FM A J' B' G P W := by
  unfold FM
  rw [hj 1 (by omega) (by omega), hj 2 (by omega) (by omega), hj 3 (by omega) (by omega), hb 4 (by omega) (by omega), hb 5 (by omega) (by omega), hb 6 (by omega) (by omega), hb 7 (by omega) (by omega), hb 8 (by omega) (by omega)]
  exact h
theorem FM.frameA {A A' B : Nat → Nat → Int32} {J : Nat → Int32} {G P W : Nat} (h : FM A J B G P W) (ha : ∀ x, 12 ≤ x → x ≤ 18 → A' x = A x) : FM A' J B G P W := by
  unfold FM
  rw [ha 12 (by omega) (by omega), ha 13 (by omega) (by omega), ha 14 (by omega) (by omega), ha 15 (by omega) (by omega), ha 16 (by omega) (by omega), ha 17 (by omega) (by omega), ha 18 (by omega) (by omega)]
  exact h
theorem CP.hu {Z a : Nat → Int32} {p h : Nat} (c : CP Z a) (hp : p < 6) (hh : h < 4) : a (8 + 4 * p + h) = Z (8 + p * 4 + h) := by
  rw [c.1 _ (by omega)]
  congr 1
  omega
theorem tm_lt : ∀ v m : Fin 10, (decide ((if 0 < iN v.val - iN m.val + 1 then iN v.val - iN m.val + 1 else 0) ≤ 0) = decide (v.val < m.val)) := by decide +kernel
theorem tm_gt : ∀ v m : Fin 10, (decide ((if 0 < 1 - (iN v.val - iN m.val) then 1 - (iN v.val - iN m.val) else 0) ≤ 0) = decide (m.val < v.val)) := by decide +kernel
theorem okH.of {Z : Nat → Int32} {p h : Nat} (hv : okH Z p) (hh : h < 4) : ∃ v, v < 10 ∧ Z (8 + p * 4 + h) = iN v := by
  obtain ⟨v, h1, h2⟩ := iN_of' (hv h hh).1 (show _ ≤ iN 9 from (hv h hh).2) (by decide)
  exact ⟨v, by omega, h2⟩
theorem CP.has {Z a : Nat → Int32} {p : Nat} (c : CP Z a) (hp : p < 6) {g : Nat} (hg : g < 8) : hasB (a (32 + p)) g = hdB Z p g := by
  rw [c.2.1 p hp, bt_has (Nat.le_refl 8) hg, decide_eq_true hg, Bool.true_and]
theorem OK.gs {G P : Nat} {Z : Nat → Int32} {p : Nat} (hz : OK G P Z) (h8 : G ≤ 8) (hp : p < 6) : gsS Z G p = bt (hdB Z p) 8 := by
  unfold gsS
  rw [← bt_ext 8 h8]
  refine bt_congr (fun k hk => ?_)
  cases hb : hdB Z p k with
  | false => rw [Bool.and_false]
  | true => rw [decide_eq_true (hz.2.2.2 p k hp hk hb).2.1]; rfl
section MA
variable {I A E : Nat → Nat → Int32} {L : Nat → Int64} {pr ot : Nat} {J : Nat → Int32} {B : Nat → Nat → Int32} {M : Nat → Int64} {rdv : Value} {ru : Nat} {T : PH} {G P W p g w t oa : Nat} {Z : Nat → Int32} {β : Type}
theorem maA (ha : oa = 46 ∨ oa = 61) {i : Int32} {f : Int32 → Option β} (hi : ¬ (i < 0 ∨ 88 ≤ i.toNatClampNeg)) : (h_ald .int (encC I E L pr ot (encR J B M rdv ru T)) oa i).bind f = f (B (fb oa) i.toNatClampNeg) := by
  rcases ha with rfl | rfl
  · exact brA_0 hi
  · exact brA_29 hi
theorem maS (ha : oa = 46 ∨ oa = 61) {i v : Int32} {f : PH → Option β} (hi : ¬ (i < 0 ∨ 88 ≤ i.toNatClampNeg)) : (h_ast .int (encC I E L pr ot (encR J B M rdv ru T)) oa i v).bind f = f (encC I E L pr ot (encR J (u1 B (fb oa) (upd (B (fb oa)) i.toNatClampNeg v)) M rdv ru T)) := by
  rcases ha with rfl | rfl
  · exact brS_0 hi
  · exact brS_29 hi
theorem r_in {a b c : Int32} {h : PH} : fX12_in a b c h = some ((if a < b then 0 else if c < a then 0 else 1), h) := c_within
theorem r_has {a b : Int32} {h : PH} : fX12_has a b h = some ((if ((a >>> (b &&& 31)) &&& (1 : Int32)) = (1 : Int32) then 1 else 0), h) := c_isIn
theorem in_n {a b c : Int32} {h : PH} (e : ¬ (a ≤ b ∧ b ≤ c)) : fX12_in b a c h = some (0, h) := within_n e
theorem in_y {a b c : Nat} {h : PH} (h1 : a ≤ b) (h2 : b ≤ c) (hc : c < 2147483648) : fX12_in (iN b) (iN a) (iN c) h = some (1, h) := within_y h1 h2 hc
theorem has_y {x : Int32} {g : Nat} {h : PH} (e : hasB x g = true) : fX12_has x (iN g) h = some (1, h) := by
  rw [r_has, if_pos (of_decide_eq_true e)]
theorem has_n {x : Int32} {g : Nat} {h : PH} (e : hasB x g = false) : fX12_has x (iN g) h = some (0, h) := by
  rw [r_has, if_neg (of_decide_eq_false e)]
theorem in_range {n : Nat} {x : Int32} {h : PH} (hn : n ≤ 100) : fX12_in x 0 (iN n - 1) h = some ((if 0 ≤ x ∧ x < iN n then 1 else 0), h) := by
  by_cases c : 0 ≤ x ∧ x < iN n
  · obtain ⟨k, hk, rfl⟩ := iN_of c.1 c.2 (by omega)
    rw [if_pos c]
    have e : iN n - 1 = iN (n - 1) := iN_sub (b := 1) (by omega)
    rw [e]
    exact in_y (Nat.zero_le k) (by omega) (by omega)
  · rw [if_neg c]
    refine in_n (fun d => c ⟨d.1, ?_⟩)
    have d2 := d.2
    by_cases h0 : n = 0
    · subst h0
      exfalso
      have e : iN 0 - 1 = (-1 : Int32) := by decide
      rw [e] at d2
      have d1 := d.1
      rw [Int32.le_iff_toInt_le] at d1 d2
      have e1 : (-1 : Int32).toInt = -1 := by decide
      have e2 : (0 : Int32).toInt = 0 := by decide
      omega
    · have e : iN n - 1 = iN (n - 1) := iN_sub (b := 1) (by omega)
      rw [e, Int32.le_iff_toInt_le, iN_int (by omega)] at d2
      rw [Int32.lt_iff_toInt_lt, iN_int (by omega)]
      omega
theorem isG (hM : FM A J B G P W) {x : Int32} : fX12_isGround 45 x (encC I E L pr ot (encR J B M rdv ru T)) = some ((if 0 ≤ x ∧ x < iN G then 1 else 0), (encC I E L pr ot (encR J B M rdv ru T))) := by
  unfold fX12_isGround
  rw [brG_1, hM.1, in_range (by have := hM.2.2.2.1; omega), hb_some]
  split <;> rfl
theorem isM (hM : FM A J B G P W) {x : Int32} : fX12_isMan 45 x (encC I E L pr ot (encR J B M rdv ru T)) = some ((if 0 ≤ x ∧ x < iN P then 1 else 0), (encC I E L pr ot (encR J B M rdv ru T))) := by
  unfold fX12_isMan
  rw [brG_2, hM.2.1, in_range (by have := hM.2.2.2.2.1; omega), hb_some]
  split <;> rfl
theorem isW (hM : FM A J B G P W) {x : Int32} : fX12_isWant 45 x (encC I E L pr ot (encR J B M rdv ru T)) = some ((if 0 ≤ x ∧ x < iN W then 1 else 0), (encC I E L pr ot (encR J B M rdv ru T))) := by
  unfold fX12_isWant
  rw [brG_3, hM.2.2.1, in_range (by have := hM.2.2.2.2.2.1; omega), hb_some]
  split <;> rfl
theorem rng {n k : Nat} (hk : k < n) (hn : n ≤ 100) : 0 ≤ iN k ∧ iN k < iN n := by
  rw [show (0 : Int32) = iN 0 from rfl, iN_le (by omega) (by omega), iN_lt (by omega) (by omega)]
  omega
theorem r_isGround (hM : FM A J B G P W) (hg : g < G) : fX12_isGround 45 (iN g) (encC I E L pr ot (encR J B M rdv ru T)) = some (1, (encC I E L pr ot (encR J B M rdv ru T))) := by
  rw [isG hM, if_pos (rng hg (by have := hM.2.2.2.1; omega))]
theorem r_isMan (hM : FM A J B G P W) (hp : p < P) : fX12_isMan 45 (iN p) (encC I E L pr ot (encR J B M rdv ru T)) = some (1, (encC I E L pr ot (encR J B M rdv ru T))) := by
  rw [isM hM, if_pos (rng hp (by have := hM.2.2.2.2.1; omega))]
theorem r_isWant (hM : FM A J B G P W) (hw : w < W) : fX12_isWant 45 (iN w) (encC I E L pr ot (encR J B M rdv ru T)) = some (1, (encC I E L pr ot (encR J B M rdv ru T))) := by
  rw [isW hM, if_pos (rng hw (by have := hM.2.2.2.2.2.1; omega))]
theorem r_humour (ha : oa = 46 ∨ oa = 61) (hp : p < 6) {h : Nat} (hh : h < 4) (hc : CP Z (B (fb oa))) : fX12_humour oa (iN p) (iN h) (encC I E L pr ot (encR J B M rdv ru T)) = some (Z (8 + p * 4 + h), (encC I E L pr ot (encR J B M rdv ru T))) := by
  rw [← hc.hu hp hh]
  simp (disch := first | omega | assumption | (simp (disch := omega) only [iN_lit, iN_add, iN_mul, iN_pred, iN_pred', iN_lt, iN_le, iN_eq, iN_nat, nlt_t, nlt_f, nle_t, nle_f, neq_t, neq_f, List.length_nil, List.length_cons, or_false, false_or, or_self, not_false_eq_true, not_true_eq_false, ↓reduceIte, if_true, if_false, Bool.false_eq_true, Nat.reduceAdd])) only [fX12_humour, ↓maA _, ↓hb_some, ↓bd_some, ↓letE_eq, h_z0, h_z1, h_zi0, h_zi1, iN_lit, iN_add, iN_mul, iN_pred, iN_pred', iN_lt, iN_le, iN_eq, iN_nat, nlt_t, nlt_f, nle_t, nle_f, neq_t, neq_f, List.length_nil, List.length_cons, or_false, false_or, or_self, not_false_eq_true, not_true_eq_false, ↓reduceIte, if_true, if_false, Bool.false_eq_true, Nat.reduceAdd, iN_lit, iN_add, iN_mul, iN_pred, iN_pred', iN_lt, iN_le, iN_eq, iN_nat, nlt_t, nlt_f, nle_t, nle_f, neq_t, neq_f, List.length_nil, List.length_cons, or_false, false_or, or_self, not_false_eq_true, not_true_eq_false, ↓reduceIte, if_true, if_false, Bool.false_eq_true, Nat.reduceAdd]
theorem r_isTerm (hM : FM A J B G P W) (ha : oa = 46 ∨ oa = 61) (hc : CP Z (B (fb oa))) (hp : p < 6) (hv : okH Z p) (hw : w < W) {n : Nat} (hn : B 7 w = iN n) (hn3 : n ≤ 3) (ht : t < n) : fX12_isTerm 45 oa (iN p) (iN w) (iN t) (encC I E L pr ot (encR J B M rdv ru T)) = some ((if tmB A Z p w t then 1 else 0), (encC I E L pr ot (encR J B M rdv ru T))) := by
  obtain ⟨-, -, -, h8, h6, h7, -, -, -, hT⟩ := hM
  obtain ⟨n', h1, h2, h3, h4⟩ := hT w hw
  rw [hn] at h3
  have hnn : n = n' := by rw [iN_eq (by omega) (by omega)] at h3; exact h3
  subst hnn
  obtain ⟨k, m, hk, hm, e1, e2, e3, e4, e5⟩ := h4 t ht
  obtain ⟨v, hv9, ev⟩ := hv.of hk
  have eh := r_humour (I := I) (E := E) (L := L) (pr := pr) (ot := ot) (J := J) (B := B) (M := M) (rdv := rdv) (ru := ru) (T := T) ha hp hk hc
  rw [ev] at eh
  have et : tmB A Z p w t = decide (ofB A w t (iN v) ≤ 0) := by
    unfold tmB
    rw [e1, iN_nat (by omega), ev]
  have e1' : (9 * w + 3 * t + 1) < 54 := by omega
  rcases e5 with ⟨e5, e6⟩ | ⟨e5, e6⟩
  · have et2 : tmB A Z p w t = decide (v < m) := by
      rw [et]
      unfold ofB
      rw [if_pos e5, e2]
      exact tm_lt ⟨v, hv9⟩ ⟨m, hm⟩
    rw [et2]
    simp (disch := first | omega | assumption | (simp (disch := omega) only [iN_lit, iN_add, iN_mul, iN_pred, iN_pred', iN_lt, iN_le, iN_eq, iN_nat, nlt_t, nlt_f, nle_t, nle_f, neq_t, neq_f, List.length_nil, List.length_cons, or_false, false_or, or_self, not_false_eq_true, not_true_eq_false, ↓reduceIte, if_true, if_false, Bool.false_eq_true, Nat.reduceAdd])) only [fX12_isTerm, ↓brR_8, ↓brA_8, ↓brS_8, ↓hb_of (r_humour _ _ _ _), ↓hb_some, ↓bd_some, ↓letE_eq, h_z0, h_z1, h_zi0, h_zi1, iN_lit, iN_add, iN_mul, iN_pred, iN_pred', iN_lt, iN_le, iN_eq, iN_nat, nlt_t, nlt_f, nle_t, nle_f, neq_t, neq_f, List.length_nil, List.length_cons, or_false, false_or, or_self, not_false_eq_true, not_true_eq_false, ↓reduceIte, if_true, if_false, Bool.false_eq_true, Nat.reduceAdd, e3, ↓hb_of eh, e4, e6, ev, iN_lit, iN_add, iN_mul, iN_pred, iN_pred', iN_lt, iN_le, iN_eq, iN_nat, nlt_t, nlt_f, nle_t, nle_f, neq_t, neq_f, List.length_nil, List.length_cons, or_false, false_or, or_self, not_false_eq_true, not_true_eq_false, ↓reduceIte, if_true, if_false, Bool.false_eq_true, Nat.reduceAdd]
    by_cases c : v < m
    · rw [if_neg (show ¬ m ≤ v by omega), decide_eq_true c]; rfl
    · rw [if_pos (show m ≤ v by omega), decide_eq_false c]; rfl
  · have et2 : tmB A Z p w t = decide (m < v) := by
      rw [et]
      unfold ofB
      rw [if_neg (by rw [e5]; decide), e2]
      exact tm_gt ⟨v, hv9⟩ ⟨m, hm⟩
    rw [et2]
    simp (disch := first | omega | assumption | (simp (disch := omega) only [iN_lit, iN_add, iN_mul, iN_pred, iN_pred', iN_lt, iN_le, iN_eq, iN_nat, nlt_t, nlt_f, nle_t, nle_f, neq_t, neq_f, List.length_nil, List.length_cons, or_false, false_or, or_self, not_false_eq_true, not_true_eq_false, ↓reduceIte, if_true, if_false, Bool.false_eq_true, Nat.reduceAdd])) only [fX12_isTerm, ↓brR_8, ↓brA_8, ↓brS_8, ↓hb_of (r_humour _ _ _ _), ↓hb_some, ↓bd_some, ↓letE_eq, h_z0, h_z1, h_zi0, h_zi1, iN_lit, iN_add, iN_mul, iN_pred, iN_pred', iN_lt, iN_le, iN_eq, iN_nat, nlt_t, nlt_f, nle_t, nle_f, neq_t, neq_f, List.length_nil, List.length_cons, or_false, false_or, or_self, not_false_eq_true, not_true_eq_false, ↓reduceIte, if_true, if_false, Bool.false_eq_true, Nat.reduceAdd, e3, ↓hb_of eh, e4, e6, ev, iN_lit, iN_add, iN_mul, iN_pred, iN_pred', iN_lt, iN_le, iN_eq, iN_nat, nlt_t, nlt_f, nle_t, nle_f, neq_t, neq_f, List.length_nil, List.length_cons, or_false, false_or, or_self, not_false_eq_true, not_true_eq_false, ↓reduceIte, if_true, if_false, Bool.false_eq_true, Nat.reduceAdd]
    by_cases c : m < v
    · rw [if_neg (show ¬ v ≤ m by omega), decide_eq_true c]; rfl
    · rw [if_pos (show v ≤ m by omega), decide_eq_false c]; rfl
theorem r_hasWant (hM : FM A J B G P W) (ha : oa = 46 ∨ oa = 61) (hc : CP Z (B (fb oa))) (hp : p < 6) (hv : okH Z p) (hw : w < W) : fX12_hasWant 45 oa (iN p) (iN w) (encC I E L pr ot (encR J B M rdv ru T)) = some ((if hwB A Z p w then 1 else 0), (encC I E L pr ot (encR J B M rdv ru T))) := by
  have h7 := hM.2.2.2.2.2.1
  obtain ⟨n0, hn3, hnA, hn, -⟩ := hM.2.2.2.2.2.2.2.2.2 w hw
  have en : (A 15 w).toNatClampNeg = n0 := by rw [hnA, iN_nat (by omega)]
  have key2 := lp_br (fun n k (_ : Unit) => fX12_hasWant_L3 45 oa (iN p) (iN w) (fun h1 => h_z (1 : Int32) (some ((1 : Int32), h1))) n (iN k) (encC I E L pr ot (encR J B M rdv ru T))) (fun k _ => allB (tmB A Z p w) k = true) (fun z => z = some ((if hwB A Z p w then 1 else 0), (encC I E L pr ot (encR J B M rdv ru T)))) n0 ?_ ?_ n0 0 () (by omega) rfl
  · obtain ⟨z, hz, hz2⟩ := key2
    rw [← hz]; exact hz2 FU (by unfold FU; omega)
  · intro k _ hk hi
    have e := r_isTerm (I := I) (E := E) (L := L) (pr := pr) (ot := ot) (J := J) (B := B) (M := M) (rdv := rdv) (ru := ru) (T := T) hM ha hc hp hv hw hn hn3 hk
    cases ht : tmB A Z p w k with
    | true =>
      right
      rw [ht] at e
      refine ⟨(), ?_, fun n => ?_⟩
      · show (allB (tmB A Z p w) k && tmB A Z p w k) = true
        rw [hi, ht]; rfl
      · simp (disch := first | omega | assumption | (simp (disch := omega) only [iN_lit, iN_add, iN_mul, iN_pred, iN_pred', iN_lt, iN_le, iN_eq, iN_nat, nlt_t, nlt_f, nle_t, nle_f, neq_t, neq_f, List.length_nil, List.length_cons, or_false, false_or, or_self, not_false_eq_true, not_true_eq_false, ↓reduceIte, if_true, if_false, Bool.false_eq_true, Nat.reduceAdd])) only [fX12_hasWant_L3, ↓brK, ↓brR_7, ↓brA_7, ↓brS_7, ↓hb_some, ↓bd_some, ↓letE_eq, h_z0, h_z1, h_zi0, h_zi1, ↓hb_of e, iN_lit, iN_add, iN_mul, iN_pred, iN_pred', iN_lt, iN_le, iN_eq, iN_nat, nlt_t, nlt_f, nle_t, nle_f, neq_t, neq_f, List.length_nil, List.length_cons, or_false, false_or, or_self, not_false_eq_true, not_true_eq_false, ↓reduceIte, if_true, if_false, Bool.false_eq_true, Nat.reduceAdd, hn, ht, iN_lit, iN_add, iN_mul, iN_pred, iN_pred', iN_lt, iN_le, iN_eq, iN_nat, nlt_t, nlt_f, nle_t, nle_f, neq_t, neq_f, List.length_nil, List.length_cons, or_false, false_or, or_self, not_false_eq_true, not_true_eq_false, ↓reduceIte, if_true, if_false, Bool.false_eq_true, Nat.reduceAdd]
    | false =>
      left
      rw [ht] at e
      refine ⟨_, rfl, fun n => ?_⟩
      have : hwB A Z p w = false := by
        unfold hwB; rw [en]
        exact allB_lt hk ht
      rw [this]
      simp (disch := first | omega | assumption | (simp (disch := omega) only [iN_lit, iN_add, iN_mul, iN_pred, iN_pred', iN_lt, iN_le, iN_eq, iN_nat, nlt_t, nlt_f, nle_t, nle_f, neq_t, neq_f, List.length_nil, List.length_cons, or_false, false_or, or_self, not_false_eq_true, not_true_eq_false, ↓reduceIte, if_true, if_false, Bool.false_eq_true, Nat.reduceAdd])) only [fX12_hasWant_L3, ↓brK, ↓brR_7, ↓brA_7, ↓brS_7, ↓hb_some, ↓bd_some, ↓letE_eq, h_z0, h_z1, h_zi0, h_zi1, ↓hb_of e, iN_lit, iN_add, iN_mul, iN_pred, iN_pred', iN_lt, iN_le, iN_eq, iN_nat, nlt_t, nlt_f, nle_t, nle_f, neq_t, neq_f, List.length_nil, List.length_cons, or_false, false_or, or_self, not_false_eq_true, not_true_eq_false, ↓reduceIte, if_true, if_false, Bool.false_eq_true, Nat.reduceAdd, hn, ht, iN_lit, iN_add, iN_mul, iN_pred, iN_pred', iN_lt, iN_le, iN_eq, iN_nat, nlt_t, nlt_f, nle_t, nle_f, neq_t, neq_f, List.length_nil, List.length_cons, or_false, false_or, or_self, not_false_eq_true, not_true_eq_false, ↓reduceIte, if_true, if_false, Bool.false_eq_true, Nat.reduceAdd]
  · intro _ hi
    refine ⟨_, rfl, fun n => ?_⟩
    have : hwB A Z p w = true := by unfold hwB; rw [en]; exact hi
    rw [this]
    simp (disch := first | omega | assumption | (simp (disch := omega) only [iN_lit, iN_add, iN_mul, iN_pred, iN_pred', iN_lt, iN_le, iN_eq, iN_nat, nlt_t, nlt_f, nle_t, nle_f, neq_t, neq_f, List.length_nil, List.length_cons, or_false, false_or, or_self, not_false_eq_true, not_true_eq_false, ↓reduceIte, if_true, if_false, Bool.false_eq_true, Nat.reduceAdd])) only [fX12_hasWant_L3, ↓brK, ↓brR_7, ↓brA_7, ↓brS_7, ↓hb_of (r_isTerm _ _ _ _ _ _ _ _ _), ↓hb_some, ↓bd_some, ↓letE_eq, h_z0, h_z1, h_zi0, h_zi1, iN_lit, iN_add, iN_mul, iN_pred, iN_pred', iN_lt, iN_le, iN_eq, iN_nat, nlt_t, nlt_f, nle_t, nle_f, neq_t, neq_f, List.length_nil, List.length_cons, or_false, false_or, or_self, not_false_eq_true, not_true_eq_false, ↓reduceIte, if_true, if_false, Bool.false_eq_true, Nat.reduceAdd, hn, iN_lit, iN_add, iN_mul, iN_pred, iN_pred', iN_lt, iN_le, iN_eq, iN_nat, nlt_t, nlt_f, nle_t, nle_f, neq_t, neq_f, List.length_nil, List.length_cons, or_false, false_or, or_self, not_false_eq_true, not_true_eq_false, ↓reduceIte, if_true, if_false, Bool.false_eq_true, Nat.reduceAdd]
theorem r_had (hM : FM A J B G P W) (ha : oa = 46 ∨ oa = 61) (hc : CP Z (B (fb oa))) (hp : p < 6) (hv : okH Z p) : fX12_had 45 oa (iN p) (encC I E L pr ot (encR J B M rdv ru T)) = some (waS A Z W p, (encC I E L pr ot (encR J B M rdv ru T))) := by
  have hW := hM.2.2.1
  have h7 := hM.2.2.2.2.2.1
  refine lp_det (fun n k s => fX12_had_L5 45 oa (iN p) (fun x1 h2 => some (x1, h2)) n s (iN k) (encC I E L pr ot (encR J B M rdv ru T))) (fun s => some (s, (encC I E L pr ot (encR J B M rdv ru T)))) (bt (hwB A Z p)) W ?_ ?_ FU (by unfold FU; omega)
  · intro k hk n
    have e1 := r_hasWant (I := I) (E := E) (L := L) (pr := pr) (ot := ot) (J := J) (B := B) (M := M) (rdv := rdv) (ru := ru) (T := T) hM ha hc hp hv hk
    have e2 : bt (hwB A Z p) (k + 1) = bt (hwB A Z p) k ||| (if hwB A Z p k then (1 : Int32) <<< (iN k &&& 31) else 0) := rfl
    cases hb : hwB A Z p k
    all_goals
      rw [hb] at e1 e2
      rw [e2]
      simp (disch := first | omega | assumption | (simp (disch := omega) only [iN_lit, iN_add, iN_mul, iN_pred, iN_pred', iN_lt, iN_le, iN_eq, iN_nat, nlt_t, nlt_f, nle_t, nle_f, neq_t, neq_f, List.length_nil, List.length_cons, or_false, false_or, or_self, not_false_eq_true, not_true_eq_false, ↓reduceIte, if_true, if_false, Bool.false_eq_true, Nat.reduceAdd])) only [fX12_had_L5, ↓brK, ↓brG_3, fX12_had_J34_5, ↓hb_some, ↓bd_some, ↓letE_eq, h_z0, h_z1, h_zi0, h_zi1, ↓hb_of e1, iN_lit, iN_add, iN_mul, iN_pred, iN_pred', iN_lt, iN_le, iN_eq, iN_nat, nlt_t, nlt_f, nle_t, nle_f, neq_t, neq_f, List.length_nil, List.length_cons, or_false, false_or, or_self, not_false_eq_true, not_true_eq_false, ↓reduceIte, if_true, if_false, Bool.false_eq_true, Nat.reduceAdd, hW, iN_lit, iN_add, iN_mul, iN_pred, iN_pred', iN_lt, iN_le, iN_eq, iN_nat, nlt_t, nlt_f, nle_t, nle_f, neq_t, neq_f, List.length_nil, List.length_cons, or_false, false_or, or_self, not_false_eq_true, not_true_eq_false, ↓reduceIte, if_true, if_false, Bool.false_eq_true, Nat.reduceAdd]
  · intro n
    simp (disch := first | omega | assumption | (simp (disch := omega) only [iN_lit, iN_add, iN_mul, iN_pred, iN_pred', iN_lt, iN_le, iN_eq, iN_nat, nlt_t, nlt_f, nle_t, nle_f, neq_t, neq_f, List.length_nil, List.length_cons, or_false, false_or, or_self, not_false_eq_true, not_true_eq_false, ↓reduceIte, if_true, if_false, Bool.false_eq_true, Nat.reduceAdd])) only [fX12_had_L5, ↓brK, ↓brG_3, fX12_had_J34_5, ↓hb_of (r_hasWant _ _ _ _ _ _), ↓hb_some, ↓bd_some, ↓letE_eq, h_z0, h_z1, h_zi0, h_zi1, iN_lit, iN_add, iN_mul, iN_pred, iN_pred', iN_lt, iN_le, iN_eq, iN_nat, nlt_t, nlt_f, nle_t, nle_f, neq_t, neq_f, List.length_nil, List.length_cons, or_false, false_or, or_self, not_false_eq_true, not_true_eq_false, ↓reduceIte, if_true, if_false, Bool.false_eq_true, Nat.reduceAdd, hW, iN_lit, iN_add, iN_mul, iN_pred, iN_pred', iN_lt, iN_le, iN_eq, iN_nat, nlt_t, nlt_f, nle_t, nle_f, neq_t, neq_f, List.length_nil, List.length_cons, or_false, false_or, or_self, not_false_eq_true, not_true_eq_false, ↓reduceIte, if_true, if_false, Bool.false_eq_true, Nat.reduceAdd]
theorem r_hadByAll (hM : FM A J B G P W) (ha : oa = 46 ∨ oa = 61) (hc : CP Z (B (fb oa))) (hv : ∀ p, p < 6 → okH Z p) : fX12_hadByAll 45 oa (encC I E L pr ot (encR J B M rdv ru T)) = some (sm (fun p => bc (waS A Z W p)) P, (encC I E L pr ot (encR J B M rdv ru T))) := by
  have hP := hM.2.1
  have h6 := hM.2.2.2.2.1
  refine lp_det (fun n k s => fX12_hadByAll_L4 45 oa (fun x1 h2 => some (x1, h2)) n s (iN k) (encC I E L pr ot (encR J B M rdv ru T))) (fun s => some (s, (encC I E L pr ot (encR J B M rdv ru T)))) (sm (fun p => bc (waS A Z W p))) P ?_ ?_ FU (by unfold FU; omega)
  · intro k hk n
    have e1 := r_had (I := I) (E := E) (L := L) (pr := pr) (ot := ot) (J := J) (B := B) (M := M) (rdv := rdv) (ru := ru) (T := T) hM ha hc (show k < 6 by omega) (hv k (by omega))
    have e2 : sm (fun p => bc (waS A Z W p)) (k + 1) = sm (fun p => bc (waS A Z W p)) k + bc (waS A Z W k) := rfl
    rw [e2]
    simp (disch := first | omega | assumption | (simp (disch := omega) only [iN_lit, iN_add, iN_mul, iN_pred, iN_pred', iN_lt, iN_le, iN_eq, iN_nat, nlt_t, nlt_f, nle_t, nle_f, neq_t, neq_f, List.length_nil, List.length_cons, or_false, false_or, or_self, not_false_eq_true, not_true_eq_false, ↓reduceIte, if_true, if_false, Bool.false_eq_true, Nat.reduceAdd])) only [fX12_hadByAll_L4, ↓brK, ↓brG_2, ↓hb_of (r_had _ _ _ _ _), ↓hb_of (c_bitCount), ↓hb_some, ↓bd_some, ↓letE_eq, h_z0, h_z1, h_zi0, h_zi1, ↓hb_of e1, ↓hb_of c_bitCount, iN_lit, iN_add, iN_mul, iN_pred, iN_pred', iN_lt, iN_le, iN_eq, iN_nat, nlt_t, nlt_f, nle_t, nle_f, neq_t, neq_f, List.length_nil, List.length_cons, or_false, false_or, or_self, not_false_eq_true, not_true_eq_false, ↓reduceIte, if_true, if_false, Bool.false_eq_true, Nat.reduceAdd, hP, iN_lit, iN_add, iN_mul, iN_pred, iN_pred', iN_lt, iN_le, iN_eq, iN_nat, nlt_t, nlt_f, nle_t, nle_f, neq_t, neq_f, List.length_nil, List.length_cons, or_false, false_or, or_self, not_false_eq_true, not_true_eq_false, ↓reduceIte, if_true, if_false, Bool.false_eq_true, Nat.reduceAdd]
  · intro n
    simp (disch := first | omega | assumption | (simp (disch := omega) only [iN_lit, iN_add, iN_mul, iN_pred, iN_pred', iN_lt, iN_le, iN_eq, iN_nat, nlt_t, nlt_f, nle_t, nle_f, neq_t, neq_f, List.length_nil, List.length_cons, or_false, false_or, or_self, not_false_eq_true, not_true_eq_false, ↓reduceIte, if_true, if_false, Bool.false_eq_true, Nat.reduceAdd])) only [fX12_hadByAll_L4, ↓brK, ↓brG_2, ↓hb_of (r_had _ _ _ _ _), ↓hb_of (c_bitCount), ↓hb_some, ↓bd_some, ↓letE_eq, h_z0, h_z1, h_zi0, h_zi1, iN_lit, iN_add, iN_mul, iN_pred, iN_pred', iN_lt, iN_le, iN_eq, iN_nat, nlt_t, nlt_f, nle_t, nle_f, neq_t, neq_f, List.length_nil, List.length_cons, or_false, false_or, or_self, not_false_eq_true, not_true_eq_false, ↓reduceIte, if_true, if_false, Bool.false_eq_true, Nat.reduceAdd, hP, iN_lit, iN_add, iN_mul, iN_pred, iN_pred', iN_lt, iN_le, iN_eq, iN_nat, nlt_t, nlt_f, nle_t, nle_f, neq_t, neq_f, List.length_nil, List.length_cons, or_false, false_or, or_self, not_false_eq_true, not_true_eq_false, ↓reduceIte, if_true, if_false, Bool.false_eq_true, Nat.reduceAdd]
theorem r_humoursOfAll (hM : FM A J B G P W) (ha : oa = 46 ∨ oa = 61) (hc : CP Z (B (fb oa))) : fX12_humoursOfAll 45 oa (encC I E L pr ot (encR J B M rdv ru T)) = some (huS Z P, (encC I E L pr ot (encR J B M rdv ru T))) := by
  have hP := hM.2.1
  have h6 := hM.2.2.2.2.1
  refine lp_det (fun n k s => fX12_humoursOfAll_L4 45 oa (fun x1 h2 => some (x1, h2)) n s (iN k) (encC I E L pr ot (encR J B M rdv ru T))) (fun s => some (s, (encC I E L pr ot (encR J B M rdv ru T)))) (sm (fun k => Z (8 + k))) (P * 4) ?_ ?_ FU (by unfold FU; omega)
  · intro k hk n
    have e2 : sm (fun k => Z (8 + k)) (k + 1) = sm (fun k => Z (8 + k)) k + Z (8 + k) := rfl
    rw [e2, ← hc.1 (8 + k) (by omega)]
    simp (disch := first | omega | assumption | (simp (disch := omega) only [iN_lit, iN_add, iN_mul, iN_pred, iN_pred', iN_lt, iN_le, iN_eq, iN_nat, nlt_t, nlt_f, nle_t, nle_f, neq_t, neq_f, List.length_nil, List.length_cons, or_false, false_or, or_self, not_false_eq_true, not_true_eq_false, ↓reduceIte, if_true, if_false, Bool.false_eq_true, Nat.reduceAdd])) only [fX12_humoursOfAll_L4, ↓brG_2, ↓maA _, ↓hb_some, ↓bd_some, ↓letE_eq, h_z0, h_z1, h_zi0, h_zi1, iN_lit, iN_add, iN_mul, iN_pred, iN_pred', iN_lt, iN_le, iN_eq, iN_nat, nlt_t, nlt_f, nle_t, nle_f, neq_t, neq_f, List.length_nil, List.length_cons, or_false, false_or, or_self, not_false_eq_true, not_true_eq_false, ↓reduceIte, if_true, if_false, Bool.false_eq_true, Nat.reduceAdd, hP, iN_lit, iN_add, iN_mul, iN_pred, iN_pred', iN_lt, iN_le, iN_eq, iN_nat, nlt_t, nlt_f, nle_t, nle_f, neq_t, neq_f, List.length_nil, List.length_cons, or_false, false_or, or_self, not_false_eq_true, not_true_eq_false, ↓reduceIte, if_true, if_false, Bool.false_eq_true, Nat.reduceAdd]
  · intro n
    simp (disch := first | omega | assumption | (simp (disch := omega) only [iN_lit, iN_add, iN_mul, iN_pred, iN_pred', iN_lt, iN_le, iN_eq, iN_nat, nlt_t, nlt_f, nle_t, nle_f, neq_t, neq_f, List.length_nil, List.length_cons, or_false, false_or, or_self, not_false_eq_true, not_true_eq_false, ↓reduceIte, if_true, if_false, Bool.false_eq_true, Nat.reduceAdd])) only [fX12_humoursOfAll_L4, ↓brG_2, ↓maA _, ↓hb_some, ↓bd_some, ↓letE_eq, h_z0, h_z1, h_zi0, h_zi1, iN_lit, iN_add, iN_mul, iN_pred, iN_pred', iN_lt, iN_le, iN_eq, iN_nat, nlt_t, nlt_f, nle_t, nle_f, neq_t, neq_f, List.length_nil, List.length_cons, or_false, false_or, or_self, not_false_eq_true, not_true_eq_false, ↓reduceIte, if_true, if_false, Bool.false_eq_true, Nat.reduceAdd, hP, iN_lit, iN_add, iN_mul, iN_pred, iN_pred', iN_lt, iN_le, iN_eq, iN_nat, nlt_t, nlt_f, nle_t, nle_f, neq_t, neq_f, List.length_nil, List.length_cons, or_false, false_or, or_self, not_false_eq_true, not_true_eq_false, ↓reduceIte, if_true, if_false, Bool.false_eq_true, Nat.reduceAdd]
theorem r_heldByAll (hM : FM A J B G P W) (ha : oa = 46 ∨ oa = 61) (hc : CP Z (B (fb oa))) (hz : OK G P Z) : fX12_heldByAll 45 oa (encC I E L pr ot (encR J B M rdv ru T)) = some (sm (fun p => bc (gsS Z G p)) P, (encC I E L pr ot (encR J B M rdv ru T))) := by
  have hP := hM.2.1
  have h6 := hM.2.2.2.2.1
  have h8 := hM.2.2.2.1
  refine lp_det (fun n k s => fX12_heldByAll_L4 45 oa (fun x1 h2 => some (x1, h2)) n s (iN k) (encC I E L pr ot (encR J B M rdv ru T))) (fun s => some (s, (encC I E L pr ot (encR J B M rdv ru T)))) (sm (fun p => bc (gsS Z G p))) P ?_ ?_ FU (by unfold FU; omega)
  · intro k hk n
    have e2 : sm (fun p => bc (gsS Z G p)) (k + 1) = sm (fun p => bc (gsS Z G p)) k + bc (gsS Z G k) := rfl
    rw [e2, hz.gs h8 (by omega), ← hc.2.1 k (by omega)]
    simp (disch := first | omega | assumption | (simp (disch := omega) only [iN_lit, iN_add, iN_mul, iN_pred, iN_pred', iN_lt, iN_le, iN_eq, iN_nat, nlt_t, nlt_f, nle_t, nle_f, neq_t, neq_f, List.length_nil, List.length_cons, or_false, false_or, or_self, not_false_eq_true, not_true_eq_false, ↓reduceIte, if_true, if_false, Bool.false_eq_true, Nat.reduceAdd])) only [fX12_heldByAll_L4, ↓brG_2, ↓hb_of (c_bitCount), ↓maA _, ↓hb_some, ↓bd_some, ↓letE_eq, h_z0, h_z1, h_zi0, h_zi1, ↓hb_of c_bitCount, iN_lit, iN_add, iN_mul, iN_pred, iN_pred', iN_lt, iN_le, iN_eq, iN_nat, nlt_t, nlt_f, nle_t, nle_f, neq_t, neq_f, List.length_nil, List.length_cons, or_false, false_or, or_self, not_false_eq_true, not_true_eq_false, ↓reduceIte, if_true, if_false, Bool.false_eq_true, Nat.reduceAdd, hP, iN_lit, iN_add, iN_mul, iN_pred, iN_pred', iN_lt, iN_le, iN_eq, iN_nat, nlt_t, nlt_f, nle_t, nle_f, neq_t, neq_f, List.length_nil, List.length_cons, or_false, false_or, or_self, not_false_eq_true, not_true_eq_false, ↓reduceIte, if_true, if_false, Bool.false_eq_true, Nat.reduceAdd]
  · intro n
    simp (disch := first | omega | assumption | (simp (disch := omega) only [iN_lit, iN_add, iN_mul, iN_pred, iN_pred', iN_lt, iN_le, iN_eq, iN_nat, nlt_t, nlt_f, nle_t, nle_f, neq_t, neq_f, List.length_nil, List.length_cons, or_false, false_or, or_self, not_false_eq_true, not_true_eq_false, ↓reduceIte, if_true, if_false, Bool.false_eq_true, Nat.reduceAdd])) only [fX12_heldByAll_L4, ↓brG_2, ↓hb_of (c_bitCount), ↓maA _, ↓hb_some, ↓bd_some, ↓letE_eq, h_z0, h_z1, h_zi0, h_zi1, iN_lit, iN_add, iN_mul, iN_pred, iN_pred', iN_lt, iN_le, iN_eq, iN_nat, nlt_t, nlt_f, nle_t, nle_f, neq_t, neq_f, List.length_nil, List.length_cons, or_false, false_or, or_self, not_false_eq_true, not_true_eq_false, ↓reduceIte, if_true, if_false, Bool.false_eq_true, Nat.reduceAdd, hP, iN_lit, iN_add, iN_mul, iN_pred, iN_pred', iN_lt, iN_le, iN_eq, iN_nat, nlt_t, nlt_f, nle_t, nle_f, neq_t, neq_f, List.length_nil, List.length_cons, or_false, false_or, or_self, not_false_eq_true, not_true_eq_false, ↓reduceIte, if_true, if_false, Bool.false_eq_true, Nat.reduceAdd]
theorem r_holders (hM : FM A J B G P W) (hc : CP Z (B 0)) (hg : g < 8) : fX12_holders 45 (iN g) (encC I E L pr ot (encR J B M rdv ru T)) = some (hoS Z P g, (encC I E L pr ot (encR J B M rdv ru T))) := by
  have hP := hM.2.1
  have h6 := hM.2.2.2.2.1
  refine lp_det (fun n k s => fX12_holders_L4 45 (iN g) (fun x1 h2 => some (x1, h2)) n s (iN k) (encC I E L pr ot (encR J B M rdv ru T))) (fun s => some (s, (encC I E L pr ot (encR J B M rdv ru T)))) (bt (fun p => hdB Z p g)) P ?_ ?_ FU (by unfold FU; omega)
  · intro k hk n
    have e2 : bt (fun p => hdB Z p g) (k + 1) = bt (fun p => hdB Z p g) k ||| (if hdB Z k g then (1 : Int32) <<< (iN k &&& 31) else 0) := rfl
    have e1 := hc.has (show k < 6 by omega) hg
    cases hb : hdB Z k g
    · rw [hb] at e1 e2
      rw [e2]
      simp (disch := first | omega | assumption | (simp (disch := omega) only [iN_lit, iN_add, iN_mul, iN_pred, iN_pred', iN_lt, iN_le, iN_eq, iN_nat, nlt_t, nlt_f, nle_t, nle_f, neq_t, neq_f, List.length_nil, List.length_cons, or_false, false_or, or_self, not_false_eq_true, not_true_eq_false, ↓reduceIte, if_true, if_false, Bool.false_eq_true, Nat.reduceAdd])) only [fX12_holders_L4, ↓brR_0, ↓brA_0, ↓brS_0, ↓brG_2, fX12_holders_J36_4, ↓hb_of (has_y _), ↓hb_of (has_n _), ↓hb_some, ↓bd_some, ↓letE_eq, h_z0, h_z1, h_zi0, h_zi1, ↓hb_of (has_n e1), iN_lit, iN_add, iN_mul, iN_pred, iN_pred', iN_lt, iN_le, iN_eq, iN_nat, nlt_t, nlt_f, nle_t, nle_f, neq_t, neq_f, List.length_nil, List.length_cons, or_false, false_or, or_self, not_false_eq_true, not_true_eq_false, ↓reduceIte, if_true, if_false, Bool.false_eq_true, Nat.reduceAdd, hP, iN_lit, iN_add, iN_mul, iN_pred, iN_pred', iN_lt, iN_le, iN_eq, iN_nat, nlt_t, nlt_f, nle_t, nle_f, neq_t, neq_f, List.length_nil, List.length_cons, or_false, false_or, or_self, not_false_eq_true, not_true_eq_false, ↓reduceIte, if_true, if_false, Bool.false_eq_true, Nat.reduceAdd]
    · rw [hb] at e1 e2
      rw [e2]
      simp (disch := first | omega | assumption | (simp (disch := omega) only [iN_lit, iN_add, iN_mul, iN_pred, iN_pred', iN_lt, iN_le, iN_eq, iN_nat, nlt_t, nlt_f, nle_t, nle_f, neq_t, neq_f, List.length_nil, List.length_cons, or_false, false_or, or_self, not_false_eq_true, not_true_eq_false, ↓reduceIte, if_true, if_false, Bool.false_eq_true, Nat.reduceAdd])) only [fX12_holders_L4, ↓brR_0, ↓brA_0, ↓brS_0, ↓brG_2, fX12_holders_J36_4, ↓hb_of (has_y _), ↓hb_of (has_n _), ↓hb_some, ↓bd_some, ↓letE_eq, h_z0, h_z1, h_zi0, h_zi1, ↓hb_of (has_y e1), iN_lit, iN_add, iN_mul, iN_pred, iN_pred', iN_lt, iN_le, iN_eq, iN_nat, nlt_t, nlt_f, nle_t, nle_f, neq_t, neq_f, List.length_nil, List.length_cons, or_false, false_or, or_self, not_false_eq_true, not_true_eq_false, ↓reduceIte, if_true, if_false, Bool.false_eq_true, Nat.reduceAdd, hP, iN_lit, iN_add, iN_mul, iN_pred, iN_pred', iN_lt, iN_le, iN_eq, iN_nat, nlt_t, nlt_f, nle_t, nle_f, neq_t, neq_f, List.length_nil, List.length_cons, or_false, false_or, or_self, not_false_eq_true, not_true_eq_false, ↓reduceIte, if_true, if_false, Bool.false_eq_true, Nat.reduceAdd]
  · intro n
    simp (disch := first | omega | assumption | (simp (disch := omega) only [iN_lit, iN_add, iN_mul, iN_pred, iN_pred', iN_lt, iN_le, iN_eq, iN_nat, nlt_t, nlt_f, nle_t, nle_f, neq_t, neq_f, List.length_nil, List.length_cons, or_false, false_or, or_self, not_false_eq_true, not_true_eq_false, ↓reduceIte, if_true, if_false, Bool.false_eq_true, Nat.reduceAdd])) only [fX12_holders_L4, ↓brR_0, ↓brA_0, ↓brS_0, ↓brG_2, fX12_holders_J36_4, ↓hb_of (has_y _), ↓hb_of (has_n _), ↓hb_some, ↓bd_some, ↓letE_eq, h_z0, h_z1, h_zi0, h_zi1, iN_lit, iN_add, iN_mul, iN_pred, iN_pred', iN_lt, iN_le, iN_eq, iN_nat, nlt_t, nlt_f, nle_t, nle_f, neq_t, neq_f, List.length_nil, List.length_cons, or_false, false_or, or_self, not_false_eq_true, not_true_eq_false, ↓reduceIte, if_true, if_false, Bool.false_eq_true, Nat.reduceAdd, hP, iN_lit, iN_add, iN_mul, iN_pred, iN_pred', iN_lt, iN_le, iN_eq, iN_nat, nlt_t, nlt_f, nle_t, nle_f, neq_t, neq_f, List.length_nil, List.length_cons, or_false, false_or, or_self, not_false_eq_true, not_true_eq_false, ↓reduceIte, if_true, if_false, Bool.false_eq_true, Nat.reduceAdd]
theorem r_stock (hM : FM A J B G P W) (hc : CP Z (B 0)) : fX12_stock 45 (encC I E L pr ot (encR J B M rdv ru T)) = some (sm Z G, (encC I E L pr ot (encR J B M rdv ru T))) := by
  have hG := hM.1
  have h8 := hM.2.2.2.1
  refine lp_det (fun n k s => fX12_stock_L4 45 (fun x1 h2 => some (x1, h2)) n s (iN k) (encC I E L pr ot (encR J B M rdv ru T))) (fun s => some (s, (encC I E L pr ot (encR J B M rdv ru T)))) (sm Z) G ?_ ?_ FU (by unfold FU; omega)
  · intro k hk n
    have e2 : sm Z (k + 1) = sm Z k + Z k := rfl
    rw [e2, ← hc.1 k (by omega)]
    simp (disch := first | omega | assumption | (simp (disch := omega) only [iN_lit, iN_add, iN_mul, iN_pred, iN_pred', iN_lt, iN_le, iN_eq, iN_nat, nlt_t, nlt_f, nle_t, nle_f, neq_t, neq_f, List.length_nil, List.length_cons, or_false, false_or, or_self, not_false_eq_true, not_true_eq_false, ↓reduceIte, if_true, if_false, Bool.false_eq_true, Nat.reduceAdd])) only [fX12_stock_L4, ↓brR_0, ↓brA_0, ↓brS_0, ↓brG_1, ↓hb_some, ↓bd_some, ↓letE_eq, h_z0, h_z1, h_zi0, h_zi1, iN_lit, iN_add, iN_mul, iN_pred, iN_pred', iN_lt, iN_le, iN_eq, iN_nat, nlt_t, nlt_f, nle_t, nle_f, neq_t, neq_f, List.length_nil, List.length_cons, or_false, false_or, or_self, not_false_eq_true, not_true_eq_false, ↓reduceIte, if_true, if_false, Bool.false_eq_true, Nat.reduceAdd, hG, iN_lit, iN_add, iN_mul, iN_pred, iN_pred', iN_lt, iN_le, iN_eq, iN_nat, nlt_t, nlt_f, nle_t, nle_f, neq_t, neq_f, List.length_nil, List.length_cons, or_false, false_or, or_self, not_false_eq_true, not_true_eq_false, ↓reduceIte, if_true, if_false, Bool.false_eq_true, Nat.reduceAdd]
  · intro n
    simp (disch := first | omega | assumption | (simp (disch := omega) only [iN_lit, iN_add, iN_mul, iN_pred, iN_pred', iN_lt, iN_le, iN_eq, iN_nat, nlt_t, nlt_f, nle_t, nle_f, neq_t, neq_f, List.length_nil, List.length_cons, or_false, false_or, or_self, not_false_eq_true, not_true_eq_false, ↓reduceIte, if_true, if_false, Bool.false_eq_true, Nat.reduceAdd])) only [fX12_stock_L4, ↓brR_0, ↓brA_0, ↓brS_0, ↓brG_1, ↓hb_some, ↓bd_some, ↓letE_eq, h_z0, h_z1, h_zi0, h_zi1, iN_lit, iN_add, iN_mul, iN_pred, iN_pred', iN_lt, iN_le, iN_eq, iN_nat, nlt_t, nlt_f, nle_t, nle_f, neq_t, neq_f, List.length_nil, List.length_cons, or_false, false_or, or_self, not_false_eq_true, not_true_eq_false, ↓reduceIte, if_true, if_false, Bool.false_eq_true, Nat.reduceAdd, hG, iN_lit, iN_add, iN_mul, iN_pred, iN_pred', iN_lt, iN_le, iN_eq, iN_nat, nlt_t, nlt_f, nle_t, nle_f, neq_t, neq_f, List.length_nil, List.length_cons, or_false, false_or, or_self, not_false_eq_true, not_true_eq_false, ↓reduceIte, if_true, if_false, Bool.false_eq_true, Nat.reduceAdd]
end MA
