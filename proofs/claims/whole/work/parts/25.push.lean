/-! PUSH of a RULE that is laid out: a stack of numbers -/
def outc (w a b : Int32) : Int32 := if w = 42 then a * b else if w = 43 then a + b else if w = 45 then a - b else if w = 60 then (if b ≤ a then 0 else 1) else if w = 61 then (if a = b then 1 else 0) else if w = 62 then (if a ≤ b then 0 else 1) else if b = 0 then 0 else a / b
theorem c_outcome {w a b : Int32} {h : PH} : fX6_outcome w a b h = some (outc w a b, h) := by
  unfold fX6_outcome outc
  repeat' split
  all_goals first | rfl | contradiction
/-- a thing: a number, or a letter's -/
def thg (ft : Nat → Int32) (w : Int32) : Int32 := if w - 1000 < 0 then w else if (7 : Int32) ≤ w - 1000 then w else ft (w - 1000).toNatClampNeg
def lStep (ft : Nat → Int32) (w : Int32) (st : List Int32) : List Int32 :=
  if w < 0 then
    (match st with
      | [] => []
      | [a] => if w = -256 then [-a] else [a]
      | b :: a :: r => if w = -256 then -b :: a :: r else outc (-w) a b :: r)
  else thg ft w :: st
def evS (ft : Nat → Int32) (S : Nat → Int32) : Nat → List Int32
  | 0 => []
  | k + 1 => lStep ft (S k) (evS ft S k)
theorem lStep_len {ft : Nat → Int32} {w : Int32} {st : List Int32} : (lStep ft w st).length ≤ st.length + 1 := by
  unfold lStep
  split
  · split
    · exact Nat.zero_le _
    · split <;> simp
    · split <;> simp
  · simp
theorem evS_len {ft S : Nat → Int32} : ∀ k, (evS ft S k).length ≤ k
  | 0 => Nat.le_refl _
  | k + 1 => Nat.le_trans lStep_len (Nat.succ_le_succ (evS_len k))
/-- the stack lies in the array, the deepest first -/
def stk (V : Nat → Int32) : List Int32 → Prop
  | [] => True
  | a :: r => V r.length = a ∧ stk V r
theorem stk_upd {V : Nat → Int32} {k : Nat} {v : Int32} : ∀ {st : List Int32}, st.length ≤ k → stk V st → stk (upd V k v) st
  | [], _, _ => trivial
  | a :: r, hl, h => by
    have hl' : r.length + 1 ≤ k := hl
    refine ⟨?_, stk_upd (by omega) h.2⟩
    unfold upd
    rw [if_neg (by omega)]
    exact h.1
theorem stk_push {V : Nat → Int32} {v : Int32} {st : List Int32} (h : stk V st) : stk (upd V st.length v) (v :: st) := by
  refine ⟨?_, stk_upd (Nat.le_refl _) h⟩
  unfold upd
  rw [if_pos rfl]
def clS (v : Int32) : Int32 := if (-99 : Int32) ≤ v then (if v ≤ 99 then v else 99) else -99
/-- the rule at ro pushes by pu -/
def RU (I A : Nat → Nat → Int32) (ro : Nat) (pu : (Nat → Int32) → Int32) : Prop :=
  (∀ ft ft', (∀ k, k < 7 → ft k = ft' k) → pu ft = pu ft') ∧
  ∃ n, n ≤ 40 ∧ I ro 4 = iN n ∧ ((n = 0 ∧ ∀ ft, pu ft = if ft 1 ≤ ft 0 then (if ft 0 ≤ ft 1 then 0 else -1) else 1) ∨ (0 < n ∧ ∀ ft, ∃ v, evS ft (A (ro + 1)) n = [v] ∧ pu ft = clS v))
theorem n256 : (-iN 256 < iN 0) = True := eq_true (by decide)
section PUSH
variable {I A : Nat → Nat → Int32} {L : Nat → Int64} {pr ot : Nat} {T : PH} {o ro : Nat} {pu : (Nat → Int32) → Int32}
theorem upd_idem {V : Nat → Int32} {k : Nat} : upd V k (V k) = V := by
  funext i
  unfold upd
  split
  · rename_i h; rw [h]
  · rfl
theorem u1_self {F : Nat → Nat → Int32} {o : Nat} : u1 F o (F o) = F := by
  funext i
  unfold u1
  split
  · rename_i h; rw [h]
  · rfl
theorem u1_u1 {α : Type} {F : Nat → α} {o : Nat} {v w : α} : u1 (u1 F o v) o w = u1 F o w := by
  funext i
  unfold u1
  split <;> rfl
theorem push_nil1 {V : Nat → Int32} {n k : Nat} (hro : ro = 19 ∨ ro = 23) (hn : n ≤ 40) (hsz : I ro 4 = iN n) (hk : k < n) (hw : A (ro + 1) k < 0) (h256 : A (ro + 1) k = -iN 256) (m : Nat) (kx : PH → Option (Int32 × PH)) : fX6_push_L48 ro o kx (m + 1) (iN 0) (iN k) (encC I (u1 A (ro + 3) V) L pr ot T) = fX6_push_L48 ro o kx m (iN 0) (iN (k + 1)) (encC I (u1 A (ro + 3) V) L pr ot T) := by
  rcases hro with rfl | rfl
  all_goals
    simp only [iN_lit, Nat.reduceAdd] at hw h256
    simp (disch := first | omega | (simp (disch := omega) only [iN_lit, iN_add, iN_mul, iN_pred, iN_pred', iN_lt, iN_le, iN_eq, iN_nat, nlt_t, nlt_f, nle_t, nle_f, neq_t, neq_f, List.length_nil, List.length_cons, or_false, false_or, or_self, not_false_eq_true, not_true_eq_false, ↓reduceIte, if_true, if_false, Bool.false_eq_true, Nat.reduceAdd])) only [fX6_push_L48, ↓bR_19_1, ↓bA_20, ↓bS_20, ↓bN_20, ↓bR_23_1, ↓bA_24, ↓bS_24, ↓bN_24, ↓bR_19_3, ↓bA_22, ↓bS_22, ↓bN_22, ↓bR_23_3, ↓bA_26, ↓bS_26, ↓bN_26, ↓bG_19_4, ↓bG_23_4, fX6_push_J184_48, fX6_push_J148_48, fX6_push_J116_48, fX6_push_J109_48, fX6_push_J107_48, ↓hb_some, ↓bd_some, ↓letE_eq, h_z0, h_z1, h_zi0, h_zi1, ↓hb_of c_outcome, ↓bA_29, ↓bA_33, u1_eq, u1_u1, hsz, hw, h256, n256, iN_lit, iN_add, iN_mul, iN_pred, iN_pred', iN_lt, iN_le, iN_eq, iN_nat, nlt_t, nlt_f, nle_t, nle_f, neq_t, neq_f, List.length_nil, List.length_cons, or_false, false_or, or_self, not_false_eq_true, not_true_eq_false, ↓reduceIte, if_true, if_false, Bool.false_eq_true, Nat.reduceAdd]
theorem push_nil2 {V : Nat → Int32} {n k : Nat} (hro : ro = 19 ∨ ro = 23) (hn : n ≤ 40) (hsz : I ro 4 = iN n) (hk : k < n) (hw : A (ro + 1) k < 0) (h256 : ¬ A (ro + 1) k = -iN 256) (m : Nat) (kx : PH → Option (Int32 × PH)) : fX6_push_L48 ro o kx (m + 1) (iN 0) (iN k) (encC I (u1 A (ro + 3) V) L pr ot T) = fX6_push_L48 ro o kx m (iN 0) (iN (k + 1)) (encC I (u1 A (ro + 3) V) L pr ot T) := by
  rcases hro with rfl | rfl
  all_goals
    simp only [iN_lit, Nat.reduceAdd] at hw h256
    simp (disch := first | omega | (simp (disch := omega) only [iN_lit, iN_add, iN_mul, iN_pred, iN_pred', iN_lt, iN_le, iN_eq, iN_nat, nlt_t, nlt_f, nle_t, nle_f, neq_t, neq_f, List.length_nil, List.length_cons, or_false, false_or, or_self, not_false_eq_true, not_true_eq_false, ↓reduceIte, if_true, if_false, Bool.false_eq_true, Nat.reduceAdd])) only [fX6_push_L48, ↓bR_19_1, ↓bA_20, ↓bS_20, ↓bN_20, ↓bR_23_1, ↓bA_24, ↓bS_24, ↓bN_24, ↓bR_19_3, ↓bA_22, ↓bS_22, ↓bN_22, ↓bR_23_3, ↓bA_26, ↓bS_26, ↓bN_26, ↓bG_19_4, ↓bG_23_4, fX6_push_J184_48, fX6_push_J148_48, fX6_push_J116_48, fX6_push_J109_48, fX6_push_J107_48, ↓hb_some, ↓bd_some, ↓letE_eq, h_z0, h_z1, h_zi0, h_zi1, ↓hb_of c_outcome, ↓bA_29, ↓bA_33, u1_eq, u1_u1, hsz, hw, h256, n256, iN_lit, iN_add, iN_mul, iN_pred, iN_pred', iN_lt, iN_le, iN_eq, iN_nat, nlt_t, nlt_f, nle_t, nle_f, neq_t, neq_f, List.length_nil, List.length_cons, or_false, false_or, or_self, not_false_eq_true, not_true_eq_false, ↓reduceIte, if_true, if_false, Bool.false_eq_true, Nat.reduceAdd]
theorem push_one1 {V : Nat → Int32} {n k : Nat} (hro : ro = 19 ∨ ro = 23) (hn : n ≤ 40) (hsz : I ro 4 = iN n) (hk : k < n) {a : Int32} (hv : V 0 = a) (hw : A (ro + 1) k < 0) (h256 : A (ro + 1) k = -iN 256) (m : Nat) (kx : PH → Option (Int32 × PH)) : fX6_push_L48 ro o kx (m + 1) (iN (0 + 1)) (iN k) (encC I (u1 A (ro + 3) V) L pr ot T) = fX6_push_L48 ro o kx m (iN (0 + 1)) (iN (k + 1)) (encC I (u1 A (ro + 3) (upd V 0 (-a))) L pr ot T) := by
  rcases hro with rfl | rfl
  all_goals
    simp only [iN_lit, Nat.reduceAdd] at hw h256
    simp (disch := first | omega | (simp (disch := omega) only [iN_lit, iN_add, iN_mul, iN_pred, iN_pred', iN_lt, iN_le, iN_eq, iN_nat, nlt_t, nlt_f, nle_t, nle_f, neq_t, neq_f, List.length_nil, List.length_cons, or_false, false_or, or_self, not_false_eq_true, not_true_eq_false, ↓reduceIte, if_true, if_false, Bool.false_eq_true, Nat.reduceAdd])) only [fX6_push_L48, ↓bR_19_1, ↓bA_20, ↓bS_20, ↓bN_20, ↓bR_23_1, ↓bA_24, ↓bS_24, ↓bN_24, ↓bR_19_3, ↓bA_22, ↓bS_22, ↓bN_22, ↓bR_23_3, ↓bA_26, ↓bS_26, ↓bN_26, ↓bG_19_4, ↓bG_23_4, fX6_push_J184_48, fX6_push_J148_48, fX6_push_J116_48, fX6_push_J109_48, fX6_push_J107_48, ↓hb_some, ↓bd_some, ↓letE_eq, h_z0, h_z1, h_zi0, h_zi1, ↓hb_of c_outcome, ↓bA_29, ↓bA_33, u1_eq, u1_u1, hsz, hw, h256, hv, n256, iN_lit, iN_add, iN_mul, iN_pred, iN_pred', iN_lt, iN_le, iN_eq, iN_nat, nlt_t, nlt_f, nle_t, nle_f, neq_t, neq_f, List.length_nil, List.length_cons, or_false, false_or, or_self, not_false_eq_true, not_true_eq_false, ↓reduceIte, if_true, if_false, Bool.false_eq_true, Nat.reduceAdd]
theorem push_one2 {V : Nat → Int32} {n k : Nat} (hro : ro = 19 ∨ ro = 23) (hn : n ≤ 40) (hsz : I ro 4 = iN n) (hk : k < n) (hw : A (ro + 1) k < 0) (h256 : ¬ A (ro + 1) k = -iN 256) (m : Nat) (kx : PH → Option (Int32 × PH)) : fX6_push_L48 ro o kx (m + 1) (iN (0 + 1)) (iN k) (encC I (u1 A (ro + 3) V) L pr ot T) = fX6_push_L48 ro o kx m (iN (0 + 1)) (iN (k + 1)) (encC I (u1 A (ro + 3) V) L pr ot T) := by
  rcases hro with rfl | rfl
  all_goals
    simp only [iN_lit, Nat.reduceAdd] at hw h256
    simp (disch := first | omega | (simp (disch := omega) only [iN_lit, iN_add, iN_mul, iN_pred, iN_pred', iN_lt, iN_le, iN_eq, iN_nat, nlt_t, nlt_f, nle_t, nle_f, neq_t, neq_f, List.length_nil, List.length_cons, or_false, false_or, or_self, not_false_eq_true, not_true_eq_false, ↓reduceIte, if_true, if_false, Bool.false_eq_true, Nat.reduceAdd])) only [fX6_push_L48, ↓bR_19_1, ↓bA_20, ↓bS_20, ↓bN_20, ↓bR_23_1, ↓bA_24, ↓bS_24, ↓bN_24, ↓bR_19_3, ↓bA_22, ↓bS_22, ↓bN_22, ↓bR_23_3, ↓bA_26, ↓bS_26, ↓bN_26, ↓bG_19_4, ↓bG_23_4, fX6_push_J184_48, fX6_push_J148_48, fX6_push_J116_48, fX6_push_J109_48, fX6_push_J107_48, ↓hb_some, ↓bd_some, ↓letE_eq, h_z0, h_z1, h_zi0, h_zi1, ↓hb_of c_outcome, ↓bA_29, ↓bA_33, u1_eq, u1_u1, hsz, hw, h256, n256, iN_lit, iN_add, iN_mul, iN_pred, iN_pred', iN_lt, iN_le, iN_eq, iN_nat, nlt_t, nlt_f, nle_t, nle_f, neq_t, neq_f, List.length_nil, List.length_cons, or_false, false_or, or_self, not_false_eq_true, not_true_eq_false, ↓reduceIte, if_true, if_false, Bool.false_eq_true, Nat.reduceAdd]
theorem push_two1 {V : Nat → Int32} {n k : Nat} (hro : ro = 19 ∨ ro = 23) (hn : n ≤ 40) (hsz : I ro 4 = iN n) (hk : k < n) {b : Int32} {r : Nat} (hr : r + 2 ≤ k) (hv : V (r + 1) = b) (hw : A (ro + 1) k < 0) (h256 : A (ro + 1) k = -iN 256) (m : Nat) (kx : PH → Option (Int32 × PH)) : fX6_push_L48 ro o kx (m + 1) (iN (r + 1 + 1)) (iN k) (encC I (u1 A (ro + 3) V) L pr ot T) = fX6_push_L48 ro o kx m (iN (r + 1 + 1)) (iN (k + 1)) (encC I (u1 A (ro + 3) (upd V (r + 1) (-b))) L pr ot T) := by
  rcases hro with rfl | rfl
  all_goals
    simp only [iN_lit, Nat.reduceAdd] at hw h256
    simp (disch := first | omega | (simp (disch := omega) only [iN_lit, iN_add, iN_mul, iN_pred, iN_pred', iN_lt, iN_le, iN_eq, iN_nat, nlt_t, nlt_f, nle_t, nle_f, neq_t, neq_f, List.length_nil, List.length_cons, or_false, false_or, or_self, not_false_eq_true, not_true_eq_false, ↓reduceIte, if_true, if_false, Bool.false_eq_true, Nat.reduceAdd])) only [fX6_push_L48, ↓bR_19_1, ↓bA_20, ↓bS_20, ↓bN_20, ↓bR_23_1, ↓bA_24, ↓bS_24, ↓bN_24, ↓bR_19_3, ↓bA_22, ↓bS_22, ↓bN_22, ↓bR_23_3, ↓bA_26, ↓bS_26, ↓bN_26, ↓bG_19_4, ↓bG_23_4, fX6_push_J184_48, fX6_push_J148_48, fX6_push_J116_48, fX6_push_J109_48, fX6_push_J107_48, ↓hb_some, ↓bd_some, ↓letE_eq, h_z0, h_z1, h_zi0, h_zi1, ↓hb_of c_outcome, ↓bA_29, ↓bA_33, u1_eq, u1_u1, hsz, hw, h256, hv, n256, iN_lit, iN_add, iN_mul, iN_pred, iN_pred', iN_lt, iN_le, iN_eq, iN_nat, nlt_t, nlt_f, nle_t, nle_f, neq_t, neq_f, List.length_nil, List.length_cons, or_false, false_or, or_self, not_false_eq_true, not_true_eq_false, ↓reduceIte, if_true, if_false, Bool.false_eq_true, Nat.reduceAdd]
theorem push_two2 {V : Nat → Int32} {n k : Nat} (hro : ro = 19 ∨ ro = 23) (hn : n ≤ 40) (hsz : I ro 4 = iN n) (hk : k < n) {a b : Int32} {r : Nat} (hr : r + 2 ≤ k) (hv : V (r + 1) = b) (hva : V r = a) (hw : A (ro + 1) k < 0) (h256 : ¬ A (ro + 1) k = -iN 256) (m : Nat) (kx : PH → Option (Int32 × PH)) : fX6_push_L48 ro o kx (m + 1) (iN (r + 1 + 1)) (iN k) (encC I (u1 A (ro + 3) V) L pr ot T) = fX6_push_L48 ro o kx m (iN (r + 1)) (iN (k + 1)) (encC I (u1 A (ro + 3) (upd V r (outc (-A (ro + 1) k) a b))) L pr ot T) := by
  rcases hro with rfl | rfl
  · simp only [iN_lit, Nat.reduceAdd] at hw h256
    rw [fX6_push_L48]
    rw [bG_19_4, hsz, if_neg (by rw [iN_le (by omega) (by omega)]; omega), bR_19_1]
    rw [bA_20 (in_arr (k := k) (by omega) (by omega) rfl), iN_nat (by omega)]
    rw [show u1 A 22 V 20 = A 20 from rfl, if_pos (show A 20 k < 0 from hw)]
    unfold fX6_push_J116_48
    rw [if_neg (show ¬ A 20 k = -256 from h256)]
    unfold fX6_push_J148_48
    rw [if_neg (show ¬ iN (r + 1 + 1) ≤ 1 by rw [iN_lit, iN_le (by omega) (by omega)]; omega), letE_eq, bR_19_3, bR_19_3]
    rw [show iN (r + 1 + 1) + (-1 : Int32) = iN (r + 1) from iN_pred', show iN (r + 1) - (1 : Int32) = iN r from iN_pred]
    rw [bA_22 (in_arr (k := r) (by omega) (by omega) rfl), bR_19_3, bA_22 (in_arr (k := r + 1) (by omega) (by omega) rfl), iN_nat (by omega), iN_nat (by omega)]
    rw [hb_of c_outcome, bS_22 (in_arr (k := r) (by omega) (by omega) rfl), iN_nat (by omega), u1_eq, if_pos rfl, hv, hva, u1_u1]
    unfold fX6_push_J184_48
    rw [letE_eq, show iN k + (1 : Int32) = iN (k + 1) from iN_add]
  · simp only [iN_lit, Nat.reduceAdd] at hw h256
    rw [fX6_push_L48]
    rw [bG_23_4, hsz, if_neg (by rw [iN_le (by omega) (by omega)]; omega), bR_23_1]
    rw [bA_24 (in_arr (k := k) (by omega) (by omega) rfl), iN_nat (by omega)]
    rw [show u1 A 26 V 24 = A 24 from rfl, if_pos (show A 24 k < 0 from hw)]
    unfold fX6_push_J116_48
    rw [if_neg (show ¬ A 24 k = -256 from h256)]
    unfold fX6_push_J148_48
    rw [if_neg (show ¬ iN (r + 1 + 1) ≤ 1 by rw [iN_lit, iN_le (by omega) (by omega)]; omega), letE_eq, bR_23_3, bR_23_3]
    rw [show iN (r + 1 + 1) + (-1 : Int32) = iN (r + 1) from iN_pred', show iN (r + 1) - (1 : Int32) = iN r from iN_pred]
    rw [bA_26 (in_arr (k := r) (by omega) (by omega) rfl), bR_23_3, bA_26 (in_arr (k := r + 1) (by omega) (by omega) rfl), iN_nat (by omega), iN_nat (by omega)]
    rw [hb_of c_outcome, bS_26 (in_arr (k := r) (by omega) (by omega) rfl), iN_nat (by omega), u1_eq, if_pos rfl, hv, hva, u1_u1]
    unfold fX6_push_J184_48
    rw [letE_eq, show iN k + (1 : Int32) = iN (k + 1) from iN_add]
theorem push_th1 {V : Nat → Int32} {n k : Nat} (hro : ro = 19 ∨ ro = 23) (hn : n ≤ 40) (hsz : I ro 4 = iN n) (hk : k < n) {r : Nat} (hr : r ≤ k) (hw : ¬ A (ro + 1) k < 0) (h1 : A (ro + 1) k - 1000 < 0) (m : Nat) (kx : PH → Option (Int32 × PH)) : fX6_push_L48 ro o kx (m + 1) (iN r) (iN k) (encC I (u1 A (ro + 3) V) L pr ot T) = fX6_push_L48 ro o kx m (iN (r + 1)) (iN (k + 1)) (encC I (u1 A (ro + 3) (upd V r (A (ro + 1) k))) L pr ot T) := by
  rcases hro with rfl | rfl
  all_goals
    simp only [iN_lit, Nat.reduceAdd] at hw h1
    simp (disch := first | omega | (simp (disch := omega) only [iN_lit, iN_add, iN_mul, iN_pred, iN_pred', iN_lt, iN_le, iN_eq, iN_nat, nlt_t, nlt_f, nle_t, nle_f, neq_t, neq_f, List.length_nil, List.length_cons, or_false, false_or, or_self, not_false_eq_true, not_true_eq_false, ↓reduceIte, if_true, if_false, Bool.false_eq_true, Nat.reduceAdd])) only [fX6_push_L48, ↓bR_19_1, ↓bA_20, ↓bS_20, ↓bN_20, ↓bR_23_1, ↓bA_24, ↓bS_24, ↓bN_24, ↓bR_19_3, ↓bA_22, ↓bS_22, ↓bN_22, ↓bR_23_3, ↓bA_26, ↓bS_26, ↓bN_26, ↓bG_19_4, ↓bG_23_4, fX6_push_J184_48, fX6_push_J148_48, fX6_push_J116_48, fX6_push_J109_48, fX6_push_J107_48, ↓hb_some, ↓bd_some, ↓letE_eq, h_z0, h_z1, h_zi0, h_zi1, ↓hb_of c_outcome, ↓bA_29, ↓bA_33, u1_eq, u1_u1, hsz, hw, h1, n256, iN_lit, iN_add, iN_mul, iN_pred, iN_pred', iN_lt, iN_le, iN_eq, iN_nat, nlt_t, nlt_f, nle_t, nle_f, neq_t, neq_f, List.length_nil, List.length_cons, or_false, false_or, or_self, not_false_eq_true, not_true_eq_false, ↓reduceIte, if_true, if_false, Bool.false_eq_true, Nat.reduceAdd]
theorem push_th2 {V : Nat → Int32} {n k : Nat} (hro : ro = 19 ∨ ro = 23) (hn : n ≤ 40) (hsz : I ro 4 = iN n) (hk : k < n) {r : Nat} (hr : r ≤ k) (hw : ¬ A (ro + 1) k < 0) (h1 : ¬ A (ro + 1) k - 1000 < 0) (h2 : (7 : Int32) ≤ A (ro + 1) k - 1000) (m : Nat) (kx : PH → Option (Int32 × PH)) : fX6_push_L48 ro o kx (m + 1) (iN r) (iN k) (encC I (u1 A (ro + 3) V) L pr ot T) = fX6_push_L48 ro o kx m (iN (r + 1)) (iN (k + 1)) (encC I (u1 A (ro + 3) (upd V r (A (ro + 1) k))) L pr ot T) := by
  rcases hro with rfl | rfl
  all_goals
    simp only [iN_lit, Nat.reduceAdd] at hw h1 h2
    simp (disch := first | omega | (simp (disch := omega) only [iN_lit, iN_add, iN_mul, iN_pred, iN_pred', iN_lt, iN_le, iN_eq, iN_nat, nlt_t, nlt_f, nle_t, nle_f, neq_t, neq_f, List.length_nil, List.length_cons, or_false, false_or, or_self, not_false_eq_true, not_true_eq_false, ↓reduceIte, if_true, if_false, Bool.false_eq_true, Nat.reduceAdd])) only [fX6_push_L48, ↓bR_19_1, ↓bA_20, ↓bS_20, ↓bN_20, ↓bR_23_1, ↓bA_24, ↓bS_24, ↓bN_24, ↓bR_19_3, ↓bA_22, ↓bS_22, ↓bN_22, ↓bR_23_3, ↓bA_26, ↓bS_26, ↓bN_26, ↓bG_19_4, ↓bG_23_4, fX6_push_J184_48, fX6_push_J148_48, fX6_push_J116_48, fX6_push_J109_48, fX6_push_J107_48, ↓hb_some, ↓bd_some, ↓letE_eq, h_z0, h_z1, h_zi0, h_zi1, ↓hb_of c_outcome, ↓bA_29, ↓bA_33, u1_eq, u1_u1, hsz, hw, h1, h2, n256, iN_lit, iN_add, iN_mul, iN_pred, iN_pred', iN_lt, iN_le, iN_eq, iN_nat, nlt_t, nlt_f, nle_t, nle_f, neq_t, neq_f, List.length_nil, List.length_cons, or_false, false_or, or_self, not_false_eq_true, not_true_eq_false, ↓reduceIte, if_true, if_false, Bool.false_eq_true, Nat.reduceAdd]
theorem push_th3 {V : Nat → Int32} {n k : Nat} (hro : ro = 19 ∨ ro = 23) (hn : n ≤ 40) (hsz : I ro 4 = iN n) (hk : k < n) (ho : o = 27 ∨ o = 31) {r j : Nat} (hr : r ≤ k) (hj : j < 7) (hw : ¬ A (ro + 1) k < 0) (ej : A (ro + 1) k - 1000 = iN j) (m : Nat) (kx : PH → Option (Int32 × PH)) : fX6_push_L48 ro (o + 2) kx (m + 1) (iN r) (iN k) (encC I (u1 A (ro + 3) V) L pr ot T) = fX6_push_L48 ro (o + 2) kx m (iN (r + 1)) (iN (k + 1)) (encC I (u1 A (ro + 3) (upd V r (A (o + 2) j))) L pr ot T) := by
  rcases hro with rfl | rfl <;> rcases ho with rfl | rfl
  all_goals
    simp only [iN_lit, Nat.reduceAdd] at hw ej
    simp (disch := first | omega | (simp (disch := omega) only [iN_lit, iN_add, iN_mul, iN_pred, iN_pred', iN_lt, iN_le, iN_eq, iN_nat, nlt_t, nlt_f, nle_t, nle_f, neq_t, neq_f, List.length_nil, List.length_cons, or_false, false_or, or_self, not_false_eq_true, not_true_eq_false, ↓reduceIte, if_true, if_false, Bool.false_eq_true, Nat.reduceAdd])) only [fX6_push_L48, ↓bR_19_1, ↓bA_20, ↓bS_20, ↓bN_20, ↓bR_23_1, ↓bA_24, ↓bS_24, ↓bN_24, ↓bR_19_3, ↓bA_22, ↓bS_22, ↓bN_22, ↓bR_23_3, ↓bA_26, ↓bS_26, ↓bN_26, ↓bG_19_4, ↓bG_23_4, fX6_push_J184_48, fX6_push_J148_48, fX6_push_J116_48, fX6_push_J109_48, fX6_push_J107_48, ↓hb_some, ↓bd_some, ↓letE_eq, h_z0, h_z1, h_zi0, h_zi1, ↓hb_of c_outcome, ↓bA_29, ↓bA_33, u1_eq, u1_u1, hsz, hw, ej, n256, iN_lit, iN_add, iN_mul, iN_pred, iN_pred', iN_lt, iN_le, iN_eq, iN_nat, nlt_t, nlt_f, nle_t, nle_f, neq_t, neq_f, List.length_nil, List.length_cons, or_false, false_or, or_self, not_false_eq_true, not_true_eq_false, ↓reduceIte, if_true, if_false, Bool.false_eq_true, Nat.reduceAdd]
theorem push_step {V : Nat → Int32} {n k : Nat} {st : List Int32} (ho : o = 27 ∨ o = 31) (hro : ro = 19 ∨ ro = 23) (hn : n ≤ 40) (hsz : I ro 4 = iN n) (hk : k < n) (hlen : st.length ≤ k) (hs3 : stk V st) :
    ∃ V', stk V' (lStep (A (o + 2)) (A (ro + 1) k) st) ∧ ∀ m (kx : PH → Option (Int32 × PH)), fX6_push_L48 ro (o + 2) kx (m + 1) (iN st.length) (iN k) (encC I (u1 A (ro + 3) V) L pr ot T) = fX6_push_L48 ro (o + 2) kx m (iN (lStep (A (o + 2)) (A (ro + 1) k) st).length) (iN (k + 1)) (encC I (u1 A (ro + 3) V') L pr ot T) := by
  unfold lStep
  by_cases hw : A (ro + 1) k < 0
  · rw [if_pos hw]
    match st, hlen, hs3 with
    | [], hlen, hs3 =>
      refine ⟨V, trivial, fun m kx => ?_⟩
      by_cases h256 : A (ro + 1) k = -iN 256
      · exact push_nil1 hro hn hsz hk hw h256 m kx
      · exact push_nil2 hro hn hsz hk hw h256 m kx
    | [a], hlen, hs3 =>
      by_cases h256 : A (ro + 1) k = -iN 256
      · dsimp only
        rw [if_pos (show A (ro + 1) k = -256 from h256)]
        exact ⟨upd V 0 (-a), ⟨rfl, trivial⟩, fun m kx => push_one1 hro hn hsz hk hs3.1 hw h256 m kx⟩
      · dsimp only
        rw [if_neg (show ¬ A (ro + 1) k = -256 from h256)]
        exact ⟨V, hs3, fun m kx => push_one2 hro hn hsz hk hw h256 m kx⟩
    | b :: a :: r, hlen, hs3 =>
      have hlen' : r.length + 2 ≤ k := hlen
      by_cases h256 : A (ro + 1) k = -iN 256
      · dsimp only
        rw [if_pos (show A (ro + 1) k = -256 from h256)]
        exact ⟨upd V (r.length + 1) (-b), stk_push (st := a :: r) hs3.2, fun m kx => push_two1 hro hn hsz hk hlen' hs3.1 hw h256 m kx⟩
      · dsimp only
        rw [if_neg (show ¬ A (ro + 1) k = -256 from h256)]
        exact ⟨upd V r.length (outc (-A (ro + 1) k) a b), stk_push (st := r) hs3.2.2, fun m kx => push_two2 hro hn hsz hk hlen' hs3.1 hs3.2.1 hw h256 m kx⟩
  · rw [if_neg hw]
    refine ⟨upd V st.length (thg (A (o + 2)) (A (ro + 1) k)), stk_push hs3, fun m kx => ?_⟩
    unfold thg
    by_cases h1 : A (ro + 1) k - 1000 < 0
    · rw [if_pos h1]
      exact push_th1 hro hn hsz hk hlen hw h1 m kx
    · rw [if_neg h1]
      by_cases h2 : (7 : Int32) ≤ A (ro + 1) k - 1000
      · rw [if_pos h2]
        exact push_th2 hro hn hsz hk hlen hw h1 h2 m kx
      · rw [if_neg h2]
        obtain ⟨j, hj, ej⟩ := iN_of (n := 7) (Int32.not_lt.mp h1) (Int32.not_le.mp h2) (by omega)
        rw [show (A (ro + 1) k - 1000).toNatClampNeg = j by rw [ej, iN_nat (by omega)]]
        exact push_th3 hro hn hsz hk ho hlen hj hw ej m kx
theorem c_push (ho : o = 27 ∨ o = 31) (hro : ro = 19 ∨ ro = 23) (hr : RU I A ro pu) : ∃ V, fX6_push ro (o + 2) (encC I A L pr ot T) = some (pu (A (o + 2)), encC I (u1 A (ro + 3) V) L pr ot T) := by
  obtain ⟨_, n, hn, hsz, hr⟩ := hr
  rcases hr with ⟨h0, hpu⟩ | ⟨h0, hpu⟩
  · refine ⟨A (ro + 3), ?_⟩
    rw [u1_self, hpu]
    subst h0
    rcases ho with rfl | rfl <;> rcases hro with rfl | rfl
    all_goals
      simp (disch := omega) only [fX6_push, ↓bR_19_3, ↓bA_22, ↓bS_22, ↓bN_22, ↓bR_23_3, ↓bA_26, ↓bS_26, ↓bN_26, ↓bG_19_4, ↓bG_23_4, fX6_push_J184_48, fX6_push_J148_48, fX6_push_J116_48, fX6_push_J109_48, fX6_push_J107_48, ↓hb_some, ↓bd_some, ↓letE_eq, h_z0, h_z1, h_zi0, h_zi1, eN_29, eN_33, hsz, eA_29, eA_33, iN_lit, iN_add, iN_mul, iN_pred, iN_pred', iN_lt, iN_le, iN_eq, iN_nat, nlt_t, nlt_f, nle_t, nle_f, neq_t, neq_f, List.length_nil, List.length_cons, or_false, false_or, or_self, not_false_eq_true, not_true_eq_false, ↓reduceIte, if_true, if_false, Bool.false_eq_true, Nat.reduceAdd]
      repeat' split
      all_goals first | rfl | contradiction
  · obtain ⟨v, hv, hpv⟩ := hpu (A (o + 2))
    rw [hpv]
    have key := lp_up (fun m k (s : Int32 × PH) => fX6_push_L48 ro (o + 2) (fun h3 => (h_gr 5 3 h3 ro).bind fun q4 => (h_ald .int h3 q4 (0 : Int32)).bind fun x5 => h_bd (fX11_clamp x5 (-99 : Int32) (99 : Int32) h3) fun x6 h7 => some (x6, h7)) m s.1 (iN k) s.2)
      (fun s => (h_gr 5 3 s.2 ro).bind fun q4 => (h_ald .int s.2 q4 (0 : Int32)).bind fun x5 => h_bd (fX11_clamp x5 (-99 : Int32) (99 : Int32) s.2) fun x6 h7 => some (x6, h7))
      (fun k s => ∃ V, s.1 = iN (evS (A (o + 2)) (A (ro + 1)) k).length ∧ s.2 = encC I (u1 A (ro + 3) V) L pr ot T ∧ stk V (evS (A (o + 2)) (A (ro + 1)) k)) n ?_ ?_ n 0 (iN 0, encC I A L pr ot T) (by omega) ⟨A (ro + 3), rfl, by rw [u1_self], trivial⟩
    · obtain ⟨s, ⟨V, hs1, hs2, hs3⟩, hs4⟩ := key
      refine ⟨V, ?_⟩
      have hs5 := hs4 FU (by unfold FU; omega)
      rw [hv] at hs3
      have hs6 : V 0 = v := hs3.1
      dsimp only at hs5
      rw [hs2] at hs5
      rcases ho with rfl | rfl <;> rcases hro with rfl | rfl
      all_goals
        simp (disch := omega) only [fX6_push, ↓bR_19_3, ↓bA_22, ↓bS_22, ↓bN_22, ↓bR_23_3, ↓bA_26, ↓bS_26, ↓bN_26, ↓bG_19_4, ↓bG_23_4, fX6_push_J184_48, fX6_push_J148_48, fX6_push_J116_48, fX6_push_J109_48, fX6_push_J107_48, ↓hb_some, ↓bd_some, ↓letE_eq, h_z0, h_z1, h_zi0, h_zi1, eN_29, eN_33, hsz, iN_lit, iN_add, iN_mul, iN_pred, iN_pred', iN_lt, iN_le, iN_eq, iN_nat, nlt_t, nlt_f, nle_t, nle_f, neq_t, neq_f, List.length_nil, List.length_cons, or_false, false_or, or_self, not_false_eq_true, not_true_eq_false, ↓reduceIte, if_true, if_false, Bool.false_eq_true, Nat.reduceAdd]
        simp only [iN_lit, Nat.reduceAdd] at hs5
        rw [hs5]
        simp (disch := omega) only [eR_19_3, eR_23_3, Option.bind_some, eA_22, eA_26, c_clamp, hb_some, iN_lit, iN_add, iN_mul, iN_pred, iN_pred', iN_lt, iN_le, iN_eq, iN_nat, nlt_t, nlt_f, nle_t, nle_f, neq_t, neq_f, List.length_nil, List.length_cons, or_false, false_or, or_self, not_false_eq_true, not_true_eq_false, ↓reduceIte, if_true, if_false, Bool.false_eq_true, Nat.reduceAdd]
        simp only [u1_eq, if_true, hs6]
        rfl
    · intro k s hk hi
      obtain ⟨V, hs1, hs2, hs3⟩ := hi
      have hlen := evS_len (ft := A (o + 2)) (S := A (ro + 1)) k
      rw [show evS (A (o + 2)) (A (ro + 1)) (k + 1) = lStep (A (o + 2)) (A (ro + 1) k) (evS (A (o + 2)) (A (ro + 1)) k) from rfl]
      rw [hs1, hs2]
      generalize evS (A (o + 2)) (A (ro + 1)) k = st at *
      obtain ⟨V', h1, h2⟩ := push_step (L := L) (pr := pr) (ot := ot) (T := T) ho hro hn hsz hk hlen hs3
      exact ⟨(iN (lStep (A (o + 2)) (A (ro + 1) k) st).length, encC I (u1 A (ro + 3) V') L pr ot T), ⟨V', rfl, rfl, h1⟩, fun m => h2 m _⟩
    · intro s hi m
      obtain ⟨V, hs1, hs2, hs3⟩ := hi
      rw [hs2]
      rcases hro with rfl | rfl
      all_goals
        simp (disch := omega) only [fX6_push_L48, eG_19_4, eG_23_4, hsz, Option.bind_some, iN_lit, iN_add, iN_mul, iN_pred, iN_pred', iN_lt, iN_le, iN_eq, iN_nat, nlt_t, nlt_f, nle_t, nle_f, neq_t, neq_f, List.length_nil, List.length_cons, or_false, false_or, or_self, not_false_eq_true, not_true_eq_false, ↓reduceIte, if_true, if_false, Bool.false_eq_true, Nat.reduceAdd]
end PUSH
