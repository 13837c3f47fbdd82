/-! CALLS: fewest -/
def lessB (A : Nat → Nat → Int32) (G : Nat) (o : Option Nat) (k : Nat) : Bool := match o with
  | none => true
  | some f => decide (bc (iN k) - bc (iN f) < 0) || (decide (bc (iN k) - bc (iN f) = 0) && decide (grS A G (iN k) < grS A G (iN f)))
def fwF (A : Nat → Nat → Int32) (G : Nat) (FN : Nat) (c : Nat → Bool) : Nat → Option Nat
  | 0 => none
  | k + 1 => if (decide ((iN k &&& (iN FN ^^^ (-1 : Int32))) = 0) && lessB A G (fwF A G FN c k) k) && c k then some k else fwF A G FN c k
def eM (o : Option Nat) : Int32 := match o with | none => -1 | some f => iN f
theorem fwF_lt {A : Nat → Nat → Int32} {G FN : Nat} {c : Nat → Bool} : ∀ k f, fwF A G FN c k = some f → f < k
  | 0, f, h => by cases h
  | k + 1, f, h => by
    unfold fwF at h
    split at h
    · cases h; omega
    · have := fwF_lt k f h; omega
theorem frS_n {Z : Nat → Int32} {G p : Nat} (h8 : G ≤ 8) : ∃ FN, FN < 256 ∧ frS Z G p = iN FN := by
  refine ⟨btn (fun k => decide (k < G) && (decide (0 < Z k) && !hdB Z p k)) 8, btn_lt 8, ?_⟩
  unfold frS
  rw [← bt_ext 8 h8]
  exact bt_n
theorem tri {d : Int32} (h1 : ¬ d < 0) (h2 : ¬ d = 0) : 0 < d := by
  rw [Int32.lt_iff_toInt_lt] at h1 ⊢
  have : ¬ d.toInt = (0 : Int32).toInt := fun e => h2 (Int32.toInt_inj.mp e)
  omega
theorem ntri {d : Int32} (h : 0 < d) : ¬ d < 0 ∧ ¬ d = 0 := by
  constructor
  · intro c
    rw [Int32.lt_iff_toInt_lt] at h c
    omega
  · intro c
    rw [c] at h
    exact absurd h (by decide)
def kxF : Int32 → PH → Option (Int32 × PH) := fun x3 h4 => if 0 ≤ x3 then ((h_gr 3 3 h4 35).bind fun q5 => (h_ck 2 h4 q5).bind fun _ => h_bd (fX3_start q5 h4) fun _ h6 => (h_gr 3 3 h6 35).bind fun q7 => (h_ck 2 h6 q7).bind fun _ => h_bd (fX3_add q7 (x3.toInt64) h6) fun _ h8 => (h_gr 3 3 h8 35).bind fun q9 => (h_ck 3 h8 35).bind fun _ => h_bd (fX4_gradesOf 35 x3 h8) fun x10 h11 => (h_ck 2 h11 q9).bind fun _ => h_bd (fX3_add q9 (x10.toInt64) h11) fun _ h12 => h_bd (fJ6_bitCount_0f7a4 x3 h12) fun x13 h14 => some (x13, h14)) else (some ((-2 : Int32), h4))
def kxFm : Int32 → PH → Option (Int32 × PH) := fun x10 h11 => if x10 = (-1 : Int32) then (some ((-2 : Int32), h11)) else ((h_pv 11 12 h11 45 (.int (0 : Int32))).bind fun h12 => (h_ck 11 h12 45).bind fun _ => h_bd (fX12_tell 45 (x10.toInt64) h12) fun _ h13 => (h_ck 11 h13 45).bind fun _ => h_bd (fX12_gradeOf 45 x10 h13) fun x14 h15 => (h_ck 11 h15 45).bind fun _ => h_bd (fX12_tell 45 (x14.toInt64) h15) fun _ h16 => h_bd (fJ6_bitCount_0f7a4 x10 h16) fun x17 h18 => some (x17, h18))
section FW
variable {I A E I' A' : Nat → Nat → Int32} {L L' : Nat → Int64} {pr ot s : Nat} {J J' : Nat → Int32} {B B' : Nat → Nat → Int32} {M M' : Nat → Int64} {rdv rdv' : Value} {ru : Nat} {T : PH} {G P W p q g n nr sz ro oa w t k FN : Nat} {Z Z' R X a : Nat → Int32} {x y z i2 m : Int32} {out : Nat → Int64} {pu : (Nat → Int32) → Int32}
theorem CK.less (c : CK I A G P W ro pu) (i1 : frQ A A') {o : Option Nat} (ho : ∀ f, o = some f → f < 256) : fX4_isLess 35 (iN k) (eF o) (encC I A' L pr ot T) = some ((if lessB A G o k then 1 else 0), (encC I A' L pr ot T)) := by
  cases o with
  | none =>
    have e : (iN 0 ≤ -iN 2) = False := m2
    unfold eF lessB
    simp (disch := first | omega | assumption | (simp (disch := omega) only [iN_lit, iN_add, iN_mul, iN_pred, iN_pred', iN_lt, iN_le, iN_eq, iN_nat, nlt_t, nlt_f, nle_t, nle_f, neq_t, neq_f, List.length_nil, List.length_cons, or_false, false_or, or_self, not_false_eq_true, not_true_eq_false, ↓reduceIte, if_true, if_false, Bool.false_eq_true, Nat.reduceAdd])) only [fX4_isLess, fX4_isLess_J39, fX4_isLess_J17, ↓bK_35, ↓hb_of (c_bitCount), ↓hb_some, ↓bd_some, ↓letE_eq, h_z0, h_z1, h_zi0, h_zi1, iN_lit, iN_add, iN_mul, iN_pred, iN_pred', iN_lt, iN_le, iN_eq, iN_nat, nlt_t, nlt_f, nle_t, nle_f, neq_t, neq_f, List.length_nil, List.length_cons, or_false, false_or, or_self, not_false_eq_true, not_true_eq_false, ↓reduceIte, if_true, if_false, Bool.false_eq_true, Nat.reduceAdd, e, n1]
  | some f =>
    have hf := ho f rfl
    have g1 := c.grades (L := L) (pr := pr) (ot := ot) (T := T) (m := iN k) i1
    have g2 := c.grades (L := L) (pr := pr) (ot := ot) (T := T) (m := iN f) i1
    unfold eF lessB
    dsimp only
    obtain ⟨d, hd⟩ : ∃ d, bc (iN k) - bc (iN f) = d := ⟨_, rfl⟩
    simp only [hd]
    by_cases h1 : d < 0
    · have h1' : d < iN 0 := h1
      rw [decide_eq_true h1]
      simp (disch := first | omega | assumption | (simp (disch := omega) only [iN_lit, iN_add, iN_mul, iN_pred, iN_pred', iN_lt, iN_le, iN_eq, iN_nat, nlt_t, nlt_f, nle_t, nle_f, neq_t, neq_f, List.length_nil, List.length_cons, or_false, false_or, or_self, not_false_eq_true, not_true_eq_false, ↓reduceIte, if_true, if_false, Bool.false_eq_true, Nat.reduceAdd])) only [fX4_isLess, fX4_isLess_J39, fX4_isLess_J17, ↓bK_35, ↓hb_of (c_bitCount), ↓hb_some, ↓bd_some, ↓letE_eq, h_z0, h_z1, h_zi0, h_zi1, ↓hb_of c_bitCount, iN_lit, iN_add, iN_mul, iN_pred, iN_pred', iN_lt, iN_le, iN_eq, iN_nat, nlt_t, nlt_f, nle_t, nle_f, neq_t, neq_f, List.length_nil, List.length_cons, or_false, false_or, or_self, not_false_eq_true, not_true_eq_false, ↓reduceIte, if_true, if_false, Bool.false_eq_true, Nat.reduceAdd, hd, h1', Bool.true_or]
    · have h1' : ¬ d < iN 0 := h1
      rw [decide_eq_false h1]
      by_cases h2 : d = 0
      · have h2' : d = iN 0 := h2
        rw [decide_eq_true h2]
        by_cases h3 : grS A G (iN k) < grS A G (iN f)
        · have h3' : ¬ grS A G (iN f) ≤ grS A G (iN k) := by rw [nle_lt]; exact not_not_intro h3
          rw [decide_eq_true h3]
          have h4 : (iN 0 < iN 0) = False := eq_false (by decide)
          simp (disch := first | omega | assumption | (simp (disch := omega) only [iN_lit, iN_add, iN_mul, iN_pred, iN_pred', iN_lt, iN_le, iN_eq, iN_nat, nlt_t, nlt_f, nle_t, nle_f, neq_t, neq_f, List.length_nil, List.length_cons, or_false, false_or, or_self, not_false_eq_true, not_true_eq_false, ↓reduceIte, if_true, if_false, Bool.false_eq_true, Nat.reduceAdd])) only [fX4_isLess, fX4_isLess_J39, fX4_isLess_J17, ↓bK_35, ↓hb_of (c_bitCount), ↓hb_some, ↓bd_some, ↓letE_eq, h_z0, h_z1, h_zi0, h_zi1, ↓hb_of c_bitCount, ↓hb_of g1, ↓hb_of g2, iN_lit, iN_add, iN_mul, iN_pred, iN_pred', iN_lt, iN_le, iN_eq, iN_nat, nlt_t, nlt_f, nle_t, nle_f, neq_t, neq_f, List.length_nil, List.length_cons, or_false, false_or, or_self, not_false_eq_true, not_true_eq_false, ↓reduceIte, if_true, if_false, Bool.false_eq_true, Nat.reduceAdd, hd, h2', h3', h4, Bool.false_or, Bool.true_and]
        · have h3' : grS A G (iN f) ≤ grS A G (iN k) := by rw [nle_lt]; exact h3
          rw [decide_eq_false h3]
          have h4 : (iN 0 < iN 0) = False := eq_false (by decide)
          simp (disch := first | omega | assumption | (simp (disch := omega) only [iN_lit, iN_add, iN_mul, iN_pred, iN_pred', iN_lt, iN_le, iN_eq, iN_nat, nlt_t, nlt_f, nle_t, nle_f, neq_t, neq_f, List.length_nil, List.length_cons, or_false, false_or, or_self, not_false_eq_true, not_true_eq_false, ↓reduceIte, if_true, if_false, Bool.false_eq_true, Nat.reduceAdd])) only [fX4_isLess, fX4_isLess_J39, fX4_isLess_J17, ↓bK_35, ↓hb_of (c_bitCount), ↓hb_some, ↓bd_some, ↓letE_eq, h_z0, h_z1, h_zi0, h_zi1, ↓hb_of c_bitCount, ↓hb_of g1, ↓hb_of g2, iN_lit, iN_add, iN_mul, iN_pred, iN_pred', iN_lt, iN_le, iN_eq, iN_nat, nlt_t, nlt_f, nle_t, nle_f, neq_t, neq_f, List.length_nil, List.length_cons, or_false, false_or, or_self, not_false_eq_true, not_true_eq_false, ↓reduceIte, if_true, if_false, Bool.false_eq_true, Nat.reduceAdd, hd, h2', h3', h4, Bool.false_or, Bool.true_and]
      · have h2' : ¬ d = iN 0 := h2
        rw [decide_eq_false h2]
        simp (disch := first | omega | assumption | (simp (disch := omega) only [iN_lit, iN_add, iN_mul, iN_pred, iN_pred', iN_lt, iN_le, iN_eq, iN_nat, nlt_t, nlt_f, nle_t, nle_f, neq_t, neq_f, List.length_nil, List.length_cons, or_false, false_or, or_self, not_false_eq_true, not_true_eq_false, ↓reduceIte, if_true, if_false, Bool.false_eq_true, Nat.reduceAdd])) only [fX4_isLess, fX4_isLess_J39, fX4_isLess_J17, ↓bK_35, ↓hb_of (c_bitCount), ↓hb_some, ↓bd_some, ↓letE_eq, h_z0, h_z1, h_zi0, h_zi1, ↓hb_of c_bitCount, iN_lit, iN_add, iN_mul, iN_pred, iN_pred', iN_lt, iN_le, iN_eq, iN_nat, nlt_t, nlt_f, nle_t, nle_f, neq_t, neq_f, List.length_nil, List.length_cons, or_false, false_or, or_self, not_false_eq_true, not_true_eq_false, ↓reduceIte, if_true, if_false, Bool.false_eq_true, Nat.reduceAdd, hd, h1', h2', Bool.false_or, Bool.false_and]
theorem few_C (c : CK I A G P W pr pu) (hp : p < P) (hw : w < W) (hn : n ≤ 20) (hFN : FN < 256) (hfr : frS (A 28) G p = iN FN) {r : Option Nat} (hr : fwF A G FN (fun k => hasB (wwS A pu G W p (iN k) n (A 28)) w) (FN + 1) = r) :
    qC I A L pr ot T (fX4_fewestFor 35 (iN p) (iN w) (iN n)) (match r with | none => -2 | some f => bc (iN f)) (r.map (fun f => [(iN f).toInt64, (grS A G (iN f)).toInt64])) := by
  have h7 := c.1.2.2.2.2.2
  obtain ⟨cc, hcc⟩ : ∃ cc, cc = (fun k => hasB (wwS A pu G W p (iN k) n (A 28)) w) := ⟨_, rfl⟩
  have hcg : ∀ k, hasB (wwS A pu G W p (iN k) n (A 28)) w = cc k := fun g => by rw [hcc]
  rw [← hcc] at hr
  have f0 := c.free (L := L) (pr := pr) (ot := ot) (T := T) frQ.refl hp
  rw [hfr] at f0
  have key := lp_k (fun (kx : Int32 → PH → Option (Int32 × PH)) n' k (A' : Nat → Nat → Int32) => fX4_fewestFor_L14 35 (iN p) (iN w) (iN n) (iN FN) kx n' (eF (fwF A G FN cc k)) (iN k) (encC I A' L pr ot T)) (fun kx A' => kx (eF r) (encC I A' L pr ot T)) (fun k A' => frQ A A') (FN + 1)
    (fun k A' hk hi => by
      have gl := c.less (L := L) (pr := pr) (ot := ot) (T := T) (k := k) hi (o := fwF A G FN cc k) (fun f hf => by have := fwF_lt k f hf; omega)
      have e1 : fwF A G FN cc (k + 1) = if (decide ((iN k &&& (iN FN ^^^ (-1 : Int32))) = 0) && lessB A G (fwF A G FN cc k) k) && cc k then some k else fwF A G FN cc k := rfl
      by_cases hs : (iN k &&& (iN FN ^^^ (-1 : Int32))) = 0
      · have hs' : (iN k &&& (iN FN ^^^ -iN 1)) = iN 0 := hs
        rw [decide_eq_true hs, Bool.true_and] at e1
        cases hl : lessB A G (fwF A G FN cc k) k with
        | false =>
          rw [hl] at gl e1
          refine ⟨A', hi, fun kx n' => ?_⟩
          rw [e1, Bool.false_and, if_neg (by decide)]
          simp only [iN_lit, Bool.false_eq_true, if_false] at gl
          simp (disch := first | omega | assumption | (simp (disch := omega) only [iN_lit, iN_add, iN_mul, iN_pred, iN_pred', iN_lt, iN_le, iN_eq, iN_nat, nlt_t, nlt_f, nle_t, nle_f, neq_t, neq_f, List.length_nil, List.length_cons, or_false, false_or, or_self, not_false_eq_true, not_true_eq_false, ↓reduceIte, if_true, if_false, Bool.false_eq_true, Nat.reduceAdd])) only [fX4_fewestFor_L14, ↓bK_35, fX4_fewestFor_J76_14, fX4_fewestFor_J74_14, fX4_fewestFor_J47_14, fX4_fewestFor_J46_14, ↓hb_some, ↓bd_some, ↓letE_eq, h_z0, h_z1, h_zi0, h_zi1, ↓hb_of gl, iN_lit, iN_add, iN_mul, iN_pred, iN_pred', iN_lt, iN_le, iN_eq, iN_nat, nlt_t, nlt_f, nle_t, nle_f, neq_t, neq_f, List.length_nil, List.length_cons, or_false, false_or, or_self, not_false_eq_true, not_true_eq_false, ↓reduceIte, if_true, if_false, Bool.false_eq_true, Nat.reduceAdd, hs']
        | true =>
          rw [hl] at gl e1
          obtain ⟨A2, g1, g2, -⟩ := c.with_ (L := L) (ot := ot) (T := T) (m := iN k) (n := n) hi hp (by omega)
          refine ⟨A2, g2, fun kx n' => ?_⟩
          simp only [iN_lit, if_true] at gl
          cases hb : cc k with
          | false =>
            rw [hb] at e1
            rw [e1, Bool.and_false, if_neg (by decide)]
            simp (disch := first | omega | assumption | (simp (disch := omega) only [iN_lit, iN_add, iN_mul, iN_pred, iN_pred', iN_lt, iN_le, iN_eq, iN_nat, nlt_t, nlt_f, nle_t, nle_f, neq_t, neq_f, List.length_nil, List.length_cons, or_false, false_or, or_self, not_false_eq_true, not_true_eq_false, ↓reduceIte, if_true, if_false, Bool.false_eq_true, Nat.reduceAdd])) only [fX4_fewestFor_L14, ↓bK_35, fX4_fewestFor_J76_14, fX4_fewestFor_J74_14, fX4_fewestFor_J47_14, fX4_fewestFor_J46_14, ↓hb_some, ↓bd_some, ↓letE_eq, h_z0, h_z1, h_zi0, h_zi1, ↓hb_of gl, ↓hb_of g1, ↓hb_of (isIn_n ((hcg k).trans hb)), iN_lit, iN_add, iN_mul, iN_pred, iN_pred', iN_lt, iN_le, iN_eq, iN_nat, nlt_t, nlt_f, nle_t, nle_f, neq_t, neq_f, List.length_nil, List.length_cons, or_false, false_or, or_self, not_false_eq_true, not_true_eq_false, ↓reduceIte, if_true, if_false, Bool.false_eq_true, Nat.reduceAdd, hs']
          | true =>
            rw [hb] at e1
            rw [e1, Bool.and_true, if_pos rfl]
            have e2 : eF (some k) = iN k := rfl
            rw [e2]
            simp (disch := first | omega | assumption | (simp (disch := omega) only [iN_lit, iN_add, iN_mul, iN_pred, iN_pred', iN_lt, iN_le, iN_eq, iN_nat, nlt_t, nlt_f, nle_t, nle_f, neq_t, neq_f, List.length_nil, List.length_cons, or_false, false_or, or_self, not_false_eq_true, not_true_eq_false, ↓reduceIte, if_true, if_false, Bool.false_eq_true, Nat.reduceAdd])) only [fX4_fewestFor_L14, ↓bK_35, fX4_fewestFor_J76_14, fX4_fewestFor_J74_14, fX4_fewestFor_J47_14, fX4_fewestFor_J46_14, ↓hb_some, ↓bd_some, ↓letE_eq, h_z0, h_z1, h_zi0, h_zi1, ↓hb_of gl, ↓hb_of g1, ↓hb_of (isIn_y ((hcg k).trans hb)), iN_lit, iN_add, iN_mul, iN_pred, iN_pred', iN_lt, iN_le, iN_eq, iN_nat, nlt_t, nlt_f, nle_t, nle_f, neq_t, neq_f, List.length_nil, List.length_cons, or_false, false_or, or_self, not_false_eq_true, not_true_eq_false, ↓reduceIte, if_true, if_false, Bool.false_eq_true, Nat.reduceAdd, hs']
      · have hs' : ¬ (iN k &&& (iN FN ^^^ -iN 1)) = iN 0 := hs
        rw [decide_eq_false hs, Bool.false_and, Bool.false_and, if_neg (by decide)] at e1
        refine ⟨A', hi, fun kx n' => ?_⟩
        rw [e1]
        simp (disch := first | omega | assumption | (simp (disch := omega) only [iN_lit, iN_add, iN_mul, iN_pred, iN_pred', iN_lt, iN_le, iN_eq, iN_nat, nlt_t, nlt_f, nle_t, nle_f, neq_t, neq_f, List.length_nil, List.length_cons, or_false, false_or, or_self, not_false_eq_true, not_true_eq_false, ↓reduceIte, if_true, if_false, Bool.false_eq_true, Nat.reduceAdd])) only [fX4_fewestFor_L14, ↓bK_35, fX4_fewestFor_J76_14, fX4_fewestFor_J74_14, fX4_fewestFor_J47_14, fX4_fewestFor_J46_14, ↓hb_some, ↓bd_some, ↓letE_eq, h_z0, h_z1, h_zi0, h_zi1, iN_lit, iN_add, iN_mul, iN_pred, iN_pred', iN_lt, iN_le, iN_eq, iN_nat, nlt_t, nlt_f, nle_t, nle_f, neq_t, neq_f, List.length_nil, List.length_cons, or_false, false_or, or_self, not_false_eq_true, not_true_eq_false, ↓reduceIte, if_true, if_false, Bool.false_eq_true, Nat.reduceAdd, hs'])
    (fun A' hi kx n' => by
      rw [hr]
      simp (disch := first | omega | assumption | (simp (disch := omega) only [iN_lit, iN_add, iN_mul, iN_pred, iN_pred', iN_lt, iN_le, iN_eq, iN_nat, nlt_t, nlt_f, nle_t, nle_f, neq_t, neq_f, List.length_nil, List.length_cons, or_false, false_or, or_self, not_false_eq_true, not_true_eq_false, ↓reduceIte, if_true, if_false, Bool.false_eq_true, Nat.reduceAdd])) only [fX4_fewestFor_L14, ↓bK_35, fX4_fewestFor_J76_14, fX4_fewestFor_J74_14, fX4_fewestFor_J47_14, fX4_fewestFor_J46_14, ↓hb_of (isIn_y _), ↓hb_of (isIn_n _), ↓hb_of (c_isIn_gs _ _), ↓hb_some, ↓bd_some, ↓letE_eq, h_z0, h_z1, h_zi0, h_zi1, iN_lit, iN_add, iN_mul, iN_pred, iN_pred', iN_lt, iN_le, iN_eq, iN_nat, nlt_t, nlt_f, nle_t, nle_f, neq_t, neq_f, List.length_nil, List.length_cons, or_false, false_or, or_self, not_false_eq_true, not_true_eq_false, ↓reduceIte, if_true, if_false, Bool.false_eq_true, Nat.reduceAdd]) (FN + 1) 0 A (by omega) frQ.refl
  obtain ⟨A1, k1, k2⟩ := key
  have k3 := k2 kxF FU (by unfold FU; omega)
  have en : ∀ z, kxF (eF r) (encC I A1 L pr ot T) = z → fX4_fewestFor 35 (iN p) (iN w) (iN n) (encC I A L pr ot T) = z := by
    intro z hz
    unfold fX4_fewestFor
    rw [bK_35, hb_of f0]
    exact k3.trans hz
  cases r with
  | none => exact ⟨I, A1, L, en _ (if_neg (by decide)), frI.refl, k1, rfl, rfl⟩
  | some f =>
    have hf := fwF_lt (FN + 1) f hr
    have a1 := c_add (I := I) (A := A1) (L := L) (pr := pr) (ot := ot) (T := T) (v := (iN f).toInt64) (n := 0) (by decide)
    have g1 := c.i.grades (I := u2 I 9 1 (iN 1)) (L := vp_updL L 0 (iN f).toInt64) (pr := pr) (ot := ot) (T := T) (m := iN f) k1
    have a2 := c_add (I := I) (A := A1) (L := vp_updL L 0 (iN f).toInt64) (pr := pr) (ot := ot) (T := T) (v := (grS A G (iN f)).toInt64) (n := 1) (by decide)
    refine ⟨u2 I 9 1 (iN 2), A1, vp_updL (vp_updL L 0 (iN f).toInt64) 1 (grS A G (iN f)).toInt64, en _ ?_, frI.u, k1, by simp, row_2 rfl⟩
    unfold eF kxF
    dsimp only
    simp only [iN_lit]
    simp (disch := first | omega | assumption | (simp (disch := omega) only [iN_lit, iN_add, iN_mul, iN_pred, iN_pred', iN_lt, iN_le, iN_eq, iN_nat, nlt_t, nlt_f, nle_t, nle_f, neq_t, neq_f, List.length_nil, List.length_cons, or_false, false_or, or_self, not_false_eq_true, not_true_eq_false, ↓reduceIte, if_true, if_false, Bool.false_eq_true, Nat.reduceAdd])) only [fX4_fewestFor, ↓bK_35, ↓bK_9, ↓bR_35_3, ↓hb_of (c_start), ↓hb_of (c_bitCount), ↓hb_some, ↓bd_some, ↓letE_eq, h_z0, h_z1, h_zi0, h_zi1, ↓hb_of c_start, ↓hb_of a1, ↓hb_of g1, ↓hb_of a2, ↓hb_of c_bitCount, iN_lit, iN_add, iN_mul, iN_pred, iN_pred', iN_lt, iN_le, iN_eq, iN_nat, nlt_t, nlt_f, nle_t, nle_f, neq_t, neq_f, List.length_nil, List.length_cons, or_false, false_or, or_self, not_false_eq_true, not_true_eq_false, ↓reduceIte, if_true, if_false, Bool.false_eq_true, Nat.reduceAdd]
theorem few_M (mk : MKK A (u1 J 13 (iN 0)) B G P W ru pu) (hp : p < P) (hw : w < W) (hn : n ≤ 20) (hFN : FN < 256) (hfr : frS (A 28) G p = iN FN) {r : Option Nat} (hr : fwF A G FN (fun k => hasB (wwS A pu G W p (iN k) n (A 28)) w) (FN + 1) = r) :
    qM J B M rdv ru (fX12_fewest 45 (iN p) (iN w) (iN n)) (match r with | none => -2 | some f => bc (iN f)) (r.map (fun f => [(iN f).toInt64, (grS A G (iN f)).toInt64])) := by
  intro I E L pr ot T
  obtain ⟨cc, hcc⟩ : ∃ cc, cc = (fun k => hasB (wwS A pu G W p (iN k) n (A 28)) w) := ⟨_, rfl⟩
  have hcg : ∀ k, hasB (wwS A pu G W p (iN k) n (A 28)) w = cc k := fun g => by rw [hcc]
  rw [← hcc] at hr
  have f0 := mk.free (I := I) (E := E) (L := L) (pr := pr) (ot := ot) (M := M) (rdv' := rdv) (T := T) frRJ.refl frRB.refl hp
  rw [hfr] at f0
  have key := lp_k (fun (kx : Int32 → PH → Option (Int32 × PH)) n' k (q : (Nat → Int32) × (Nat → Nat → Int32) × Value) => fX12_fewest_L46 45 (iN p) (iN w) (iN n) (iN FN) kx n' (eM (fwF A G FN cc k)) (iN k) (encC I E L pr ot (encR (q.1) (q.2.1) M (q.2.2) ru T))) (fun kx q => kx (eM r) (encC I E L pr ot (encR (q.1) (q.2.1) M (q.2.2) ru T))) (fun k q => frJ (u1 J 13 (iN 0)) q.1 ∧ frRB B q.2.1) (FN + 1)
    (fun k q hk hi => by
      obtain ⟨J1, B1, rdv1⟩ := q
      obtain ⟨i1, i2⟩ := hi
      dsimp only at i1 i2
      have e1 : fwF A G FN cc (k + 1) = if (decide ((iN k &&& (iN FN ^^^ (-1 : Int32))) = 0) && lessB A G (fwF A G FN cc k) k) && cc k then some k else fwF A G FN cc k := rfl
      by_cases hs : (iN k &&& (iN FN ^^^ (-1 : Int32))) = 0
      · have hs' : (iN k &&& (iN FN ^^^ -iN 1)) = iN 0 := hs
        rw [decide_eq_true hs, Bool.true_and] at e1
        obtain ⟨J2, B2, rdv2, g1, g2, g3⟩ := mk.with_ (I := I) (E := E) (L := L) (pr := pr) (ot := ot) (M := M) (rdv' := rdv1) (T := T) (m := iN k) (n := n) i1 i2 hp (by omega)
        have gA := fun (m : Int32) => mk.grades (I := I) (E := E) (L := L) (pr := pr) (ot := ot) (M := M) (rdv' := rdv1) (T := T) (m := m) i1.rj i2
        cases ho : fwF A G FN cc k with
        | none =>
          rw [ho] at e1
          have e1' : fwF A G FN cc (k + 1) = if cc k then some k else none := e1
          refine ⟨(J2, B2, rdv2), ⟨g2, g3⟩, fun kx n' => ?_⟩
          dsimp only
          cases hb : cc k with
          | false =>
            rw [hb] at e1'
            rw [e1', if_neg (by decide)]
            unfold eM
            simp (disch := first | omega | assumption | (simp (disch := omega) only [iN_lit, iN_add, iN_mul, iN_pred, iN_pred', iN_lt, iN_le, iN_eq, iN_nat, nlt_t, nlt_f, nle_t, nle_f, neq_t, neq_f, List.length_nil, List.length_cons, or_false, false_or, or_self, not_false_eq_true, not_true_eq_false, ↓reduceIte, if_true, if_false, Bool.false_eq_true, Nat.reduceAdd])) only [fX12_fewest_L46, fX12_fewest_J142_46, fX12_fewest_J123_46, ↓brK, fX12_fewest_J87_46, ↓hb_of (c_bitCount), ↓hb_some, ↓bd_some, ↓letE_eq, h_z0, h_z1, h_zi0, h_zi1, ↓hb_of g1, ↓hb_of (has_n ((hcg k).trans hb)), iN_lit, iN_add, iN_mul, iN_pred, iN_pred', iN_lt, iN_le, iN_eq, iN_nat, nlt_t, nlt_f, nle_t, nle_f, neq_t, neq_f, List.length_nil, List.length_cons, or_false, false_or, or_self, not_false_eq_true, not_true_eq_false, ↓reduceIte, if_true, if_false, Bool.false_eq_true, Nat.reduceAdd, hs']
          | true =>
            rw [hb] at e1'
            rw [e1', if_pos rfl]
            unfold eM
            simp (disch := first | omega | assumption | (simp (disch := omega) only [iN_lit, iN_add, iN_mul, iN_pred, iN_pred', iN_lt, iN_le, iN_eq, iN_nat, nlt_t, nlt_f, nle_t, nle_f, neq_t, neq_f, List.length_nil, List.length_cons, or_false, false_or, or_self, not_false_eq_true, not_true_eq_false, ↓reduceIte, if_true, if_false, Bool.false_eq_true, Nat.reduceAdd])) only [fX12_fewest_L46, fX12_fewest_J142_46, fX12_fewest_J123_46, ↓brK, fX12_fewest_J87_46, ↓hb_of (c_bitCount), ↓hb_some, ↓bd_some, ↓letE_eq, h_z0, h_z1, h_zi0, h_zi1, ↓hb_of g1, ↓hb_of (has_y ((hcg k).trans hb)), iN_lit, iN_add, iN_mul, iN_pred, iN_pred', iN_lt, iN_le, iN_eq, iN_nat, nlt_t, nlt_f, nle_t, nle_f, neq_t, neq_f, List.length_nil, List.length_cons, or_false, false_or, or_self, not_false_eq_true, not_true_eq_false, ↓reduceIte, if_true, if_false, Bool.false_eq_true, Nat.reduceAdd, hs']
        | some f =>
          have hf := fwF_lt k f ho
          have hne : (iN f = -iN 1) = False := ne_m (by omega) (by decide) (by decide)
          rw [ho] at e1
          unfold lessB at e1
          dsimp only at e1
          obtain ⟨d, hd⟩ : ∃ d, bc (iN k) - bc (iN f) = d := ⟨_, rfl⟩
          simp only [hd] at e1
          by_cases h1 : d < 0
          · rw [decide_eq_true h1, Bool.true_or] at e1
            have h3 : ¬ iN 0 < d := fun c => (ntri c).1 h1
            have h4 : ¬ d = iN 0 := fun c => by rw [c] at h1; exact absurd h1 (by decide)
            refine ⟨(J2, B2, rdv2), ⟨g2, g3⟩, fun kx n' => ?_⟩
            dsimp only
            cases hb : cc k with
            | false =>
              rw [hb] at e1
              rw [e1, Bool.and_false, if_neg (by decide)]
              unfold eM
              simp (disch := first | omega | assumption | (simp (disch := omega) only [iN_lit, iN_add, iN_mul, iN_pred, iN_pred', iN_lt, iN_le, iN_eq, iN_nat, nlt_t, nlt_f, nle_t, nle_f, neq_t, neq_f, List.length_nil, List.length_cons, or_false, false_or, or_self, not_false_eq_true, not_true_eq_false, ↓reduceIte, if_true, if_false, Bool.false_eq_true, Nat.reduceAdd])) only [fX12_fewest_L46, fX12_fewest_J142_46, fX12_fewest_J123_46, ↓brK, fX12_fewest_J87_46, ↓hb_of (c_bitCount), ↓hb_some, ↓bd_some, ↓letE_eq, h_z0, h_z1, h_zi0, h_zi1, ↓hb_of g1, ↓hb_of (has_n ((hcg k).trans hb)), ↓hb_of c_bitCount, iN_lit, iN_add, iN_mul, iN_pred, iN_pred', iN_lt, iN_le, iN_eq, iN_nat, nlt_t, nlt_f, nle_t, nle_f, neq_t, neq_f, List.length_nil, List.length_cons, or_false, false_or, or_self, not_false_eq_true, not_true_eq_false, ↓reduceIte, if_true, if_false, Bool.false_eq_true, Nat.reduceAdd, hs', hne, hd, h3, h4]
            | true =>
              rw [hb] at e1
              rw [e1, Bool.and_true, if_pos rfl]
              unfold eM
              simp (disch := first | omega | assumption | (simp (disch := omega) only [iN_lit, iN_add, iN_mul, iN_pred, iN_pred', iN_lt, iN_le, iN_eq, iN_nat, nlt_t, nlt_f, nle_t, nle_f, neq_t, neq_f, List.length_nil, List.length_cons, or_false, false_or, or_self, not_false_eq_true, not_true_eq_false, ↓reduceIte, if_true, if_false, Bool.false_eq_true, Nat.reduceAdd])) only [fX12_fewest_L46, fX12_fewest_J142_46, fX12_fewest_J123_46, ↓brK, fX12_fewest_J87_46, ↓hb_of (c_bitCount), ↓hb_some, ↓bd_some, ↓letE_eq, h_z0, h_z1, h_zi0, h_zi1, ↓hb_of g1, ↓hb_of (has_y ((hcg k).trans hb)), ↓hb_of c_bitCount, iN_lit, iN_add, iN_mul, iN_pred, iN_pred', iN_lt, iN_le, iN_eq, iN_nat, nlt_t, nlt_f, nle_t, nle_f, neq_t, neq_f, List.length_nil, List.length_cons, or_false, false_or, or_self, not_false_eq_true, not_true_eq_false, ↓reduceIte, if_true, if_false, Bool.false_eq_true, Nat.reduceAdd, hs', hne, hd, h3, h4]
          · rw [decide_eq_false h1, Bool.false_or] at e1
            by_cases h2 : d = 0
            · have h2' : d = iN 0 := h2
              have h00 : (iN 0 < iN 0) = False := eq_false (by decide)
              rw [decide_eq_true h2, Bool.true_and] at e1
              by_cases h5 : grS A G (iN k) < grS A G (iN f)
              · rw [decide_eq_true h5] at e1
                refine ⟨(J2, B2, rdv2), ⟨g2, g3⟩, fun kx n' => ?_⟩
                dsimp only
                cases hb : cc k with
                | false =>
                  rw [hb] at e1
                  rw [e1, Bool.and_false, if_neg (by decide)]
                  unfold eM
                  simp (disch := first | omega | assumption | (simp (disch := omega) only [iN_lit, iN_add, iN_mul, iN_pred, iN_pred', iN_lt, iN_le, iN_eq, iN_nat, nlt_t, nlt_f, nle_t, nle_f, neq_t, neq_f, List.length_nil, List.length_cons, or_false, false_or, or_self, not_false_eq_true, not_true_eq_false, ↓reduceIte, if_true, if_false, Bool.false_eq_true, Nat.reduceAdd])) only [fX12_fewest_L46, fX12_fewest_J142_46, fX12_fewest_J123_46, ↓brK, fX12_fewest_J87_46, ↓hb_of (c_bitCount), ↓hb_some, ↓bd_some, ↓letE_eq, h_z0, h_z1, h_zi0, h_zi1, ↓hb_of g1, ↓hb_of (has_n ((hcg k).trans hb)), ↓hb_of c_bitCount, ↓hb_of (gA _), iN_lit, iN_add, iN_mul, iN_pred, iN_pred', iN_lt, iN_le, iN_eq, iN_nat, nlt_t, nlt_f, nle_t, nle_f, neq_t, neq_f, List.length_nil, List.length_cons, or_false, false_or, or_self, not_false_eq_true, not_true_eq_false, ↓reduceIte, if_true, if_false, Bool.false_eq_true, Nat.reduceAdd, hs', hne, hd, h2', h00, h5]
                | true =>
                  rw [hb] at e1
                  rw [e1, Bool.and_true, if_pos rfl]
                  unfold eM
                  simp (disch := first | omega | assumption | (simp (disch := omega) only [iN_lit, iN_add, iN_mul, iN_pred, iN_pred', iN_lt, iN_le, iN_eq, iN_nat, nlt_t, nlt_f, nle_t, nle_f, neq_t, neq_f, List.length_nil, List.length_cons, or_false, false_or, or_self, not_false_eq_true, not_true_eq_false, ↓reduceIte, if_true, if_false, Bool.false_eq_true, Nat.reduceAdd])) only [fX12_fewest_L46, fX12_fewest_J142_46, fX12_fewest_J123_46, ↓brK, fX12_fewest_J87_46, ↓hb_of (c_bitCount), ↓hb_some, ↓bd_some, ↓letE_eq, h_z0, h_z1, h_zi0, h_zi1, ↓hb_of g1, ↓hb_of (has_y ((hcg k).trans hb)), ↓hb_of c_bitCount, ↓hb_of (gA _), iN_lit, iN_add, iN_mul, iN_pred, iN_pred', iN_lt, iN_le, iN_eq, iN_nat, nlt_t, nlt_f, nle_t, nle_f, neq_t, neq_f, List.length_nil, List.length_cons, or_false, false_or, or_self, not_false_eq_true, not_true_eq_false, ↓reduceIte, if_true, if_false, Bool.false_eq_true, Nat.reduceAdd, hs', hne, hd, h2', h00, h5]
              · rw [decide_eq_false h5, Bool.false_and, if_neg (by decide)] at e1
                refine ⟨(J1, B1, rdv1), ⟨i1, i2⟩, fun kx n' => ?_⟩
                dsimp only
                rw [e1]
                unfold eM
                simp (disch := first | omega | assumption | (simp (disch := omega) only [iN_lit, iN_add, iN_mul, iN_pred, iN_pred', iN_lt, iN_le, iN_eq, iN_nat, nlt_t, nlt_f, nle_t, nle_f, neq_t, neq_f, List.length_nil, List.length_cons, or_false, false_or, or_self, not_false_eq_true, not_true_eq_false, ↓reduceIte, if_true, if_false, Bool.false_eq_true, Nat.reduceAdd])) only [fX12_fewest_L46, fX12_fewest_J142_46, fX12_fewest_J123_46, ↓brK, fX12_fewest_J87_46, ↓hb_of (c_bitCount), ↓hb_some, ↓bd_some, ↓letE_eq, h_z0, h_z1, h_zi0, h_zi1, ↓hb_of c_bitCount, ↓hb_of (gA _), iN_lit, iN_add, iN_mul, iN_pred, iN_pred', iN_lt, iN_le, iN_eq, iN_nat, nlt_t, nlt_f, nle_t, nle_f, neq_t, neq_f, List.length_nil, List.length_cons, or_false, false_or, or_self, not_false_eq_true, not_true_eq_false, ↓reduceIte, if_true, if_false, Bool.false_eq_true, Nat.reduceAdd, hs', hne, hd, h2', h00, h5]
            · have h6 : iN 0 < d := tri h1 h2
              rw [decide_eq_false h2, Bool.false_and, Bool.false_and, if_neg (by decide)] at e1
              refine ⟨(J1, B1, rdv1), ⟨i1, i2⟩, fun kx n' => ?_⟩
              dsimp only
              rw [e1]
              unfold eM
              simp (disch := first | omega | assumption | (simp (disch := omega) only [iN_lit, iN_add, iN_mul, iN_pred, iN_pred', iN_lt, iN_le, iN_eq, iN_nat, nlt_t, nlt_f, nle_t, nle_f, neq_t, neq_f, List.length_nil, List.length_cons, or_false, false_or, or_self, not_false_eq_true, not_true_eq_false, ↓reduceIte, if_true, if_false, Bool.false_eq_true, Nat.reduceAdd])) only [fX12_fewest_L46, fX12_fewest_J142_46, fX12_fewest_J123_46, ↓brK, fX12_fewest_J87_46, ↓hb_of (c_bitCount), ↓hb_some, ↓bd_some, ↓letE_eq, h_z0, h_z1, h_zi0, h_zi1, ↓hb_of c_bitCount, iN_lit, iN_add, iN_mul, iN_pred, iN_pred', iN_lt, iN_le, iN_eq, iN_nat, nlt_t, nlt_f, nle_t, nle_f, neq_t, neq_f, List.length_nil, List.length_cons, or_false, false_or, or_self, not_false_eq_true, not_true_eq_false, ↓reduceIte, if_true, if_false, Bool.false_eq_true, Nat.reduceAdd, hs', hne, hd, h6]
      · have hs' : ¬ (iN k &&& (iN FN ^^^ -iN 1)) = iN 0 := hs
        rw [decide_eq_false hs, Bool.false_and, Bool.false_and, if_neg (by decide)] at e1
        refine ⟨(J1, B1, rdv1), ⟨i1, i2⟩, fun kx n' => ?_⟩
        dsimp only
        rw [e1]
        simp (disch := first | omega | assumption | (simp (disch := omega) only [iN_lit, iN_add, iN_mul, iN_pred, iN_pred', iN_lt, iN_le, iN_eq, iN_nat, nlt_t, nlt_f, nle_t, nle_f, neq_t, neq_f, List.length_nil, List.length_cons, or_false, false_or, or_self, not_false_eq_true, not_true_eq_false, ↓reduceIte, if_true, if_false, Bool.false_eq_true, Nat.reduceAdd])) only [fX12_fewest_L46, fX12_fewest_J142_46, fX12_fewest_J123_46, ↓brK, fX12_fewest_J87_46, ↓hb_of (c_bitCount), ↓hb_some, ↓bd_some, ↓letE_eq, h_z0, h_z1, h_zi0, h_zi1, iN_lit, iN_add, iN_mul, iN_pred, iN_pred', iN_lt, iN_le, iN_eq, iN_nat, nlt_t, nlt_f, nle_t, nle_f, neq_t, neq_f, List.length_nil, List.length_cons, or_false, false_or, or_self, not_false_eq_true, not_true_eq_false, ↓reduceIte, if_true, if_false, Bool.false_eq_true, Nat.reduceAdd, hs'])
    (fun q hi kx n' => by
      rw [hr]
      simp (disch := first | omega | assumption | (simp (disch := omega) only [iN_lit, iN_add, iN_mul, iN_pred, iN_pred', iN_lt, iN_le, iN_eq, iN_nat, nlt_t, nlt_f, nle_t, nle_f, neq_t, neq_f, List.length_nil, List.length_cons, or_false, false_or, or_self, not_false_eq_true, not_true_eq_false, ↓reduceIte, if_true, if_false, Bool.false_eq_true, Nat.reduceAdd])) only [fX12_fewest_L46, fX12_fewest_J142_46, fX12_fewest_J123_46, ↓brK, fX12_fewest_J87_46, ↓hb_of (c_bitCount), ↓hb_of (has_y _), ↓hb_of (has_n _), ↓hb_some, ↓bd_some, ↓letE_eq, h_z0, h_z1, h_zi0, h_zi1, iN_lit, iN_add, iN_mul, iN_pred, iN_pred', iN_lt, iN_le, iN_eq, iN_nat, nlt_t, nlt_f, nle_t, nle_f, neq_t, neq_f, List.length_nil, List.length_cons, or_false, false_or, or_self, not_false_eq_true, not_true_eq_false, ↓reduceIte, if_true, if_false, Bool.false_eq_true, Nat.reduceAdd]) (FN + 1) 0 (u1 J 13 (iN 0), B, rdv) (by omega) ⟨frJ.refl, frRB.refl⟩
  obtain ⟨⟨J1, B1, rdv1⟩, ⟨k0, k1⟩, k2⟩ := key
  dsimp only at k0 k1 k2
  have k3 := k2 kxFm FU (by unfold FU; omega)
  have en : ∀ z, kxFm (eM r) (encC I E L pr ot (encR J1 B1 M rdv1 ru T)) = z → fX12_fewest 45 (iN p) (iN w) (iN n) (encC I E L pr ot (encR J B M rdv ru T)) = z := by
    intro z hz
    unfold fX12_fewest
    rw [brW_13, brK, hb_of (show fX12_isMan 45 (iN p) (encC I E L pr ot (encR (u1 J 13 0) B M rdv ru T)) = some (1, (encC I E L pr ot (encR (u1 J 13 0) B M rdv ru T))) from r_isMan mk.1 hp), if_1z, brK, hb_of (show fX12_isWant 45 (iN w) (encC I E L pr ot (encR (u1 J 13 0) B M rdv ru T)) = some (1, (encC I E L pr ot (encR (u1 J 13 0) B M rdv ru T))) from r_isWant mk.1 hw), if_1z, hb_of (show fX12_in (iN n) (0 : Int32) (20 : Int32) (encC I E L pr ot (encR (u1 J 13 0) B M rdv ru T)) = some (1, (encC I E L pr ot (encR (u1 J 13 0) B M rdv ru T))) from in_y (Nat.zero_le n) hn (by decide)), if_1z, brK, hb_of (show fX12_free 45 (iN p) (encC I E L pr ot (encR (u1 J 13 0) B M rdv ru T)) = some (iN FN, (encC I E L pr ot (encR (u1 J 13 0) B M rdv ru T))) from f0)]
    exact k3.trans hz
  cases r with
  | none => exact ⟨J1, B1, M, rdv1, en _ (if_pos rfl), (frRJ.u (by decide)).trans k0.rj, k1, k0 12 (by decide) (by decide) (by decide) (by decide) (by decide), rfl⟩
  | some f =>
    have hf := fwF_lt (FN + 1) f hr
    have hne : (iN f = -iN 1) = False := ne_m (by omega) (by decide) (by decide)
    have a1 := r_tell (I := I) (E := E) (L := L) (pr := pr) (ot := ot) (J := u1 J1 12 (iN 0)) (B := B1) (M := M) (rdv := rdv1) (ru := ru) (T := T) (v := (iN f).toInt64) (n := 0) (by rw [u1_eq, if_pos rfl]) (by decide)
    rw [u1_u1] at a1
    have g1 := mk.grades (I := I) (E := E) (L := L) (pr := pr) (ot := ot) (J' := u1 J1 12 (iN 1)) (M := vp_updL M 0 (iN f).toInt64) (rdv' := rdv1) (T := T) (m := iN f) (k0.rj.trans (frRJ.u (by decide))) k1
    have a2 := r_tell (I := I) (E := E) (L := L) (pr := pr) (ot := ot) (J := u1 J1 12 (iN 1)) (B := B1) (M := vp_updL M 0 (iN f).toInt64) (rdv := rdv1) (ru := ru) (T := T) (v := (grS A G (iN f)).toInt64) (n := 1) (by rw [u1_eq, if_pos rfl]) (by decide)
    rw [u1_u1] at a2
    refine ⟨u1 J1 12 (iN 2), B1, vp_updL (vp_updL M 0 (iN f).toInt64) 1 (grS A G (iN f)).toInt64, rdv1, en _ ?_, ((frRJ.u (by decide)).trans k0.rj).trans (frRJ.u (by decide)), k1, by simp, by rw [u1_eq, if_pos rfl]; exact row_2 rfl⟩
    unfold eM kxFm
    dsimp only
    simp only [iN_lit]
    simp (disch := first | omega | assumption | (simp (disch := omega) only [iN_lit, iN_add, iN_mul, iN_pred, iN_pred', iN_lt, iN_le, iN_eq, iN_nat, nlt_t, nlt_f, nle_t, nle_f, neq_t, neq_f, List.length_nil, List.length_cons, or_false, false_or, or_self, not_false_eq_true, not_true_eq_false, ↓reduceIte, if_true, if_false, Bool.false_eq_true, Nat.reduceAdd])) only [fX12_fewest, ↓brK, ↓brW_13, ↓brW_12, ↓hb_of (isM_n _ _), ↓hb_of (r_isMan _ _), ↓hb_of (isW_n _ _), ↓hb_of (r_isWant _ _), ↓hb_of (in_y _ _ _), ↓hb_of (in_n _), ↓hb_of (c_bitCount), ↓hb_some, ↓bd_some, ↓letE_eq, h_z0, h_z1, h_zi0, h_zi1, ↓hb_of a1, ↓hb_of g1, ↓hb_of a2, ↓hb_of c_bitCount, iN_lit, iN_add, iN_mul, iN_pred, iN_pred', iN_lt, iN_le, iN_eq, iN_nat, nlt_t, nlt_f, nle_t, nle_f, neq_t, neq_f, List.length_nil, List.length_cons, or_false, false_or, or_self, not_false_eq_true, not_true_eq_false, ↓reduceIte, if_true, if_false, Bool.false_eq_true, Nat.reduceAdd, hne]
theorem p_fewest (h : INV s I A L pr ot J B M ru G P W) (x y z : Int32) : pairG s I A L pr ot J B M rdv ru out (fX11_fewest 0 x y z) (fX12_fewest 45 x y z) := by
  have hI := h
  obtain ⟨pu, ck, -, mk⟩ := h.km
  obtain ⟨hF, hM, hpl, hz, hc, hn2, -⟩ := h
  have h6 := hM.2.2.2.2.1
  have h7 := hM.2.2.2.2.2.1
  have hMb : FM A (u1 J 13 (iN 0)) B G P W := mk.1
  rcases arg_lt P (by omega) x with ⟨p, hp, rfl⟩ | hx
  · rcases arg_lt W (by omega) y with ⟨w, hw, rfl⟩ | hy
    · rcases arg_le 20 (by decide) z with ⟨n, hn, rfl⟩ | hzz
      · obtain ⟨FN, hFN, hfr⟩ := frS_n (Z := A 28) (p := p) hM.2.2.2.1
        refine pairG_q hI (fun T => ?_) (few_M mk hp hw hn hFN hfr rfl)
        obtain ⟨I1, A1, L1, e1, e2⟩ := few_C (L := L) (ot := ot) (T := T) ck hp hw hn hFN hfr rfl
        refine ⟨I1, A1, L1, ?_, e2⟩
        unfold fX11_fewest
        rw [bR_0_7, bK_11, hb_of (hasP_y hF hp), if_1z, bR_0_7, bK_11, hb_of (hasW_y hF hw), if_1z, hb_of (show fX11_within (iN n) (0 : Int32) (20 : Int32) (encC I A L pr ot T) = some (1, (encC I A L pr ot T)) from within_y (Nat.zero_le n) hn (by decide)), if_1z, bR_0_10, bK_35, hb_of e1]
      · refine pairG_q (ans := -1) hI (fun T => qC_no ?_) (qM_no (fun I E L pr ot T => ?_))
        · simp (disch := first | omega | assumption | (simp (disch := omega) only [iN_lit, iN_add, iN_mul, iN_pred, iN_pred', iN_lt, iN_le, iN_eq, iN_nat, nlt_t, nlt_f, nle_t, nle_f, neq_t, neq_f, List.length_nil, List.length_cons, or_false, false_or, or_self, not_false_eq_true, not_true_eq_false, ↓reduceIte, if_true, if_false, Bool.false_eq_true, Nat.reduceAdd])) only [fX11_fewest, ↓bK_11, ↓bK_35, ↓bR_0_7, ↓bR_0_10, ↓hb_of (hasP_y _ _), ↓hb_of (hasP_n _ _), ↓hb_of (hasW_y _ _), ↓hb_of (hasW_n _ _), ↓hb_of (within_y _ _ _), ↓hb_of (within_n _), ↓hb_some, ↓bd_some, ↓letE_eq, h_z0, h_z1, h_zi0, h_zi1, ↓hb_of (hasP_y hF hp), ↓hb_of (hasW_y hF hw), iN_lit, iN_add, iN_mul, iN_pred, iN_pred', iN_lt, iN_le, iN_eq, iN_nat, nlt_t, nlt_f, nle_t, nle_f, neq_t, neq_f, List.length_nil, List.length_cons, or_false, false_or, or_self, not_false_eq_true, not_true_eq_false, ↓reduceIte, if_true, if_false, Bool.false_eq_true, Nat.reduceAdd]
        · unfold fX12_fewest
          simp only [iN_lit]
          rw [brW_13, brK, hb_of (r_isMan hMb hp), if_10, brK, hb_of (r_isWant hMb hw), if_10, hb_of (in_n (show ¬ (iN 0 ≤ z ∧ z ≤ iN 20) from hzz)), if_00]
    · refine pairG_q (ans := -1) hI (fun T => qC_no ?_) (qM_no (fun I E L pr ot T => ?_))
      · simp (disch := first | omega | assumption | (simp (disch := omega) only [iN_lit, iN_add, iN_mul, iN_pred, iN_pred', iN_lt, iN_le, iN_eq, iN_nat, nlt_t, nlt_f, nle_t, nle_f, neq_t, neq_f, List.length_nil, List.length_cons, or_false, false_or, or_self, not_false_eq_true, not_true_eq_false, ↓reduceIte, if_true, if_false, Bool.false_eq_true, Nat.reduceAdd])) only [fX11_fewest, ↓bK_11, ↓bK_35, ↓bR_0_7, ↓bR_0_10, ↓hb_of (hasP_y _ _), ↓hb_of (hasP_n _ _), ↓hb_of (hasW_y _ _), ↓hb_of (hasW_n _ _), ↓hb_of (within_y _ _ _), ↓hb_of (within_n _), ↓hb_some, ↓bd_some, ↓letE_eq, h_z0, h_z1, h_zi0, h_zi1, ↓hb_of (hasP_y hF hp), ↓hb_of (hasW_n hF hy), iN_lit, iN_add, iN_mul, iN_pred, iN_pred', iN_lt, iN_le, iN_eq, iN_nat, nlt_t, nlt_f, nle_t, nle_f, neq_t, neq_f, List.length_nil, List.length_cons, or_false, false_or, or_self, not_false_eq_true, not_true_eq_false, ↓reduceIte, if_true, if_false, Bool.false_eq_true, Nat.reduceAdd]
      · unfold fX12_fewest
        simp only [iN_lit]
        rw [brW_13, brK, hb_of (r_isMan hMb hp), if_10, brK, hb_of (isW_n hMb hy), if_00]
  · refine pairG_q (ans := -1) hI (fun T => qC_no ?_) (qM_no (fun I E L pr ot T => ?_))
    · simp (disch := first | omega | assumption | (simp (disch := omega) only [iN_lit, iN_add, iN_mul, iN_pred, iN_pred', iN_lt, iN_le, iN_eq, iN_nat, nlt_t, nlt_f, nle_t, nle_f, neq_t, neq_f, List.length_nil, List.length_cons, or_false, false_or, or_self, not_false_eq_true, not_true_eq_false, ↓reduceIte, if_true, if_false, Bool.false_eq_true, Nat.reduceAdd])) only [fX11_fewest, ↓bK_11, ↓bK_35, ↓bR_0_7, ↓bR_0_10, ↓hb_of (hasP_y _ _), ↓hb_of (hasP_n _ _), ↓hb_of (hasW_y _ _), ↓hb_of (hasW_n _ _), ↓hb_of (within_y _ _ _), ↓hb_of (within_n _), ↓hb_some, ↓bd_some, ↓letE_eq, h_z0, h_z1, h_zi0, h_zi1, ↓hb_of (hasP_n hF hx), iN_lit, iN_add, iN_mul, iN_pred, iN_pred', iN_lt, iN_le, iN_eq, iN_nat, nlt_t, nlt_f, nle_t, nle_f, neq_t, neq_f, List.length_nil, List.length_cons, or_false, false_or, or_self, not_false_eq_true, not_true_eq_false, ↓reduceIte, if_true, if_false, Bool.false_eq_true, Nat.reduceAdd]
    · unfold fX12_fewest
      simp only [iN_lit]
      rw [brW_13, brK, hb_of (isM_n hMb hx), if_00]
end FW
