/-! CALLS: quarrels, peace -/
def odH (A : Nat → Nat → Int32) (a b : Nat) (x : Int32) (h : Nat) : Bool :=
  !decide (A 13 (a * 4 + h) = -1) && (!decide (A 13 (b * 4 + h) = -1) && !decide ((if 0 ≤ A 13 (a * 4 + h) - A 13 (b * 4 + h) then A 13 (a * 4 + h) - A 13 (b * 4 + h) else 0 - (A 13 (a * 4 + h) - A 13 (b * 4 + h))) ≤ x))
def odB (A : Nat → Nat → Int32) (x : Int32) (a b : Nat) : Bool := !allB (fun h => !odH A a b x h) 4
def prB (A : Nat → Nat → Int32) (x m : Int32) (a b : Nat) : Bool := hasB m a && (hasB m b && odB A x a b)
def peB (A : Nat → Nat → Int32) (G : Nat) (x m : Int32) : Bool := (fnd (fun a => (fnd (prB A x m a) (G - (a + 1)) (a + 1)).isSome) G 0).isNone
/-- pairs that quarrel: how many, the first -/
def qStep (A : Nat → Nat → Int32) (x : Int32) (a b : Nat) (s : Nat × List Int64) : Nat × List Int64 :=
  if odB A x a b then (s.1 + 1, if s.1 = 0 then [(iN a).toInt64, (iN b).toInt64] else s.2) else s
def qI (A : Nat → Nat → Int32) (x : Int32) (a : Nat) (s : Nat × List Int64) : Nat → Nat × List Int64
  | 0 => s
  | k + 1 => qStep A x a (a + 1 + k) (qI A x a s k)
def qO (A : Nat → Nat → Int32) (G : Nat) (x : Int32) : Nat → Nat × List Int64
  | 0 => (0, [])
  | a + 1 => qI A x a (qO A G x a) (G - (a + 1))
def qOK (c : Nat) (s : Nat × List Int64) : Prop := s.1 ≤ c ∧ s.2.length ≤ 2 ∧ (s.1 = 0 → s.2 = [])
theorem qOK.step {A : Nat → Nat → Int32} {x : Int32} {a b c : Nat} {s : Nat × List Int64} (h : qOK c s) : qOK (c + 1) (qStep A x a b s) := by
  obtain ⟨h1, h2, h3⟩ := h
  unfold qStep
  split
  · refine ⟨by dsimp only; omega, ?_, fun e => ?_⟩
    · dsimp only
      split
      · exact Nat.le_refl 2
      · exact h2
    · dsimp only at e; omega
  · exact ⟨by omega, h2, h3⟩
theorem qOK.in_ {A : Nat → Nat → Int32} {x : Int32} {a c : Nat} {s : Nat × List Int64} (h : qOK c s) : ∀ k, qOK (c + k) (qI A x a s k)
  | 0 => h
  | k + 1 => (qOK.in_ h k).step
theorem qOK.out {A : Nat → Nat → Int32} {x : Int32} {G : Nat} : ∀ a, qOK (a * G) (qO A G x a)
  | 0 => ⟨by unfold qO; omega, by unfold qO; exact Nat.zero_le _, fun _ => rfl⟩
  | a + 1 => by
    have h := (qOK.out (A := A) (x := x) (G := G) a).in_ (A := A) (x := x) (a := a) (G - (a + 1))
    obtain ⟨h1, h2, h3⟩ := h
    refine ⟨?_, h2, h3⟩
    have : a * G + (G - (a + 1)) ≤ (a + 1) * G := by rw [Nat.add_mul]; omega
    exact Nat.le_trans h1 this
theorem shl_n : ∀ k : Fin 9, ((1 : Int32) <<< (iN k.val &&& 31)) = iN (2 ^ k.val) := by decide +kernel
theorem p2 : ∀ {G : Nat}, G ≤ 8 → 0 < 2 ^ G ∧ 2 ^ G ≤ 256 := by
  intro G h
  have key : ∀ k : Fin 9, 0 < 2 ^ k.val ∧ 2 ^ k.val ≤ 256 := by decide
  exact key ⟨G, by omega⟩
def pcF (A : Nat → Nat → Int32) (G : Nat) (x : Int32) : Nat → Nat
  | 0 => 0
  | k + 1 => if bc (iN (k + 1)) ≤ bc (iN (pcF A G x k)) then pcF A G x k else if peB A G x (iN (k + 1)) then k + 1 else pcF A G x k
section QU
variable {I A E I' A' : Nat → Nat → Int32} {L L' : Nat → Int64} {pr ot s : Nat} {J J' : Nat → Int32} {B B' : Nat → Nat → Int32} {M M' : Nat → Int64} {rdv rdv' : Value} {ru : Nat} {T : PH} {G P W p q g n nr sz ro oa w t k : Nat} {Z Z' R X : Nat → Int32} {x y z i2 m : Int32} {out : Nat → Int64} {pu : (Nat → Int32) → Int32} {a b : Nat}
theorem c_odds (hF : FS I G P W) (ha : a < G) (hb : b < G) : fX0_areAtOdds 11 (iN a) (iN b) x (encC I A L pr ot T) = some ((if odB A x a b then 1 else 0), (encC I A L pr ot T)) := by
  obtain ⟨hG, -, -, h8, -⟩ := hF
  have key := lp_br (fun n k (_ : Unit) => fX0_areAtOdds_L3 11 (iN a) (iN b) x (fun h1 => h_z (0 : Int32) (some ((0 : Int32), h1))) n (iN k) (encC I A L pr ot T)) (fun k _ => allB (fun h => !odH A a b x h) k = true) (fun z => z = some ((if odB A x a b then 1 else 0), (encC I A L pr ot T))) 4 ?_ ?_ 4 0 () (by omega) rfl
  · obtain ⟨z, hz, hz2⟩ := key
    rw [← hz]; exact hz2 FU (by unfold FU; omega)
  · intro k _ hk hi
    have f1 := c_pullOf (A := A) (L := L) (pr := pr) (ot := ot) (T := T) (I := I) (g := a) (k := k) hG h8 ha hk
    have f2 := c_pullOf (A := A) (L := L) (pr := pr) (ot := ot) (T := T) (I := I) (g := b) (k := k) hG h8 hb hk
    cases ho : odH A a b x k with
    | false =>
      right
      refine ⟨(), ?_, fun n => ?_⟩
      · show (allB _ k && !odH A a b x k) = true
        rw [hi, ho]; rfl
      · unfold odH at ho
        by_cases h1 : A 13 (a * 4 + k) = -1
        · have h1' : A 13 (a * 4 + k) = -iN 1 := h1
          simp (disch := first | omega | assumption | (simp (disch := omega) only [iN_lit, iN_add, iN_mul, iN_pred, iN_pred', iN_lt, iN_le, iN_eq, iN_nat, nlt_t, nlt_f, nle_t, nle_f, neq_t, neq_f, List.length_nil, List.length_cons, or_false, false_or, or_self, not_false_eq_true, not_true_eq_false, ↓reduceIte, if_true, if_false, Bool.false_eq_true, Nat.reduceAdd])) only [fX0_areAtOdds_L3, ↓bK_11, fX0_areAtOdds_J53_3, ↓hb_some, ↓bd_some, ↓letE_eq, h_z0, h_z1, h_zi0, h_zi1, ↓hb_of f1, ↓hb_of f2, iN_lit, iN_add, iN_mul, iN_pred, iN_pred', iN_lt, iN_le, iN_eq, iN_nat, nlt_t, nlt_f, nle_t, nle_f, neq_t, neq_f, List.length_nil, List.length_cons, or_false, false_or, or_self, not_false_eq_true, not_true_eq_false, ↓reduceIte, if_true, if_false, Bool.false_eq_true, Nat.reduceAdd, h1']
        · have h1' : ¬ A 13 (a * 4 + k) = -iN 1 := h1
          rw [decide_eq_false h1, Bool.not_false, Bool.true_and] at ho
          by_cases h2 : A 13 (b * 4 + k) = -1
          · have h2' : A 13 (b * 4 + k) = -iN 1 := h2
            simp (disch := first | omega | assumption | (simp (disch := omega) only [iN_lit, iN_add, iN_mul, iN_pred, iN_pred', iN_lt, iN_le, iN_eq, iN_nat, nlt_t, nlt_f, nle_t, nle_f, neq_t, neq_f, List.length_nil, List.length_cons, or_false, false_or, or_self, not_false_eq_true, not_true_eq_false, ↓reduceIte, if_true, if_false, Bool.false_eq_true, Nat.reduceAdd])) only [fX0_areAtOdds_L3, ↓bK_11, fX0_areAtOdds_J53_3, ↓hb_some, ↓bd_some, ↓letE_eq, h_z0, h_z1, h_zi0, h_zi1, ↓hb_of f1, ↓hb_of f2, iN_lit, iN_add, iN_mul, iN_pred, iN_pred', iN_lt, iN_le, iN_eq, iN_nat, nlt_t, nlt_f, nle_t, nle_f, neq_t, neq_f, List.length_nil, List.length_cons, or_false, false_or, or_self, not_false_eq_true, not_true_eq_false, ↓reduceIte, if_true, if_false, Bool.false_eq_true, Nat.reduceAdd, h1', h2']
          · have h2' : ¬ A 13 (b * 4 + k) = -iN 1 := h2
            rw [decide_eq_false h2, Bool.not_false, Bool.true_and] at ho
            have h3 : (if iN 0 ≤ A 13 (a * 4 + k) - A 13 (b * 4 + k) then A 13 (a * 4 + k) - A 13 (b * 4 + k) else iN 0 - (A 13 (a * 4 + k) - A 13 (b * 4 + k))) ≤ x := by
              by_cases c : (if 0 ≤ A 13 (a * 4 + k) - A 13 (b * 4 + k) then A 13 (a * 4 + k) - A 13 (b * 4 + k) else 0 - (A 13 (a * 4 + k) - A 13 (b * 4 + k))) ≤ x
              · exact c
              · rw [decide_eq_false c] at ho; cases ho
            simp (disch := first | omega | assumption | (simp (disch := omega) only [iN_lit, iN_add, iN_mul, iN_pred, iN_pred', iN_lt, iN_le, iN_eq, iN_nat, nlt_t, nlt_f, nle_t, nle_f, neq_t, neq_f, List.length_nil, List.length_cons, or_false, false_or, or_self, not_false_eq_true, not_true_eq_false, ↓reduceIte, if_true, if_false, Bool.false_eq_true, Nat.reduceAdd])) only [fX0_areAtOdds_L3, ↓bK_11, fX0_areAtOdds_J53_3, ↓hb_some, ↓bd_some, ↓letE_eq, h_z0, h_z1, h_zi0, h_zi1, ↓hb_of f1, ↓hb_of f2, iN_lit, iN_add, iN_mul, iN_pred, iN_pred', iN_lt, iN_le, iN_eq, iN_nat, nlt_t, nlt_f, nle_t, nle_f, neq_t, neq_f, List.length_nil, List.length_cons, or_false, false_or, or_self, not_false_eq_true, not_true_eq_false, ↓reduceIte, if_true, if_false, Bool.false_eq_true, Nat.reduceAdd, h1', h2', h3]
    | true =>
      left
      refine ⟨_, rfl, fun n => ?_⟩
      have e : odB A x a b = true := by
        unfold odB
        rw [allB_lt hk (by rw [ho]; rfl)]; rfl
      rw [e]
      unfold odH at ho
      have h1 : ¬ A 13 (a * 4 + k) = -iN 1 := fun c => by rw [decide_eq_true (show A 13 (a * 4 + k) = -1 from c)] at ho; simp at ho
      have h2 : ¬ A 13 (b * 4 + k) = -iN 1 := fun c => by rw [decide_eq_true (show A 13 (b * 4 + k) = -1 from c)] at ho; simp at ho
      have h3 : ¬ (if iN 0 ≤ A 13 (a * 4 + k) - A 13 (b * 4 + k) then A 13 (a * 4 + k) - A 13 (b * 4 + k) else iN 0 - (A 13 (a * 4 + k) - A 13 (b * 4 + k))) ≤ x := fun c => by
        rw [decide_eq_true (show (if 0 ≤ A 13 (a * 4 + k) - A 13 (b * 4 + k) then A 13 (a * 4 + k) - A 13 (b * 4 + k) else 0 - (A 13 (a * 4 + k) - A 13 (b * 4 + k))) ≤ x from c)] at ho; simp at ho
      simp (disch := first | omega | assumption | (simp (disch := omega) only [iN_lit, iN_add, iN_mul, iN_pred, iN_pred', iN_lt, iN_le, iN_eq, iN_nat, nlt_t, nlt_f, nle_t, nle_f, neq_t, neq_f, List.length_nil, List.length_cons, or_false, false_or, or_self, not_false_eq_true, not_true_eq_false, ↓reduceIte, if_true, if_false, Bool.false_eq_true, Nat.reduceAdd])) only [fX0_areAtOdds_L3, ↓bK_11, fX0_areAtOdds_J53_3, ↓hb_some, ↓bd_some, ↓letE_eq, h_z0, h_z1, h_zi0, h_zi1, ↓hb_of f1, ↓hb_of f2, iN_lit, iN_add, iN_mul, iN_pred, iN_pred', iN_lt, iN_le, iN_eq, iN_nat, nlt_t, nlt_f, nle_t, nle_f, neq_t, neq_f, List.length_nil, List.length_cons, or_false, false_or, or_self, not_false_eq_true, not_true_eq_false, ↓reduceIte, if_true, if_false, Bool.false_eq_true, Nat.reduceAdd, h1, h2, h3]
  · intro _ hi
    refine ⟨_, rfl, fun n => ?_⟩
    have e : odB A x a b = false := by unfold odB; rw [hi]; rfl
    rw [e]
    simp (disch := first | omega | assumption | (simp (disch := omega) only [iN_lit, iN_add, iN_mul, iN_pred, iN_pred', iN_lt, iN_le, iN_eq, iN_nat, nlt_t, nlt_f, nle_t, nle_f, neq_t, neq_f, List.length_nil, List.length_cons, or_false, false_or, or_self, not_false_eq_true, not_true_eq_false, ↓reduceIte, if_true, if_false, Bool.false_eq_true, Nat.reduceAdd])) only [fX0_areAtOdds_L3, ↓bK_11, fX0_areAtOdds_J53_3, ↓hb_of (c_pullOf _ _ _ _), ↓hb_some, ↓bd_some, ↓letE_eq, h_z0, h_z1, h_zi0, h_zi1, iN_lit, iN_add, iN_mul, iN_pred, iN_pred', iN_lt, iN_le, iN_eq, iN_nat, nlt_t, nlt_f, nle_t, nle_f, neq_t, neq_f, List.length_nil, List.length_cons, or_false, false_or, or_self, not_false_eq_true, not_true_eq_false, ↓reduceIte, if_true, if_false, Bool.false_eq_true, Nat.reduceAdd]
theorem r_odds (hM : FM A J B G P W) (ha : a < G) (hb : b < G) : fX12_doQuarrel 45 (iN a) (iN b) x (encC I E L pr ot (encR J B M rdv ru T)) = some ((if odB A x a b then 1 else 0), (encC I E L pr ot (encR J B M rdv ru T))) := by
  have h8 := hM.2.2.2.1
  have key := lp_br (fun n k (_ : Unit) => fX12_doQuarrel_L3 45 (iN a) (iN b) x (fun h1 => h_z (0 : Int32) (some ((0 : Int32), h1))) n (iN k) (encC I E L pr ot (encR J B M rdv ru T))) (fun k _ => allB (fun h => !odH A a b x h) k = true) (fun z => z = some ((if odB A x a b then 1 else 0), (encC I E L pr ot (encR J B M rdv ru T)))) 4 ?_ ?_ 4 0 () (by omega) rfl
  · obtain ⟨z, hz, hz2⟩ := key
    rw [← hz]; exact hz2 FU (by unfold FU; omega)
  · intro k _ hk hi
    have f1 : B 5 (4 * a + k) = A 13 (a * 4 + k) := by rw [show 4 * a + k = a * 4 + k by omega]; exact hM.2.2.2.2.2.2.2.1 _ (by omega)
    have f2 : B 5 (4 * b + k) = A 13 (b * 4 + k) := by rw [show 4 * b + k = b * 4 + k by omega]; exact hM.2.2.2.2.2.2.2.1 _ (by omega)
    cases ho : odH A a b x k with
    | false =>
      right
      refine ⟨(), ?_, fun n => ?_⟩
      · show (allB _ k && !odH A a b x k) = true
        rw [hi, ho]; rfl
      · unfold odH at ho
        by_cases h1 : A 13 (a * 4 + k) = -1
        · have h1' : A 13 (a * 4 + k) = -iN 1 := h1
          simp (disch := first | omega | assumption | (simp (disch := omega) only [iN_lit, iN_add, iN_mul, iN_pred, iN_pred', iN_lt, iN_le, iN_eq, iN_nat, nlt_t, nlt_f, nle_t, nle_f, neq_t, neq_f, List.length_nil, List.length_cons, or_false, false_or, or_self, not_false_eq_true, not_true_eq_false, ↓reduceIte, if_true, if_false, Bool.false_eq_true, Nat.reduceAdd])) only [fX12_doQuarrel_L3, ↓brR_5, ↓brA_5, ↓brS_5, fX12_doQuarrel_J61_3, ↓hb_some, ↓bd_some, ↓letE_eq, h_z0, h_z1, h_zi0, h_zi1, iN_lit, iN_add, iN_mul, iN_pred, iN_pred', iN_lt, iN_le, iN_eq, iN_nat, nlt_t, nlt_f, nle_t, nle_f, neq_t, neq_f, List.length_nil, List.length_cons, or_false, false_or, or_self, not_false_eq_true, not_true_eq_false, ↓reduceIte, if_true, if_false, Bool.false_eq_true, Nat.reduceAdd, f1, f2, h1']
        · have h1' : ¬ A 13 (a * 4 + k) = -iN 1 := h1
          rw [decide_eq_false h1, Bool.not_false, Bool.true_and] at ho
          by_cases h2 : A 13 (b * 4 + k) = -1
          · have h2' : A 13 (b * 4 + k) = -iN 1 := h2
            simp (disch := first | omega | assumption | (simp (disch := omega) only [iN_lit, iN_add, iN_mul, iN_pred, iN_pred', iN_lt, iN_le, iN_eq, iN_nat, nlt_t, nlt_f, nle_t, nle_f, neq_t, neq_f, List.length_nil, List.length_cons, or_false, false_or, or_self, not_false_eq_true, not_true_eq_false, ↓reduceIte, if_true, if_false, Bool.false_eq_true, Nat.reduceAdd])) only [fX12_doQuarrel_L3, ↓brR_5, ↓brA_5, ↓brS_5, fX12_doQuarrel_J61_3, ↓hb_some, ↓bd_some, ↓letE_eq, h_z0, h_z1, h_zi0, h_zi1, iN_lit, iN_add, iN_mul, iN_pred, iN_pred', iN_lt, iN_le, iN_eq, iN_nat, nlt_t, nlt_f, nle_t, nle_f, neq_t, neq_f, List.length_nil, List.length_cons, or_false, false_or, or_self, not_false_eq_true, not_true_eq_false, ↓reduceIte, if_true, if_false, Bool.false_eq_true, Nat.reduceAdd, f1, f2, h1', h2']
          · have h2' : ¬ A 13 (b * 4 + k) = -iN 1 := h2
            rw [decide_eq_false h2, Bool.not_false, Bool.true_and] at ho
            have h3 : (if iN 0 ≤ A 13 (a * 4 + k) - A 13 (b * 4 + k) then A 13 (a * 4 + k) - A 13 (b * 4 + k) else iN 0 - (A 13 (a * 4 + k) - A 13 (b * 4 + k))) ≤ x := by
              by_cases c : (if 0 ≤ A 13 (a * 4 + k) - A 13 (b * 4 + k) then A 13 (a * 4 + k) - A 13 (b * 4 + k) else 0 - (A 13 (a * 4 + k) - A 13 (b * 4 + k))) ≤ x
              · exact c
              · rw [decide_eq_false c] at ho; cases ho
            simp (disch := first | omega | assumption | (simp (disch := omega) only [iN_lit, iN_add, iN_mul, iN_pred, iN_pred', iN_lt, iN_le, iN_eq, iN_nat, nlt_t, nlt_f, nle_t, nle_f, neq_t, neq_f, List.length_nil, List.length_cons, or_false, false_or, or_self, not_false_eq_true, not_true_eq_false, ↓reduceIte, if_true, if_false, Bool.false_eq_true, Nat.reduceAdd])) only [fX12_doQuarrel_L3, ↓brR_5, ↓brA_5, ↓brS_5, fX12_doQuarrel_J61_3, ↓hb_some, ↓bd_some, ↓letE_eq, h_z0, h_z1, h_zi0, h_zi1, iN_lit, iN_add, iN_mul, iN_pred, iN_pred', iN_lt, iN_le, iN_eq, iN_nat, nlt_t, nlt_f, nle_t, nle_f, neq_t, neq_f, List.length_nil, List.length_cons, or_false, false_or, or_self, not_false_eq_true, not_true_eq_false, ↓reduceIte, if_true, if_false, Bool.false_eq_true, Nat.reduceAdd, f1, f2, h1', h2', h3]
    | true =>
      left
      refine ⟨_, rfl, fun n => ?_⟩
      have e : odB A x a b = true := by
        unfold odB
        rw [allB_lt hk (by rw [ho]; rfl)]; rfl
      rw [e]
      unfold odH at ho
      have h1 : ¬ A 13 (a * 4 + k) = -iN 1 := fun c => by rw [decide_eq_true (show A 13 (a * 4 + k) = -1 from c)] at ho; simp at ho
      have h2 : ¬ A 13 (b * 4 + k) = -iN 1 := fun c => by rw [decide_eq_true (show A 13 (b * 4 + k) = -1 from c)] at ho; simp at ho
      have h3 : ¬ (if iN 0 ≤ A 13 (a * 4 + k) - A 13 (b * 4 + k) then A 13 (a * 4 + k) - A 13 (b * 4 + k) else iN 0 - (A 13 (a * 4 + k) - A 13 (b * 4 + k))) ≤ x := fun c => by
        rw [decide_eq_true (show (if 0 ≤ A 13 (a * 4 + k) - A 13 (b * 4 + k) then A 13 (a * 4 + k) - A 13 (b * 4 + k) else 0 - (A 13 (a * 4 + k) - A 13 (b * 4 + k))) ≤ x from c)] at ho; simp at ho
      simp (disch := first | omega | assumption | (simp (disch := omega) only [iN_lit, iN_add, iN_mul, iN_pred, iN_pred', iN_lt, iN_le, iN_eq, iN_nat, nlt_t, nlt_f, nle_t, nle_f, neq_t, neq_f, List.length_nil, List.length_cons, or_false, false_or, or_self, not_false_eq_true, not_true_eq_false, ↓reduceIte, if_true, if_false, Bool.false_eq_true, Nat.reduceAdd])) only [fX12_doQuarrel_L3, ↓brR_5, ↓brA_5, ↓brS_5, fX12_doQuarrel_J61_3, ↓hb_some, ↓bd_some, ↓letE_eq, h_z0, h_z1, h_zi0, h_zi1, iN_lit, iN_add, iN_mul, iN_pred, iN_pred', iN_lt, iN_le, iN_eq, iN_nat, nlt_t, nlt_f, nle_t, nle_f, neq_t, neq_f, List.length_nil, List.length_cons, or_false, false_or, or_self, not_false_eq_true, not_true_eq_false, ↓reduceIte, if_true, if_false, Bool.false_eq_true, Nat.reduceAdd, f1, f2, h1, h2, h3]
  · intro _ hi
    refine ⟨_, rfl, fun n => ?_⟩
    have e : odB A x a b = false := by unfold odB; rw [hi]; rfl
    rw [e]
    simp (disch := first | omega | assumption | (simp (disch := omega) only [iN_lit, iN_add, iN_mul, iN_pred, iN_pred', iN_lt, iN_le, iN_eq, iN_nat, nlt_t, nlt_f, nle_t, nle_f, neq_t, neq_f, List.length_nil, List.length_cons, or_false, false_or, or_self, not_false_eq_true, not_true_eq_false, ↓reduceIte, if_true, if_false, Bool.false_eq_true, Nat.reduceAdd])) only [fX12_doQuarrel_L3, ↓brR_5, ↓brA_5, ↓brS_5, fX12_doQuarrel_J61_3, ↓hb_some, ↓bd_some, ↓letE_eq, h_z0, h_z1, h_zi0, h_zi1, iN_lit, iN_add, iN_mul, iN_pred, iN_pred', iN_lt, iN_le, iN_eq, iN_nat, nlt_t, nlt_f, nle_t, nle_f, neq_t, neq_f, List.length_nil, List.length_cons, or_false, false_or, or_self, not_false_eq_true, not_true_eq_false, ↓reduceIte, if_true, if_false, Bool.false_eq_true, Nat.reduceAdd]
theorem c_peace15 (hF : FS I G P W) (ha : a < G) (kx : PH → Option (Int32 × PH)) : fX0_areAtPeace_L15 11 m x (iN a) kx FU (iN (a + 1)) (encC I A L pr ot T) = if (fnd (prB A x m a) (G - (a + 1)) (a + 1)).isSome then some (0, (encC I A L pr ot T)) else kx (encC I A L pr ot T) := by
  have hF' := hF
  obtain ⟨hG, -, -, h8, -⟩ := hF
  have key := lp_find (fun n k (_ : Unit) => fX0_areAtPeace_L15 11 m x (iN a) kx n (iN k) (encC I A L pr ot T)) (fun _ => kx (encC I A L pr ot T)) (fun k _ => a < k) (prB A x m a) (fun _ z => z = some (0, (encC I A L pr ot T))) G
    (fun k _ hk hi hcc => by
      unfold prB at hcc
      have h1 : hasB m a = true := by cases h : hasB m a <;> rw [h] at hcc <;> simp at hcc ⊢
      have h2 : hasB m k = true := by cases h : hasB m k <;> rw [h] at hcc <;> simp at hcc ⊢
      have h3 : odB A x a k = true := by cases h : odB A x a k <;> rw [h] at hcc <;> simp at hcc ⊢
      have f1 := c_odds (A := A) (L := L) (pr := pr) (ot := ot) (T := T) (x := x) hF' ha hk
      rw [h3] at f1
      refine ⟨_, rfl, fun n => ?_⟩
      simp only [iN_lit, if_true] at f1
      simp (disch := first | omega | assumption | (simp (disch := omega) only [iN_lit, iN_add, iN_mul, iN_pred, iN_pred', iN_lt, iN_le, iN_eq, iN_nat, nlt_t, nlt_f, nle_t, nle_f, neq_t, neq_f, List.length_nil, List.length_cons, or_false, false_or, or_self, not_false_eq_true, not_true_eq_false, ↓reduceIte, if_true, if_false, Bool.false_eq_true, Nat.reduceAdd])) only [fX0_areAtPeace_L15, ↓bK_11, ↓bG_11_9, fX0_areAtPeace_J54_15, ↓hb_some, ↓bd_some, ↓letE_eq, h_z0, h_z1, h_zi0, h_zi1, ↓hb_of (isIn_y h1), ↓hb_of (isIn_y h2), ↓hb_of f1, iN_lit, iN_add, iN_mul, iN_pred, iN_pred', iN_lt, iN_le, iN_eq, iN_nat, nlt_t, nlt_f, nle_t, nle_f, neq_t, neq_f, List.length_nil, List.length_cons, or_false, false_or, or_self, not_false_eq_true, not_true_eq_false, ↓reduceIte, if_true, if_false, Bool.false_eq_true, Nat.reduceAdd, hG])
    (fun k _ hk hi hcc => by
      unfold prB at hcc
      refine ⟨(), by omega, fun n => ?_⟩
      cases h1 : hasB m a with
      | false => simp (disch := first | omega | assumption | (simp (disch := omega) only [iN_lit, iN_add, iN_mul, iN_pred, iN_pred', iN_lt, iN_le, iN_eq, iN_nat, nlt_t, nlt_f, nle_t, nle_f, neq_t, neq_f, List.length_nil, List.length_cons, or_false, false_or, or_self, not_false_eq_true, not_true_eq_false, ↓reduceIte, if_true, if_false, Bool.false_eq_true, Nat.reduceAdd])) only [fX0_areAtPeace_L15, ↓bK_11, ↓bG_11_9, fX0_areAtPeace_J54_15, ↓hb_some, ↓bd_some, ↓letE_eq, h_z0, h_z1, h_zi0, h_zi1, ↓hb_of (isIn_n h1), iN_lit, iN_add, iN_mul, iN_pred, iN_pred', iN_lt, iN_le, iN_eq, iN_nat, nlt_t, nlt_f, nle_t, nle_f, neq_t, neq_f, List.length_nil, List.length_cons, or_false, false_or, or_self, not_false_eq_true, not_true_eq_false, ↓reduceIte, if_true, if_false, Bool.false_eq_true, Nat.reduceAdd, hG]
      | true =>
        cases h2 : hasB m k with
        | false => simp (disch := first | omega | assumption | (simp (disch := omega) only [iN_lit, iN_add, iN_mul, iN_pred, iN_pred', iN_lt, iN_le, iN_eq, iN_nat, nlt_t, nlt_f, nle_t, nle_f, neq_t, neq_f, List.length_nil, List.length_cons, or_false, false_or, or_self, not_false_eq_true, not_true_eq_false, ↓reduceIte, if_true, if_false, Bool.false_eq_true, Nat.reduceAdd])) only [fX0_areAtPeace_L15, ↓bK_11, ↓bG_11_9, fX0_areAtPeace_J54_15, ↓hb_some, ↓bd_some, ↓letE_eq, h_z0, h_z1, h_zi0, h_zi1, ↓hb_of (isIn_y h1), ↓hb_of (isIn_n h2), iN_lit, iN_add, iN_mul, iN_pred, iN_pred', iN_lt, iN_le, iN_eq, iN_nat, nlt_t, nlt_f, nle_t, nle_f, neq_t, neq_f, List.length_nil, List.length_cons, or_false, false_or, or_self, not_false_eq_true, not_true_eq_false, ↓reduceIte, if_true, if_false, Bool.false_eq_true, Nat.reduceAdd, hG]
        | true =>
          rw [h1, h2] at hcc
          have f1 := c_odds (A := A) (L := L) (pr := pr) (ot := ot) (T := T) (x := x) hF' ha hk
          rw [show odB A x a k = false from by simpa using hcc] at f1
          simp only [iN_lit, Bool.false_eq_true, if_false] at f1
          simp (disch := first | omega | assumption | (simp (disch := omega) only [iN_lit, iN_add, iN_mul, iN_pred, iN_pred', iN_lt, iN_le, iN_eq, iN_nat, nlt_t, nlt_f, nle_t, nle_f, neq_t, neq_f, List.length_nil, List.length_cons, or_false, false_or, or_self, not_false_eq_true, not_true_eq_false, ↓reduceIte, if_true, if_false, Bool.false_eq_true, Nat.reduceAdd])) only [fX0_areAtPeace_L15, ↓bK_11, ↓bG_11_9, fX0_areAtPeace_J54_15, ↓hb_some, ↓bd_some, ↓letE_eq, h_z0, h_z1, h_zi0, h_zi1, ↓hb_of (isIn_y h1), ↓hb_of (isIn_y h2), ↓hb_of f1, iN_lit, iN_add, iN_mul, iN_pred, iN_pred', iN_lt, iN_le, iN_eq, iN_nat, nlt_t, nlt_f, nle_t, nle_f, neq_t, neq_f, List.length_nil, List.length_cons, or_false, false_or, or_self, not_false_eq_true, not_true_eq_false, ↓reduceIte, if_true, if_false, Bool.false_eq_true, Nat.reduceAdd, hG])
    (fun _ hi n => by simp (disch := first | omega | assumption | (simp (disch := omega) only [iN_lit, iN_add, iN_mul, iN_pred, iN_pred', iN_lt, iN_le, iN_eq, iN_nat, nlt_t, nlt_f, nle_t, nle_f, neq_t, neq_f, List.length_nil, List.length_cons, or_false, false_or, or_self, not_false_eq_true, not_true_eq_false, ↓reduceIte, if_true, if_false, Bool.false_eq_true, Nat.reduceAdd])) only [fX0_areAtPeace_L15, ↓bK_11, ↓bG_11_9, fX0_areAtPeace_J54_15, ↓hb_of (isIn_y _), ↓hb_of (isIn_n _), ↓hb_of (c_isIn_gs _ _), ↓hb_of (c_odds _ _ _), ↓hb_some, ↓bd_some, ↓letE_eq, h_z0, h_z1, h_zi0, h_zi1, iN_lit, iN_add, iN_mul, iN_pred, iN_pred', iN_lt, iN_le, iN_eq, iN_nat, nlt_t, nlt_f, nle_t, nle_f, neq_t, neq_f, List.length_nil, List.length_cons, or_false, false_or, or_self, not_false_eq_true, not_true_eq_false, ↓reduceIte, if_true, if_false, Bool.false_eq_true, Nat.reduceAdd, hG]) (G - (a + 1)) (a + 1) () (by omega) (by omega)
  cases hf : fnd (prB A x m a) (G - (a + 1)) (a + 1) with
  | some j =>
    obtain ⟨z, k1, k2⟩ := key.1 j hf
    rw [k2 FU (by unfold FU; omega), k1]; rfl
  | none =>
    obtain ⟨_, _, k2⟩ := key.2 hf
    rw [k2 FU (by unfold FU; omega)]; rfl
theorem c_peace (hF : FS I G P W) : fX0_areAtPeace 11 m x (encC I A L pr ot T) = some ((if peB A G x m then 1 else 0), (encC I A L pr ot T)) := by
  have hF' := hF
  obtain ⟨hG, -, -, h8, -⟩ := hF
  have key := lp_find (fun n k (_ : Unit) => fX0_areAtPeace_L2 11 m x (fun h1 => h_z (1 : Int32) (some ((1 : Int32), h1))) n (iN k) (encC I A L pr ot T)) (fun _ => some (1, (encC I A L pr ot T))) (fun _ _ => True) (fun a => (fnd (prB A x m a) (G - (a + 1)) (a + 1)).isSome) (fun _ z => z = some (0, (encC I A L pr ot T))) G
    (fun k _ hk _ hcc => by
      refine ⟨_, rfl, fun n => ?_⟩
      have f1 := fun kx => c_peace15 (A := A) (L := L) (pr := pr) (ot := ot) (T := T) (x := x) (m := m) hF' hk kx
      simp only [hcc, if_true, iN_lit] at f1
      simp (disch := first | omega | assumption | (simp (disch := omega) only [iN_lit, iN_add, iN_mul, iN_pred, iN_pred', iN_lt, iN_le, iN_eq, iN_nat, nlt_t, nlt_f, nle_t, nle_f, neq_t, neq_f, List.length_nil, List.length_cons, or_false, false_or, or_self, not_false_eq_true, not_true_eq_false, ↓reduceIte, if_true, if_false, Bool.false_eq_true, Nat.reduceAdd])) only [fX0_areAtPeace_L2, ↓bG_11_9, fX0_areAtPeace_J54_15, ↓hb_some, ↓bd_some, ↓letE_eq, h_z0, h_z1, h_zi0, h_zi1, iN_lit, iN_add, iN_mul, iN_pred, iN_pred', iN_lt, iN_le, iN_eq, iN_nat, nlt_t, nlt_f, nle_t, nle_f, neq_t, neq_f, List.length_nil, List.length_cons, or_false, false_or, or_self, not_false_eq_true, not_true_eq_false, ↓reduceIte, if_true, if_false, Bool.false_eq_true, Nat.reduceAdd, hG, f1])
    (fun k _ hk _ hcc => by
      refine ⟨(), trivial, fun n => ?_⟩
      have f1 := fun kx => c_peace15 (A := A) (L := L) (pr := pr) (ot := ot) (T := T) (x := x) (m := m) hF' hk kx
      simp only [hcc, Bool.false_eq_true, if_false, iN_lit] at f1
      simp (disch := first | omega | assumption | (simp (disch := omega) only [iN_lit, iN_add, iN_mul, iN_pred, iN_pred', iN_lt, iN_le, iN_eq, iN_nat, nlt_t, nlt_f, nle_t, nle_f, neq_t, neq_f, List.length_nil, List.length_cons, or_false, false_or, or_self, not_false_eq_true, not_true_eq_false, ↓reduceIte, if_true, if_false, Bool.false_eq_true, Nat.reduceAdd])) only [fX0_areAtPeace_L2, ↓bG_11_9, fX0_areAtPeace_J54_15, ↓hb_some, ↓bd_some, ↓letE_eq, h_z0, h_z1, h_zi0, h_zi1, iN_lit, iN_add, iN_mul, iN_pred, iN_pred', iN_lt, iN_le, iN_eq, iN_nat, nlt_t, nlt_f, nle_t, nle_f, neq_t, neq_f, List.length_nil, List.length_cons, or_false, false_or, or_self, not_false_eq_true, not_true_eq_false, ↓reduceIte, if_true, if_false, Bool.false_eq_true, Nat.reduceAdd, hG, f1])
    (fun _ _ n => by simp (disch := first | omega | assumption | (simp (disch := omega) only [iN_lit, iN_add, iN_mul, iN_pred, iN_pred', iN_lt, iN_le, iN_eq, iN_nat, nlt_t, nlt_f, nle_t, nle_f, neq_t, neq_f, List.length_nil, List.length_cons, or_false, false_or, or_self, not_false_eq_true, not_true_eq_false, ↓reduceIte, if_true, if_false, Bool.false_eq_true, Nat.reduceAdd])) only [fX0_areAtPeace_L2, ↓bG_11_9, fX0_areAtPeace_J54_15, ↓hb_some, ↓bd_some, ↓letE_eq, h_z0, h_z1, h_zi0, h_zi1, iN_lit, iN_add, iN_mul, iN_pred, iN_pred', iN_lt, iN_le, iN_eq, iN_nat, nlt_t, nlt_f, nle_t, nle_f, neq_t, neq_f, List.length_nil, List.length_cons, or_false, false_or, or_self, not_false_eq_true, not_true_eq_false, ↓reduceIte, if_true, if_false, Bool.false_eq_true, Nat.reduceAdd, hG]) G 0 () (by omega) trivial
  unfold fX0_areAtPeace peB
  cases hf : fnd (fun a => (fnd (prB A x m a) (G - (a + 1)) (a + 1)).isSome) G 0 with
  | some j =>
    obtain ⟨z, k1, k2⟩ := key.1 j hf
    refine (k2 FU (by unfold FU; omega)).trans ?_
    rw [k1]; rfl
  | none =>
    obtain ⟨_, _, k2⟩ := key.2 hf
    exact (k2 FU (by unfold FU; omega)).trans rfl
theorem r_peace15 (hM : FM A J B G P W) (ha : a < G) (kx : PH → Option (Int32 × PH)) : fX12_isPeace_L15 45 m x (iN a) kx FU (iN (a + 1)) (encC I E L pr ot (encR J B M rdv ru T)) = if (fnd (prB A x m a) (G - (a + 1)) (a + 1)).isSome then some (0, (encC I E L pr ot (encR J B M rdv ru T))) else kx (encC I E L pr ot (encR J B M rdv ru T)) := by
  have h8 := hM.2.2.2.1
  have hG := hM.1
  have key := lp_find (fun n k (_ : Unit) => fX12_isPeace_L15 45 m x (iN a) kx n (iN k) (encC I E L pr ot (encR J B M rdv ru T))) (fun _ => kx (encC I E L pr ot (encR J B M rdv ru T))) (fun k _ => a < k) (prB A x m a) (fun _ z => z = some (0, (encC I E L pr ot (encR J B M rdv ru T)))) G
    (fun k _ hk hi hcc => by
      unfold prB at hcc
      have h1 : hasB m a = true := by cases h : hasB m a <;> rw [h] at hcc <;> simp at hcc ⊢
      have h2 : hasB m k = true := by cases h : hasB m k <;> rw [h] at hcc <;> simp at hcc ⊢
      have h3 : odB A x a k = true := by cases h : odB A x a k <;> rw [h] at hcc <;> simp at hcc ⊢
      have f1 := r_odds (I := I) (E := E) (L := L) (pr := pr) (ot := ot) (M := M) (ru := ru) (T := T) (rdv := rdv) (x := x) hM ha hk
      rw [h3] at f1
      refine ⟨_, rfl, fun n => ?_⟩
      simp only [iN_lit, if_true] at f1
      simp (disch := first | omega | assumption | (simp (disch := omega) only [iN_lit, iN_add, iN_mul, iN_pred, iN_pred', iN_lt, iN_le, iN_eq, iN_nat, nlt_t, nlt_f, nle_t, nle_f, neq_t, neq_f, List.length_nil, List.length_cons, or_false, false_or, or_self, not_false_eq_true, not_true_eq_false, ↓reduceIte, if_true, if_false, Bool.false_eq_true, Nat.reduceAdd])) only [fX12_isPeace_L15, ↓brK, ↓brG_1, fX12_isPeace_J54_15, ↓hb_some, ↓bd_some, ↓letE_eq, h_z0, h_z1, h_zi0, h_zi1, ↓hb_of (has_y h1), ↓hb_of (has_y h2), ↓hb_of f1, iN_lit, iN_add, iN_mul, iN_pred, iN_pred', iN_lt, iN_le, iN_eq, iN_nat, nlt_t, nlt_f, nle_t, nle_f, neq_t, neq_f, List.length_nil, List.length_cons, or_false, false_or, or_self, not_false_eq_true, not_true_eq_false, ↓reduceIte, if_true, if_false, Bool.false_eq_true, Nat.reduceAdd, hG])
    (fun k _ hk hi hcc => by
      unfold prB at hcc
      refine ⟨(), by omega, fun n => ?_⟩
      cases h1 : hasB m a with
      | false => simp (disch := first | omega | assumption | (simp (disch := omega) only [iN_lit, iN_add, iN_mul, iN_pred, iN_pred', iN_lt, iN_le, iN_eq, iN_nat, nlt_t, nlt_f, nle_t, nle_f, neq_t, neq_f, List.length_nil, List.length_cons, or_false, false_or, or_self, not_false_eq_true, not_true_eq_false, ↓reduceIte, if_true, if_false, Bool.false_eq_true, Nat.reduceAdd])) only [fX12_isPeace_L15, ↓brK, ↓brG_1, fX12_isPeace_J54_15, ↓hb_some, ↓bd_some, ↓letE_eq, h_z0, h_z1, h_zi0, h_zi1, ↓hb_of (has_n h1), iN_lit, iN_add, iN_mul, iN_pred, iN_pred', iN_lt, iN_le, iN_eq, iN_nat, nlt_t, nlt_f, nle_t, nle_f, neq_t, neq_f, List.length_nil, List.length_cons, or_false, false_or, or_self, not_false_eq_true, not_true_eq_false, ↓reduceIte, if_true, if_false, Bool.false_eq_true, Nat.reduceAdd, hG]
      | true =>
        cases h2 : hasB m k with
        | false => simp (disch := first | omega | assumption | (simp (disch := omega) only [iN_lit, iN_add, iN_mul, iN_pred, iN_pred', iN_lt, iN_le, iN_eq, iN_nat, nlt_t, nlt_f, nle_t, nle_f, neq_t, neq_f, List.length_nil, List.length_cons, or_false, false_or, or_self, not_false_eq_true, not_true_eq_false, ↓reduceIte, if_true, if_false, Bool.false_eq_true, Nat.reduceAdd])) only [fX12_isPeace_L15, ↓brK, ↓brG_1, fX12_isPeace_J54_15, ↓hb_some, ↓bd_some, ↓letE_eq, h_z0, h_z1, h_zi0, h_zi1, ↓hb_of (has_y h1), ↓hb_of (has_n h2), iN_lit, iN_add, iN_mul, iN_pred, iN_pred', iN_lt, iN_le, iN_eq, iN_nat, nlt_t, nlt_f, nle_t, nle_f, neq_t, neq_f, List.length_nil, List.length_cons, or_false, false_or, or_self, not_false_eq_true, not_true_eq_false, ↓reduceIte, if_true, if_false, Bool.false_eq_true, Nat.reduceAdd, hG]
        | true =>
          rw [h1, h2] at hcc
          have f1 := r_odds (I := I) (E := E) (L := L) (pr := pr) (ot := ot) (M := M) (ru := ru) (T := T) (rdv := rdv) (x := x) hM ha hk
          rw [show odB A x a k = false from by simpa using hcc] at f1
          simp only [iN_lit, Bool.false_eq_true, if_false] at f1
          simp (disch := first | omega | assumption | (simp (disch := omega) only [iN_lit, iN_add, iN_mul, iN_pred, iN_pred', iN_lt, iN_le, iN_eq, iN_nat, nlt_t, nlt_f, nle_t, nle_f, neq_t, neq_f, List.length_nil, List.length_cons, or_false, false_or, or_self, not_false_eq_true, not_true_eq_false, ↓reduceIte, if_true, if_false, Bool.false_eq_true, Nat.reduceAdd])) only [fX12_isPeace_L15, ↓brK, ↓brG_1, fX12_isPeace_J54_15, ↓hb_some, ↓bd_some, ↓letE_eq, h_z0, h_z1, h_zi0, h_zi1, ↓hb_of (has_y h1), ↓hb_of (has_y h2), ↓hb_of f1, iN_lit, iN_add, iN_mul, iN_pred, iN_pred', iN_lt, iN_le, iN_eq, iN_nat, nlt_t, nlt_f, nle_t, nle_f, neq_t, neq_f, List.length_nil, List.length_cons, or_false, false_or, or_self, not_false_eq_true, not_true_eq_false, ↓reduceIte, if_true, if_false, Bool.false_eq_true, Nat.reduceAdd, hG])
    (fun _ hi n => by simp (disch := first | omega | assumption | (simp (disch := omega) only [iN_lit, iN_add, iN_mul, iN_pred, iN_pred', iN_lt, iN_le, iN_eq, iN_nat, nlt_t, nlt_f, nle_t, nle_f, neq_t, neq_f, List.length_nil, List.length_cons, or_false, false_or, or_self, not_false_eq_true, not_true_eq_false, ↓reduceIte, if_true, if_false, Bool.false_eq_true, Nat.reduceAdd])) only [fX12_isPeace_L15, ↓brK, ↓brG_1, fX12_isPeace_J54_15, ↓hb_of (has_y _), ↓hb_of (has_n _), ↓hb_of (r_odds _ _ _), ↓hb_some, ↓bd_some, ↓letE_eq, h_z0, h_z1, h_zi0, h_zi1, iN_lit, iN_add, iN_mul, iN_pred, iN_pred', iN_lt, iN_le, iN_eq, iN_nat, nlt_t, nlt_f, nle_t, nle_f, neq_t, neq_f, List.length_nil, List.length_cons, or_false, false_or, or_self, not_false_eq_true, not_true_eq_false, ↓reduceIte, if_true, if_false, Bool.false_eq_true, Nat.reduceAdd, hG]) (G - (a + 1)) (a + 1) () (by omega) (by omega)
  cases hf : fnd (prB A x m a) (G - (a + 1)) (a + 1) with
  | some j =>
    obtain ⟨z, k1, k2⟩ := key.1 j hf
    rw [k2 FU (by unfold FU; omega), k1]; rfl
  | none =>
    obtain ⟨_, _, k2⟩ := key.2 hf
    rw [k2 FU (by unfold FU; omega)]; rfl
theorem r_peace (hM : FM A J B G P W) : fX12_isPeace 45 m x (encC I E L pr ot (encR J B M rdv ru T)) = some ((if peB A G x m then 1 else 0), (encC I E L pr ot (encR J B M rdv ru T))) := by
  have h8 := hM.2.2.2.1
  have hG := hM.1
  have key := lp_find (fun n k (_ : Unit) => fX12_isPeace_L2 45 m x (fun h1 => h_z (1 : Int32) (some ((1 : Int32), h1))) n (iN k) (encC I E L pr ot (encR J B M rdv ru T))) (fun _ => some (1, (encC I E L pr ot (encR J B M rdv ru T)))) (fun _ _ => True) (fun a => (fnd (prB A x m a) (G - (a + 1)) (a + 1)).isSome) (fun _ z => z = some (0, (encC I E L pr ot (encR J B M rdv ru T)))) G
    (fun k _ hk _ hcc => by
      refine ⟨_, rfl, fun n => ?_⟩
      have f1 := fun kx => r_peace15 (I := I) (E := E) (L := L) (pr := pr) (ot := ot) (M := M) (ru := ru) (T := T) (rdv := rdv) (x := x) (m := m) hM hk kx
      simp only [hcc, if_true, iN_lit] at f1
      simp (disch := first | omega | assumption | (simp (disch := omega) only [iN_lit, iN_add, iN_mul, iN_pred, iN_pred', iN_lt, iN_le, iN_eq, iN_nat, nlt_t, nlt_f, nle_t, nle_f, neq_t, neq_f, List.length_nil, List.length_cons, or_false, false_or, or_self, not_false_eq_true, not_true_eq_false, ↓reduceIte, if_true, if_false, Bool.false_eq_true, Nat.reduceAdd])) only [fX12_isPeace_L2, ↓brG_1, fX12_isPeace_J54_15, ↓hb_some, ↓bd_some, ↓letE_eq, h_z0, h_z1, h_zi0, h_zi1, iN_lit, iN_add, iN_mul, iN_pred, iN_pred', iN_lt, iN_le, iN_eq, iN_nat, nlt_t, nlt_f, nle_t, nle_f, neq_t, neq_f, List.length_nil, List.length_cons, or_false, false_or, or_self, not_false_eq_true, not_true_eq_false, ↓reduceIte, if_true, if_false, Bool.false_eq_true, Nat.reduceAdd, hG, f1])
    (fun k _ hk _ hcc => by
      refine ⟨(), trivial, fun n => ?_⟩
      have f1 := fun kx => r_peace15 (I := I) (E := E) (L := L) (pr := pr) (ot := ot) (M := M) (ru := ru) (T := T) (rdv := rdv) (x := x) (m := m) hM hk kx
      simp only [hcc, Bool.false_eq_true, if_false, iN_lit] at f1
      simp (disch := first | omega | assumption | (simp (disch := omega) only [iN_lit, iN_add, iN_mul, iN_pred, iN_pred', iN_lt, iN_le, iN_eq, iN_nat, nlt_t, nlt_f, nle_t, nle_f, neq_t, neq_f, List.length_nil, List.length_cons, or_false, false_or, or_self, not_false_eq_true, not_true_eq_false, ↓reduceIte, if_true, if_false, Bool.false_eq_true, Nat.reduceAdd])) only [fX12_isPeace_L2, ↓brG_1, fX12_isPeace_J54_15, ↓hb_some, ↓bd_some, ↓letE_eq, h_z0, h_z1, h_zi0, h_zi1, iN_lit, iN_add, iN_mul, iN_pred, iN_pred', iN_lt, iN_le, iN_eq, iN_nat, nlt_t, nlt_f, nle_t, nle_f, neq_t, neq_f, List.length_nil, List.length_cons, or_false, false_or, or_self, not_false_eq_true, not_true_eq_false, ↓reduceIte, if_true, if_false, Bool.false_eq_true, Nat.reduceAdd, hG, f1])
    (fun _ _ n => by simp (disch := first | omega | assumption | (simp (disch := omega) only [iN_lit, iN_add, iN_mul, iN_pred, iN_pred', iN_lt, iN_le, iN_eq, iN_nat, nlt_t, nlt_f, nle_t, nle_f, neq_t, neq_f, List.length_nil, List.length_cons, or_false, false_or, or_self, not_false_eq_true, not_true_eq_false, ↓reduceIte, if_true, if_false, Bool.false_eq_true, Nat.reduceAdd])) only [fX12_isPeace_L2, ↓brG_1, fX12_isPeace_J54_15, ↓hb_some, ↓bd_some, ↓letE_eq, h_z0, h_z1, h_zi0, h_zi1, iN_lit, iN_add, iN_mul, iN_pred, iN_pred', iN_lt, iN_le, iN_eq, iN_nat, nlt_t, nlt_f, nle_t, nle_f, neq_t, neq_f, List.length_nil, List.length_cons, or_false, false_or, or_self, not_false_eq_true, not_true_eq_false, ↓reduceIte, if_true, if_false, Bool.false_eq_true, Nat.reduceAdd, hG]) G 0 () (by omega) trivial
  unfold fX12_isPeace peB
  cases hf : fnd (fun a => (fnd (prB A x m a) (G - (a + 1)) (a + 1)).isSome) G 0 with
  | some j =>
    obtain ⟨z, k1, k2⟩ := key.1 j hf
    refine (k2 FU (by unfold FU; omega)).trans ?_
    rw [k1]; rfl
  | none =>
    obtain ⟨_, _, k2⟩ := key.2 hf
    exact (k2 FU (by unfold FU; omega)).trans rfl
end QU
