/-! CALLS: fits -/
def nOK (A : Nat → Nat → Int32) (m : Nat) (Z : Nat → Int32) (p d : Nat) : Bool := allB (fun k => !decide (A 36 k = iN d) || decide (Z (8 + p * 4 + (A 37 k).toNatClampNeg) = A 38 k)) m
def seN (A : Nat → Nat → Int32) (pu : (Nat → Int32) → Int32) (G m p : Nat) (Z : Nat → Int32) (n : Nat) : Bool := allB (fun d => nOK A m (psZ A pu G p Z d) p d) n
def ntC (A : Nat → Nat → Int32) (m : Nat) : Prop := ∀ k, k < m → (∃ n, n ≤ 30 ∧ A 36 k = iN n) ∧ ∃ h, h < 4 ∧ A 37 k = iN h
def mxD (A : Nat → Nat → Int32) : Nat → Nat
  | 0 => 0
  | k + 1 => if mxD A k < (A 36 k).toNatClampNeg then (A 36 k).toNatClampNeg else mxD A k
theorem mxD_le {A : Nat → Nat → Int32} {m : Nat} (h : ntC A m) : ∀ k, k ≤ m → mxD A k ≤ 30
  | 0, _ => by unfold mxD; omega
  | k + 1, hk => by
    obtain ⟨⟨n, hn, e⟩, -⟩ := h k (by omega)
    have h1 := mxD_le h k (by omega)
    unfold mxD
    rw [e, iN_nat (by omega)]
    split <;> omega
theorem mxD_ge {A : Nat → Nat → Int32} : ∀ {k j : Nat}, j < k → (A 36 j).toNatClampNeg ≤ mxD A k
  | 0, _, h => absurd h (Nat.not_lt_zero _)
  | k + 1, j, h => by
    unfold mxD
    by_cases hj : j = k
    · subst hj
      split <;> omega
    · have := mxD_ge (A := A) (k := k) (j := j) (by omega)
      split <;> omega
theorem allB_tr {f : Nat → Bool} : ∀ {n : Nat}, (∀ k, k < n → f k = true) → allB f n = true
  | 0, _ => rfl
  | n + 1, h => by
    show (allB f n && f n) = true
    rw [allB_tr (fun k hk => h k (by omega)), h n (by omega)]; rfl
theorem nOK_hi {A : Nat → Nat → Int32} {m : Nat} {Z : Nat → Int32} {p d : Nat} (h : ntC A m) (hd : mxD A m < d) (hd2 : d ≤ 30) : nOK A m Z p d = true := by
  refine allB_tr (fun k hk => ?_)
  obtain ⟨⟨n, hn, e⟩, -⟩ := h k hk
  have h1 := mxD_ge (A := A) hk
  rw [e, iN_nat (by omega)] at h1
  have h2 : ¬ A 36 k = iN d := by rw [e, iN_eq (by omega) (by omega)]; omega
  rw [decide_eq_false h2]; rfl
theorem seN_hi {A : Nat → Nat → Int32} {pu : (Nat → Int32) → Int32} {G m p : Nat} {Z : Nat → Int32} (h : ntC A m) : ∀ n, mxD A m + 1 ≤ n → n ≤ 31 → seN A pu G m p Z n = seN A pu G m p Z (mxD A m + 1)
  | 0, h1, _ => absurd h1 (by omega)
  | n + 1, h1, h2 => by
    by_cases he : n = mxD A m
    · rw [he]
    · have := seN_hi (pu := pu) (G := G) (p := p) (Z := Z) h n (by omega) (by omega)
      rw [← this]
      show (seN A pu G m p Z n && nOK A m (psZ A pu G p Z n) p n) = _
      rw [nOK_hi h (by omega) (by omega), Bool.and_true]
theorem hasB_sg : ∀ g k : Fin 8, hasB ((1 : Int32) <<< (iN g.val &&& 31)) k.val = decide (k.val = g.val) := by decide +kernel
theorem hasB_no : ∀ k : Fin 8, hasB 0 k.val = false := by decide +kernel
theorem ldF_no {Z : Nat → Int32} {p : Nat} : ∀ G, G ≤ 8 → ldF Z p 0 G = Z
  | 0, _ => rfl
  | G + 1, h => by
    have e := hasB_no ⟨G, by omega⟩
    dsimp only at e
    unfold ldF
    rw [e, if_neg (by decide)]
    exact ldF_no G (by omega)
theorem ldF_sg {Z : Nat → Int32} {p g : Nat} (hg : g < 8) : ∀ G, G ≤ 8 → ldF Z p ((1 : Int32) <<< (iN g &&& 31)) G = if g < G then upd Z (32 + p * 8 + g) 0 else Z
  | 0, _ => rfl
  | G + 1, h => by
    have e := hasB_sg ⟨g, hg⟩ ⟨G, by omega⟩
    dsimp only at e
    unfold ldF
    rw [e, ldF_sg hg G (by omega)]
    by_cases hG : G = g
    · subst hG
      rw [decide_eq_true rfl, if_pos rfl, if_neg (by omega), if_pos (by omega)]
    · rw [decide_eq_false hG, if_neg (by decide)]
      by_cases h2 : g < G
      · rw [if_pos h2, if_pos (by omega)]
      · rw [if_neg h2, if_neg (by omega)]
section FT
variable {I A E I' A' : Nat → Nat → Int32} {L L' : Nat → Int64} {pr ot s : Nat} {J J' : Nat → Int32} {B B' : Nat → Nat → Int32} {M M' : Nat → Int64} {rdv rdv' : Value} {ru : Nat} {T : PH} {G P W p q g n nr sz ro oa w t k N d m : Nat} {Z Z' R X a : Nat → Int32} {x y z i2 acc : Int32} {out : Nat → Int64} {pu : (Nat → Int32) → Int32}
theorem fit39_C (hm : I 35 13 = iN m) (hm2 : m ≤ 12) (hn : ntC A m) (e1 : A' 36 = A 36) (e2 : A' 37 = A 37) (e3 : A' 38 = A 38) (e4 : A' 32 = Z) (hp : p < 6) (hd : d ≤ 30) (kx : PH → Option (Int32 × PH)) : fX4_wouldFit_L39 35 (iN p) x (iN d) kx FU (iN 0) (encC I A' L pr ot T) = if nOK A m Z p d then kx (encC I A' L pr ot T) else some (0, (encC I A' L pr ot T)) := by
  have key := lp_br (fun n k (_ : Unit) => fX4_wouldFit_L39 35 (iN p) x (iN d) kx n (iN k) (encC I A' L pr ot T)) (fun k _ => allB (fun k => !decide (A 36 k = iN d) || decide (Z (8 + p * 4 + (A 37 k).toNatClampNeg) = A 38 k)) k = true) (fun z => z = if nOK A m Z p d then kx (encC I A' L pr ot T) else some (0, (encC I A' L pr ot T))) m ?_ ?_ m 0 () (by omega) rfl
  · obtain ⟨z, hz, hz2⟩ := key
    rw [← hz]; exact hz2 FU (by unfold FU; omega)
  · intro k _ hk ha
    obtain ⟨⟨n, hn1, en⟩, h, hh, eh⟩ := hn k hk
    have f1 := c_humourOf (I := I) (A := A') (L := L) (pr := pr) (ot := ot) (T := T) (o := 31) (p := p) (k := h) (Or.inr rfl) hp hh
    rw [show A' (31 + 1) = Z from e4] at f1
    have eh' : A' 37 k = iN h := by rw [e2]; exact eh
    have eA : ∀ j, A' 36 j = A 36 j := fun j => by rw [e1]
    have eV : ∀ j, A' 38 j = A 38 j := fun j => by rw [e3]
    by_cases c1 : A 36 k = iN d
    · by_cases c2 : Z (8 + p * 4 + h) = A 38 k
      · right
        refine ⟨(), ?_, fun n' => ?_⟩
        · show (allB _ k && (!decide (A 36 k = iN d) || decide (Z (8 + p * 4 + (A 37 k).toNatClampNeg) = A 38 k))) = true
          rw [ha, eh, iN_nat (by omega), decide_eq_true c2, Bool.or_true]; rfl
        · simp (disch := first | omega | assumption | (simp (disch := omega) only [iN_lit, iN_add, iN_mul, iN_pred, iN_pred', iN_lt, iN_le, iN_eq, iN_nat, nlt_t, nlt_f, nle_t, nle_f, neq_t, neq_f, List.length_nil, List.length_cons, or_false, false_or, or_self, not_false_eq_true, not_true_eq_false, ↓reduceIte, if_true, if_false, Bool.false_eq_true, Nat.reduceAdd])) only [fX4_wouldFit_L39, ↓zK _, ↓bR_35_4, ↓bA_36, ↓bS_36, ↓bN_36, ↓bR_35_2, ↓bR_35_5, ↓bA_37, ↓bS_37, ↓bN_37, ↓bR_35_6, ↓bA_38, ↓bS_38, ↓bN_38, ↓bG_35_13, fX4_wouldFit_J86_39, ↓hb_some, ↓bd_some, ↓letE_eq, h_z0, h_z1, h_zi0, h_zi1, ↓hb_of f1, iN_lit, iN_add, iN_mul, iN_pred, iN_pred', iN_lt, iN_le, iN_eq, iN_nat, nlt_t, nlt_f, nle_t, nle_f, neq_t, neq_f, List.length_nil, List.length_cons, or_false, false_or, or_self, not_false_eq_true, not_true_eq_false, ↓reduceIte, if_true, if_false, Bool.false_eq_true, Nat.reduceAdd, hm, eA, eh', eV, c1, c2]
      · left
        refine ⟨_, rfl, fun n' => ?_⟩
        have e : nOK A m Z p d = false := allB_lt hk (by rw [eh, iN_nat (by omega), decide_eq_true c1, decide_eq_false c2]; rfl)
        rw [e, if_neg (by decide)]
        simp (disch := first | omega | assumption | (simp (disch := omega) only [iN_lit, iN_add, iN_mul, iN_pred, iN_pred', iN_lt, iN_le, iN_eq, iN_nat, nlt_t, nlt_f, nle_t, nle_f, neq_t, neq_f, List.length_nil, List.length_cons, or_false, false_or, or_self, not_false_eq_true, not_true_eq_false, ↓reduceIte, if_true, if_false, Bool.false_eq_true, Nat.reduceAdd])) only [fX4_wouldFit_L39, ↓zK _, ↓bR_35_4, ↓bA_36, ↓bS_36, ↓bN_36, ↓bR_35_2, ↓bR_35_5, ↓bA_37, ↓bS_37, ↓bN_37, ↓bR_35_6, ↓bA_38, ↓bS_38, ↓bN_38, ↓bG_35_13, fX4_wouldFit_J86_39, ↓hb_some, ↓bd_some, ↓letE_eq, h_z0, h_z1, h_zi0, h_zi1, ↓hb_of f1, iN_lit, iN_add, iN_mul, iN_pred, iN_pred', iN_lt, iN_le, iN_eq, iN_nat, nlt_t, nlt_f, nle_t, nle_f, neq_t, neq_f, List.length_nil, List.length_cons, or_false, false_or, or_self, not_false_eq_true, not_true_eq_false, ↓reduceIte, if_true, if_false, Bool.false_eq_true, Nat.reduceAdd, hm, eA, eh', eV, c1, c2]
    · right
      refine ⟨(), ?_, fun n' => ?_⟩
      · show (allB _ k && (!decide (A 36 k = iN d) || decide (Z (8 + p * 4 + (A 37 k).toNatClampNeg) = A 38 k))) = true
        rw [ha, decide_eq_false c1]; rfl
      · simp (disch := first | omega | assumption | (simp (disch := omega) only [iN_lit, iN_add, iN_mul, iN_pred, iN_pred', iN_lt, iN_le, iN_eq, iN_nat, nlt_t, nlt_f, nle_t, nle_f, neq_t, neq_f, List.length_nil, List.length_cons, or_false, false_or, or_self, not_false_eq_true, not_true_eq_false, ↓reduceIte, if_true, if_false, Bool.false_eq_true, Nat.reduceAdd])) only [fX4_wouldFit_L39, ↓zK _, ↓bR_35_4, ↓bA_36, ↓bS_36, ↓bN_36, ↓bR_35_2, ↓bR_35_5, ↓bA_37, ↓bS_37, ↓bN_37, ↓bR_35_6, ↓bA_38, ↓bS_38, ↓bN_38, ↓bG_35_13, fX4_wouldFit_J86_39, ↓hb_some, ↓bd_some, ↓letE_eq, h_z0, h_z1, h_zi0, h_zi1, iN_lit, iN_add, iN_mul, iN_pred, iN_pred', iN_lt, iN_le, iN_eq, iN_nat, nlt_t, nlt_f, nle_t, nle_f, neq_t, neq_f, List.length_nil, List.length_cons, or_false, false_or, or_self, not_false_eq_true, not_true_eq_false, ↓reduceIte, if_true, if_false, Bool.false_eq_true, Nat.reduceAdd, hm, eA, eh', eV, c1]
  · intro _ ha
    refine ⟨_, rfl, fun n' => ?_⟩
    have e : nOK A m Z p d = true := ha
    rw [e, if_pos rfl]
    simp (disch := first | omega | assumption | (simp (disch := omega) only [iN_lit, iN_add, iN_mul, iN_pred, iN_pred', iN_lt, iN_le, iN_eq, iN_nat, nlt_t, nlt_f, nle_t, nle_f, neq_t, neq_f, List.length_nil, List.length_cons, or_false, false_or, or_self, not_false_eq_true, not_true_eq_false, ↓reduceIte, if_true, if_false, Bool.false_eq_true, Nat.reduceAdd])) only [fX4_wouldFit_L39, ↓zK _, ↓bR_35_4, ↓bA_36, ↓bS_36, ↓bN_36, ↓bR_35_2, ↓bR_35_5, ↓bA_37, ↓bS_37, ↓bN_37, ↓bR_35_6, ↓bA_38, ↓bS_38, ↓bN_38, ↓bG_35_13, fX4_wouldFit_J86_39, ↓hb_some, ↓bd_some, ↓letE_eq, h_z0, h_z1, h_zi0, h_zi1, iN_lit, iN_add, iN_mul, iN_pred, iN_pred', iN_lt, iN_le, iN_eq, iN_nat, nlt_t, nlt_f, nle_t, nle_f, neq_t, neq_f, List.length_nil, List.length_cons, or_false, false_or, or_self, not_false_eq_true, not_true_eq_false, ↓reduceIte, if_true, if_false, Bool.false_eq_true, Nat.reduceAdd, hm]
theorem fit18_M (hm : J 37 = iN m) (hm2 : m ≤ 12) (hn : ntC A m) (e1 : ∀ k, k < m → B 34 k = A 36 k) (e2 : ∀ k, k < m → B 35 k = A 37 k) (e3 : ∀ k, k < m → B 36 k = A 38 k) (hc : CP Z (B 29)) (hp : p < 6) (hd : d ≤ 30) (kx : PH → Option (Int32 × PH)) : fX12_isSeen_L18 45 (iN p) (iN d) kx FU (iN 0) (encC I E L pr ot (encR J B M rdv ru T)) = if nOK A m Z p d then kx (encC I E L pr ot (encR J B M rdv ru T)) else some (0, (encC I E L pr ot (encR J B M rdv ru T))) := by
  have key := lp_br (fun n k (_ : Unit) => fX12_isSeen_L18 45 (iN p) (iN d) kx n (iN k) (encC I E L pr ot (encR J B M rdv ru T))) (fun k _ => allB (fun k => !decide (A 36 k = iN d) || decide (Z (8 + p * 4 + (A 37 k).toNatClampNeg) = A 38 k)) k = true) (fun z => z = if nOK A m Z p d then kx (encC I E L pr ot (encR J B M rdv ru T)) else some (0, (encC I E L pr ot (encR J B M rdv ru T)))) m ?_ ?_ m 0 () (by omega) rfl
  · obtain ⟨z, hz, hz2⟩ := key
    rw [← hz]; exact hz2 FU (by unfold FU; omega)
  · intro k _ hk ha
    obtain ⟨⟨n, hn1, en⟩, h, hh, eh⟩ := hn k hk
    have f1 := r_humour (I := I) (E := E) (L := L) (pr := pr) (ot := ot) (J := J) (B := B) (M := M) (rdv := rdv) (ru := ru) (T := T) (oa := 61) (p := p) (h := h) (Or.inr rfl) hp hh (by rw [fb_61]; exact hc)
    have eh' : B 35 k = iN h := (e2 k hk).trans eh
    have eA := e1 k hk
    have eV := e3 k hk
    by_cases c1 : A 36 k = iN d
    · by_cases c2 : Z (8 + p * 4 + h) = A 38 k
      · right
        refine ⟨(), ?_, fun n' => ?_⟩
        · show (allB _ k && (!decide (A 36 k = iN d) || decide (Z (8 + p * 4 + (A 37 k).toNatClampNeg) = A 38 k))) = true
          rw [ha, eh, iN_nat (by omega), decide_eq_true c2, Bool.or_true]; rfl
        · simp (disch := first | omega | assumption | (simp (disch := omega) only [iN_lit, iN_add, iN_mul, iN_pred, iN_pred', iN_lt, iN_le, iN_eq, iN_nat, nlt_t, nlt_f, nle_t, nle_f, neq_t, neq_f, List.length_nil, List.length_cons, or_false, false_or, or_self, not_false_eq_true, not_true_eq_false, ↓reduceIte, if_true, if_false, Bool.false_eq_true, Nat.reduceAdd])) only [fX12_isSeen_L18, ↓brR_34, ↓brA_34, ↓brS_34, ↓brR_29, ↓brA_29, ↓brS_29, ↓brR_35, ↓brA_35, ↓brS_35, ↓brR_36, ↓brA_36, ↓brS_36, ↓brG_37, fX12_isSeen_J65_18, ↓hb_some, ↓bd_some, ↓letE_eq, h_z0, h_z1, h_zi0, h_zi1, ↓hb_of f1, iN_lit, iN_add, iN_mul, iN_pred, iN_pred', iN_lt, iN_le, iN_eq, iN_nat, nlt_t, nlt_f, nle_t, nle_f, neq_t, neq_f, List.length_nil, List.length_cons, or_false, false_or, or_self, not_false_eq_true, not_true_eq_false, ↓reduceIte, if_true, if_false, Bool.false_eq_true, Nat.reduceAdd, hm, eA, eh', eV, c1, c2]
      · left
        refine ⟨_, rfl, fun n' => ?_⟩
        have e : nOK A m Z p d = false := allB_lt hk (by rw [eh, iN_nat (by omega), decide_eq_true c1, decide_eq_false c2]; rfl)
        rw [e, if_neg (by decide)]
        simp (disch := first | omega | assumption | (simp (disch := omega) only [iN_lit, iN_add, iN_mul, iN_pred, iN_pred', iN_lt, iN_le, iN_eq, iN_nat, nlt_t, nlt_f, nle_t, nle_f, neq_t, neq_f, List.length_nil, List.length_cons, or_false, false_or, or_self, not_false_eq_true, not_true_eq_false, ↓reduceIte, if_true, if_false, Bool.false_eq_true, Nat.reduceAdd])) only [fX12_isSeen_L18, ↓brR_34, ↓brA_34, ↓brS_34, ↓brR_29, ↓brA_29, ↓brS_29, ↓brR_35, ↓brA_35, ↓brS_35, ↓brR_36, ↓brA_36, ↓brS_36, ↓brG_37, fX12_isSeen_J65_18, ↓hb_some, ↓bd_some, ↓letE_eq, h_z0, h_z1, h_zi0, h_zi1, ↓hb_of f1, iN_lit, iN_add, iN_mul, iN_pred, iN_pred', iN_lt, iN_le, iN_eq, iN_nat, nlt_t, nlt_f, nle_t, nle_f, neq_t, neq_f, List.length_nil, List.length_cons, or_false, false_or, or_self, not_false_eq_true, not_true_eq_false, ↓reduceIte, if_true, if_false, Bool.false_eq_true, Nat.reduceAdd, hm, eA, eh', eV, c1, c2]
    · right
      refine ⟨(), ?_, fun n' => ?_⟩
      · show (allB _ k && (!decide (A 36 k = iN d) || decide (Z (8 + p * 4 + (A 37 k).toNatClampNeg) = A 38 k))) = true
        rw [ha, decide_eq_false c1]; rfl
      · simp (disch := first | omega | assumption | (simp (disch := omega) only [iN_lit, iN_add, iN_mul, iN_pred, iN_pred', iN_lt, iN_le, iN_eq, iN_nat, nlt_t, nlt_f, nle_t, nle_f, neq_t, neq_f, List.length_nil, List.length_cons, or_false, false_or, or_self, not_false_eq_true, not_true_eq_false, ↓reduceIte, if_true, if_false, Bool.false_eq_true, Nat.reduceAdd])) only [fX12_isSeen_L18, ↓brR_34, ↓brA_34, ↓brS_34, ↓brR_29, ↓brA_29, ↓brS_29, ↓brR_35, ↓brA_35, ↓brS_35, ↓brR_36, ↓brA_36, ↓brS_36, ↓brG_37, fX12_isSeen_J65_18, ↓hb_some, ↓bd_some, ↓letE_eq, h_z0, h_z1, h_zi0, h_zi1, iN_lit, iN_add, iN_mul, iN_pred, iN_pred', iN_lt, iN_le, iN_eq, iN_nat, nlt_t, nlt_f, nle_t, nle_f, neq_t, neq_f, List.length_nil, List.length_cons, or_false, false_or, or_self, not_false_eq_true, not_true_eq_false, ↓reduceIte, if_true, if_false, Bool.false_eq_true, Nat.reduceAdd, hm, eA, eh', eV, c1]
  · intro _ ha
    refine ⟨_, rfl, fun n' => ?_⟩
    have e : nOK A m Z p d = true := ha
    rw [e, if_pos rfl]
    simp (disch := first | omega | assumption | (simp (disch := omega) only [iN_lit, iN_add, iN_mul, iN_pred, iN_pred', iN_lt, iN_le, iN_eq, iN_nat, nlt_t, nlt_f, nle_t, nle_f, neq_t, neq_f, List.length_nil, List.length_cons, or_false, false_or, or_self, not_false_eq_true, not_true_eq_false, ↓reduceIte, if_true, if_false, Bool.false_eq_true, Nat.reduceAdd])) only [fX12_isSeen_L18, ↓brR_34, ↓brA_34, ↓brS_34, ↓brR_29, ↓brA_29, ↓brS_29, ↓brR_35, ↓brA_35, ↓brS_35, ↓brR_36, ↓brA_36, ↓brS_36, ↓brG_37, fX12_isSeen_J65_18, ↓hb_some, ↓bd_some, ↓letE_eq, h_z0, h_z1, h_zi0, h_zi1, iN_lit, iN_add, iN_mul, iN_pred, iN_pred', iN_lt, iN_le, iN_eq, iN_nat, nlt_t, nlt_f, nle_t, nle_f, neq_t, neq_f, List.length_nil, List.length_cons, or_false, false_or, or_self, not_false_eq_true, not_true_eq_false, ↓reduceIte, if_true, if_false, Bool.false_eq_true, Nat.reduceAdd, hm]
end FT
