/-! CALLS: covers -/
def orF (f : Nat → Int32) : Nat → Int32
  | 0 => 0
  | k + 1 => orF f k ||| f k
theorem orF_congr {f g : Nat → Int32} : ∀ n, (∀ k, k < n → f k = g k) → orF f n = orF g n
  | 0, _ => rfl
  | n + 1, h => by
    show orF f n ||| f n = orF g n ||| g n
    rw [orF_congr n (fun k hk => h k (by omega)), h n (by omega)]
theorem orF_or {f g : Nat → Int32} : ∀ n, orF (fun k => f k ||| g k) n = orF f n ||| orF g n
  | 0 => by show (0 : Int32) = 0 ||| 0; decide
  | n + 1 => by
    show orF (fun k => f k ||| g k) n ||| (f n ||| g n) = (orF f n ||| f n) ||| (orF g n ||| g n)
    rw [orF_or n]
    simp only [Int32.or_assoc]
    congr 1
    rw [← Int32.or_assoc, Int32.or_comm (orF g n) (f n), Int32.or_assoc]
theorem orF_zero : ∀ n, orF (fun _ => (0 : Int32)) n = 0
  | 0 => rfl
  | n + 1 => by show orF (fun _ => (0 : Int32)) n ||| 0 = 0; rw [orF_zero n]; decide
theorem orF_if {f : Nat → Int32} {b : Bool} {n : Nat} : (if b then orF f n else 0) = orF (fun k => if b then f k else 0) n := by
  cases b
  · exact (orF_zero n).symm
  · rfl
theorem orF_swap {t : Nat → Nat → Int32} {P : Nat} : ∀ G, orF (fun p => orF (fun g => t p g) G) P = orF (fun g => orF (fun p => t p g) P) G
  | 0 => orF_zero P
  | G + 1 => by
    show orF (fun p => orF (fun g => t p g) G ||| t p G) P = orF (fun g => orF (fun p => t p g) P) G ||| orF (fun p => t p G) P
    rw [orF_or, orF_swap G]
def orA (f : Nat → Int32) (s : Int32) : Nat → Int32
  | 0 => s
  | k + 1 => orA f s k ||| f k
theorem orA_eq {f : Nat → Int32} {s : Int32} : ∀ n, orA f s n = s ||| orF f n
  | 0 => Int32.or_zero.symm
  | n + 1 => by
    show orA f s n ||| f n = s ||| (orF f n ||| f n)
    rw [orA_eq n, Int32.or_assoc]
def svT (A : Nat → Nat → Int32) (pu : (Nat → Int32) → Int32) (G W n p g : Nat) : Int32 := if hdB (A 28) p g then 0 else wwS A pu G W p ((1 : Int32) <<< (iN g &&& 31)) n (A 28)
def svK (A : Nat → Nat → Int32) (pu : (Nat → Int32) → Int32) (G P W n k : Nat) : Int32 := orF (fun g => if hasB (iN k) g then orF (fun p => svT A pu G W n p g) P else 0) G
theorem svK_M {A : Nat → Nat → Int32} {pu : (Nat → Int32) → Int32} {G P W n k : Nat} : orF (fun p => orF (fun g => if hasB (iN k) g then svT A pu G W n p g else 0) G) P = svK A pu G P W n k := by
  rw [orF_swap]
  exact orF_congr G (fun g _ => orF_if.symm)
def lsC (o : Option Nat) (k : Nat) : Bool := match o with | none => true | some f => decide (bc (iN k) < bc (iN f))
def cvF (c : Nat → Bool) : Nat → Option Nat
  | 0 => none
  | k + 1 => if lsC (cvF c k) k && c k then some k else cvF c k
theorem cvF_lt {c : Nat → Bool} : ∀ k f, cvF c k = some f → f < k
  | 0, f, h => by cases h
  | k + 1, f, h => by
    unfold cvF at h
    split at h
    · cases h; omega
    · have := cvF_lt k f h; omega
def eC2 (o : Option Nat) : Int32 := match o with | none => -2 | some f => iN f
def kxCv : Int32 → PH → Option (Int32 × PH) := fun x2 h3 => if 0 ≤ x2 then ((h_gr 3 3 h3 35).bind fun q4 => (h_ck 2 h3 q4).bind fun _ => h_bd (fX3_start q4 h3) fun _ h5 => (h_gr 3 3 h5 35).bind fun q6 => (h_ck 2 h5 q6).bind fun _ => h_bd (fX3_add q6 (x2.toInt64) h5) fun _ h7 => h_bd (fJ6_bitCount_0f7a4 x2 h7) fun x8 h9 => some (x8, h9)) else (some ((-2 : Int32), h3))
def kxCvM : Int32 → PH → Option (Int32 × PH) := fun x5 h6 => if x5 = (-1 : Int32) then (some ((-2 : Int32), h6)) else ((h_pv 11 12 h6 45 (.int (0 : Int32))).bind fun h7 => (h_ck 11 h7 45).bind fun _ => h_bd (fX12_tell 45 (x5.toInt64) h7) fun _ h8 => h_bd (fJ6_bitCount_0f7a4 x5 h8) fun x9 h10 => some (x9, h10))
section CV
variable {I A E I' A' : Nat → Nat → Int32} {L L' : Nat → Int64} {pr ot s : Nat} {J J' : Nat → Int32} {B B' : Nat → Nat → Int32} {M M' : Nat → Int64} {rdv rdv' : Value} {ru : Nat} {T : PH} {G P W p q g n nr sz ro oa w t k N : Nat} {Z Z' R X a : Nat → Int32} {x y z i2 m : Int32} {out : Nat → Int64} {pu : (Nat → Int32) → Int32}
theorem cov22_C (c : CK I A G P W pr pu) (hg : g < G) (hn : n ≤ 20) (i1 : frQ A A') (h0 : A' 40 g = 0) :
    ∃ A2, (∀ kx : PH → Option (Int32 × PH), fX4_fewestForAll_L22 35 (iN n) (iN g) kx FU (iN 0) (encC I A' L pr ot T) = kx (encC I A2 L pr ot T)) ∧ frQ A A2 ∧ A2 40 g = orF (fun p => svT A pu G W n p g) P ∧ ∀ x, x ≠ g → A2 40 x = A' 40 x := by
  have hF := c.1
  have h8 := hF.2.2.2.1
  have h6 := hF.2.2.2.2.1
  have hP := hF.2.1
  have key := lp_k (fun (kx : PH → Option (Int32 × PH)) n' k (A1 : Nat → Nat → Int32) => fX4_fewestForAll_L22 35 (iN n) (iN g) kx n' (iN k) (encC I A1 L pr ot T)) (fun kx A1 => kx (encC I A1 L pr ot T)) (fun k A1 => frQ A A1 ∧ A1 40 g = orF (fun p => svT A pu G W n p g) k ∧ ∀ x, x ≠ g → A1 40 x = A' 40 x) P
    (fun k A1 hk hi => by
      obtain ⟨j1, j2, j3⟩ := hi
      have e28 : A1 28 = A 28 := j1.1 28 (by omega)
      have hh := c_holds (I := I) (A := A1) (L := L) (pr := pr) (ot := ot) (T := T) (o := 27) (p := k) (g := g) (Or.inl rfl) (by omega) (by omega)
      rw [show A1 (27 + 1) = A 28 from e28] at hh
      cases hb : hdB (A 28) k g with
      | true =>
        rw [hb] at hh
        have e2 : svT A pu G W n k g = 0 := by unfold svT; rw [hb]; rfl
        have ev : A1 40 g ||| 0 = A1 40 g := Int32.or_zero
        refine ⟨u1 A1 40 (upd (A1 40) g (A1 40 g)), ⟨⟨fun x hx => by rw [u1_eq, if_neg (by omega)]; exact j1.1 x hx, fun hx => by rw [u1_eq, if_neg (by decide)]; exact j1.2 hx⟩, ?_, fun x hx => ?_⟩, fun kx n' => ?_⟩
        · rw [u1_eq, if_pos rfl, upd_eq, j2]
          show _ = _ ||| svT A pu G W n k g
          rw [e2, Int32.or_zero]
        · rw [u1_eq, if_pos rfl, upd_if, if_neg hx]; exact j3 x hx
        · simp only [iN_lit, if_true] at hh
          simp only [iN_lit] at ev
          simp (disch := first | omega | assumption | (simp (disch := omega) only [iN_lit, iN_add, iN_mul, iN_pred, iN_pred', iN_lt, iN_le, iN_eq, iN_nat, nlt_t, nlt_f, nle_t, nle_f, neq_t, neq_f, List.length_nil, List.length_cons, or_false, false_or, or_self, not_false_eq_true, not_true_eq_false, ↓reduceIte, if_true, if_false, Bool.false_eq_true, Nat.reduceAdd])) only [fX4_fewestForAll_L22, ↓bK_11, ↓zK _, ↓bK_35, ↓bR_35_0, ↓bR_35_8, ↓bA_40, ↓bS_40, ↓bN_40, ↓bR_35_1, fX4_fewestForAll_J65_22, fX4_fewestForAll_J144_84, fX4_fewestForAll_J143_84, fX4_fewestForAll_J117_84, fX4_fewestForAll_J112_84, ↓hb_of (c_personSize), ↓hb_of (c_allWants), ↓hb_some, ↓bd_some, ↓letE_eq, h_z0, h_z1, h_zi0, h_zi1, ↓hb_of hh, iN_lit, iN_add, iN_mul, iN_pred, iN_pred', iN_lt, iN_le, iN_eq, iN_nat, nlt_t, nlt_f, nle_t, nle_f, neq_t, neq_f, List.length_nil, List.length_cons, or_false, false_or, or_self, not_false_eq_true, not_true_eq_false, ↓reduceIte, if_true, if_false, Bool.false_eq_true, Nat.reduceAdd, hP, ev]
      | false =>
        rw [hb] at hh
        have e2 : svT A pu G W n k g = wwS A pu G W k ((1 : Int32) <<< (iN g &&& 31)) n (A 28) := by unfold svT; rw [hb]; rfl
        obtain ⟨A2, f1, f2, -, f4⟩ := c.with2 (L := L) (ot := ot) (T := T) (m := (1 : Int32) <<< (iN g &&& 31)) (n := n) j1 hk (by omega)
        have e40 : A2 40 = A1 40 := f4 40 (by decide) (by decide) (by decide) (by rcases c.2.2.1 with h | h <;> omega)
        refine ⟨u1 A2 40 (upd (A2 40) g (A1 40 g ||| svT A pu G W n k g)), ⟨⟨fun x hx => by rw [u1_eq, if_neg (by omega)]; exact f2.1 x hx, fun hx => by rw [u1_eq, if_neg (by decide)]; exact f2.2 hx⟩, ?_, fun x hx => ?_⟩, fun kx n' => ?_⟩
        · rw [u1_eq, if_pos rfl, upd_eq, j2]
          rfl
        · rw [u1_eq, if_pos rfl, upd_if, if_neg hx, e40]; exact j3 x hx
        · simp only [iN_lit, Bool.false_eq_true, if_false] at hh f1
          rw [e2]
          simp (disch := first | omega | assumption | (simp (disch := omega) only [iN_lit, iN_add, iN_mul, iN_pred, iN_pred', iN_lt, iN_le, iN_eq, iN_nat, nlt_t, nlt_f, nle_t, nle_f, neq_t, neq_f, List.length_nil, List.length_cons, or_false, false_or, or_self, not_false_eq_true, not_true_eq_false, ↓reduceIte, if_true, if_false, Bool.false_eq_true, Nat.reduceAdd])) only [fX4_fewestForAll_L22, ↓bK_11, ↓zK _, ↓bK_35, ↓bR_35_0, ↓bR_35_8, ↓bA_40, ↓bS_40, ↓bN_40, ↓bR_35_1, fX4_fewestForAll_J65_22, fX4_fewestForAll_J144_84, fX4_fewestForAll_J143_84, fX4_fewestForAll_J117_84, fX4_fewestForAll_J112_84, ↓hb_of (c_personSize), ↓hb_of (c_allWants), ↓hb_some, ↓bd_some, ↓letE_eq, h_z0, h_z1, h_zi0, h_zi1, ↓hb_of hh, ↓hb_of f1, iN_lit, iN_add, iN_mul, iN_pred, iN_pred', iN_lt, iN_le, iN_eq, iN_nat, nlt_t, nlt_f, nle_t, nle_f, neq_t, neq_f, List.length_nil, List.length_cons, or_false, false_or, or_self, not_false_eq_true, not_true_eq_false, ↓reduceIte, if_true, if_false, Bool.false_eq_true, Nat.reduceAdd, hP])
    (fun A1 hi kx n' => by
      simp (disch := first | omega | assumption | (simp (disch := omega) only [iN_lit, iN_add, iN_mul, iN_pred, iN_pred', iN_lt, iN_le, iN_eq, iN_nat, nlt_t, nlt_f, nle_t, nle_f, neq_t, neq_f, List.length_nil, List.length_cons, or_false, false_or, or_self, not_false_eq_true, not_true_eq_false, ↓reduceIte, if_true, if_false, Bool.false_eq_true, Nat.reduceAdd])) only [fX4_fewestForAll_L22, ↓bK_11, ↓zK _, ↓bK_35, ↓bR_35_0, ↓bR_35_8, ↓bA_40, ↓bS_40, ↓bN_40, ↓bR_35_1, fX4_fewestForAll_J65_22, fX4_fewestForAll_J144_84, fX4_fewestForAll_J143_84, fX4_fewestForAll_J117_84, fX4_fewestForAll_J112_84, ↓hb_of (c_personSize), ↓hb_of (c_allWants), ↓hb_some, ↓bd_some, ↓letE_eq, h_z0, h_z1, h_zi0, h_zi1, iN_lit, iN_add, iN_mul, iN_pred, iN_pred', iN_lt, iN_le, iN_eq, iN_nat, nlt_t, nlt_f, nle_t, nle_f, neq_t, neq_f, List.length_nil, List.length_cons, or_false, false_or, or_self, not_false_eq_true, not_true_eq_false, ↓reduceIte, if_true, if_false, Bool.false_eq_true, Nat.reduceAdd, hP]) P 0 A' (by omega) ⟨i1, h0, fun _ _ => rfl⟩
  obtain ⟨A2, ⟨k1, k2, k3⟩, k4⟩ := key
  exact ⟨A2, fun kx => k4 kx FU (by unfold FU; omega), k1, k2, k3⟩
theorem cov2_C (c : CK I A G P W pr pu) (hn : n ≤ 20) :
    ∃ A2, (∀ kx : PH → Option (Int32 × PH), fX4_fewestForAll_L2 35 (iN n) kx FU (iN 0) (encC I A L pr ot T) = kx (encC I A2 L pr ot T)) ∧ frQ A A2 ∧ ∀ g, g < G → A2 40 g = orF (fun p => svT A pu G W n p g) P := by
  have hF := c.1
  have h8 := hF.2.2.2.1
  have hG := hF.1
  have key := lp_k (fun (kx : PH → Option (Int32 × PH)) n' k (A1 : Nat → Nat → Int32) => fX4_fewestForAll_L2 35 (iN n) kx n' (iN k) (encC I A1 L pr ot T)) (fun kx A1 => kx (encC I A1 L pr ot T)) (fun k A1 => frQ A A1 ∧ ∀ g, g < k → A1 40 g = orF (fun p => svT A pu G W n p g) P) G
    (fun k A1 hk hi => by
      obtain ⟨j1, j2⟩ := hi
      obtain ⟨A2, f1, f2, f3, f4⟩ := cov22_C (L := L) (ot := ot) (T := T) (A' := u1 A1 40 (upd (A1 40) k 0)) c hk hn ⟨fun x hx => by rw [u1_eq, if_neg (by omega)]; exact j1.1 x hx, fun hx => by rw [u1_eq, if_neg (by decide)]; exact j1.2 hx⟩ (by rw [u1_eq, if_pos rfl, upd_eq])
      refine ⟨A2, ⟨f2, fun g hg => ?_⟩, fun kx n' => ?_⟩
      · by_cases h : g = k
        · rw [h]; exact f3
        · rw [f4 g h, u1_eq, if_pos rfl, upd_if, if_neg h]; exact j2 g (by omega)
      · simp only [iN_lit] at f1
        simp (disch := first | omega | assumption | (simp (disch := omega) only [iN_lit, iN_add, iN_mul, iN_pred, iN_pred', iN_lt, iN_le, iN_eq, iN_nat, nlt_t, nlt_f, nle_t, nle_f, neq_t, neq_f, List.length_nil, List.length_cons, or_false, false_or, or_self, not_false_eq_true, not_true_eq_false, ↓reduceIte, if_true, if_false, Bool.false_eq_true, Nat.reduceAdd])) only [fX4_fewestForAll_L2, ↓bK_11, ↓bR_35_0, ↓bR_35_8, ↓bA_40, ↓bS_40, ↓bN_40, fX4_fewestForAll_J65_22, fX4_fewestForAll_J144_84, fX4_fewestForAll_J143_84, fX4_fewestForAll_J117_84, ↓bK_35, fX4_fewestForAll_J112_84, ↓hb_of (c_groundSize), ↓hb_of (c_allWants), ↓hb_some, ↓bd_some, ↓letE_eq, h_z0, h_z1, h_zi0, h_zi1, iN_lit, iN_add, iN_mul, iN_pred, iN_pred', iN_lt, iN_le, iN_eq, iN_nat, nlt_t, nlt_f, nle_t, nle_f, neq_t, neq_f, List.length_nil, List.length_cons, or_false, false_or, or_self, not_false_eq_true, not_true_eq_false, ↓reduceIte, if_true, if_false, Bool.false_eq_true, Nat.reduceAdd, hG, f1])
    (fun A1 hi kx n' => by
      simp (disch := first | omega | assumption | (simp (disch := omega) only [iN_lit, iN_add, iN_mul, iN_pred, iN_pred', iN_lt, iN_le, iN_eq, iN_nat, nlt_t, nlt_f, nle_t, nle_f, neq_t, neq_f, List.length_nil, List.length_cons, or_false, false_or, or_self, not_false_eq_true, not_true_eq_false, ↓reduceIte, if_true, if_false, Bool.false_eq_true, Nat.reduceAdd])) only [fX4_fewestForAll_L2, ↓bK_11, ↓bR_35_0, ↓bR_35_8, ↓bA_40, ↓bS_40, ↓bN_40, fX4_fewestForAll_J65_22, fX4_fewestForAll_J144_84, fX4_fewestForAll_J143_84, fX4_fewestForAll_J117_84, ↓bK_35, fX4_fewestForAll_J112_84, ↓hb_of (c_groundSize), ↓hb_of (c_allWants), ↓hb_some, ↓bd_some, ↓letE_eq, h_z0, h_z1, h_zi0, h_zi1, iN_lit, iN_add, iN_mul, iN_pred, iN_pred', iN_lt, iN_le, iN_eq, iN_nat, nlt_t, nlt_f, nle_t, nle_f, neq_t, neq_f, List.length_nil, List.length_cons, or_false, false_or, or_self, not_false_eq_true, not_true_eq_false, ↓reduceIte, if_true, if_false, Bool.false_eq_true, Nat.reduceAdd, hG]) G 0 A (by omega) ⟨frQ.refl, fun g hg => absurd hg (Nat.not_lt_zero _)⟩
  obtain ⟨A2, ⟨k1, k2⟩, k3⟩ := key
  exact ⟨A2, fun kx => k3 kx FU (by unfold FU; omega), k1, k2⟩
theorem cov_sv (c : CK I A G P W pr pu) (h : ∀ g, g < G → A' 40 g = orF (fun p => svT A pu G W n p g) P) : fX4_servedTogether 35 (iN k) (encC I A' L pr ot T) = some (svK A pu G P W n k, (encC I A' L pr ot T)) := by
  have hF := c.1
  have h8 := hF.2.2.2.1
  have hG := hF.1
  have key := lp_det (fun n' j (q : Int32) => fX4_servedTogether_L4 35 (iN k) (fun x1 h2 => some (x1, h2)) n' q (iN j) (encC I A' L pr ot T)) (fun q => some (q, (encC I A' L pr ot T))) (orF (fun g => if hasB (iN k) g then orF (fun p => svT A pu G W n p g) P else 0)) G
    (fun j hj n' => by
      have e1 : orF (fun g => if hasB (iN k) g then orF (fun p => svT A pu G W n p g) P else 0) (j + 1) = orF (fun g => if hasB (iN k) g then orF (fun p => svT A pu G W n p g) P else 0) j ||| (if hasB (iN k) j then orF (fun p => svT A pu G W n p j) P else 0) := rfl
      rw [e1]
      generalize orF (fun g => if hasB (iN k) g then orF (fun p => svT A pu G W n p g) P else 0) j = acc
      cases hb : hasB (iN k) j with
      | true =>
        rw [if_pos rfl, ← h j hj]
        simp (disch := first | omega | assumption | (simp (disch := omega) only [iN_lit, iN_add, iN_mul, iN_pred, iN_pred', iN_lt, iN_le, iN_eq, iN_nat, nlt_t, nlt_f, nle_t, nle_f, neq_t, neq_f, List.length_nil, List.length_cons, or_false, false_or, or_self, not_false_eq_true, not_true_eq_false, ↓reduceIte, if_true, if_false, Bool.false_eq_true, Nat.reduceAdd])) only [fX4_servedTogether_L4, ↓bK_11, ↓bR_35_0, ↓bR_35_8, ↓bA_40, ↓bS_40, ↓bN_40, fX4_servedTogether_J34_4, ↓hb_of (c_groundSize), ↓hb_some, ↓bd_some, ↓letE_eq, h_z0, h_z1, h_zi0, h_zi1, ↓hb_of (isIn_y hb), iN_lit, iN_add, iN_mul, iN_pred, iN_pred', iN_lt, iN_le, iN_eq, iN_nat, nlt_t, nlt_f, nle_t, nle_f, neq_t, neq_f, List.length_nil, List.length_cons, or_false, false_or, or_self, not_false_eq_true, not_true_eq_false, ↓reduceIte, if_true, if_false, Bool.false_eq_true, Nat.reduceAdd, hG]
      | false =>
        rw [if_neg (by decide)]
        simp (disch := first | omega | assumption | (simp (disch := omega) only [iN_lit, iN_add, iN_mul, iN_pred, iN_pred', iN_lt, iN_le, iN_eq, iN_nat, nlt_t, nlt_f, nle_t, nle_f, neq_t, neq_f, List.length_nil, List.length_cons, or_false, false_or, or_self, not_false_eq_true, not_true_eq_false, ↓reduceIte, if_true, if_false, Bool.false_eq_true, Nat.reduceAdd])) only [fX4_servedTogether_L4, ↓bK_11, ↓bR_35_0, ↓bR_35_8, ↓bA_40, ↓bS_40, ↓bN_40, fX4_servedTogether_J34_4, ↓hb_of (c_groundSize), ↓hb_some, ↓bd_some, ↓letE_eq, h_z0, h_z1, h_zi0, h_zi1, ↓hb_of (isIn_n hb), iN_lit, iN_add, iN_mul, iN_pred, iN_pred', iN_lt, iN_le, iN_eq, iN_nat, nlt_t, nlt_f, nle_t, nle_f, neq_t, neq_f, List.length_nil, List.length_cons, or_false, false_or, or_self, not_false_eq_true, not_true_eq_false, ↓reduceIte, if_true, if_false, Bool.false_eq_true, Nat.reduceAdd, hG])
    (fun n' => by simp (disch := first | omega | assumption | (simp (disch := omega) only [iN_lit, iN_add, iN_mul, iN_pred, iN_pred', iN_lt, iN_le, iN_eq, iN_nat, nlt_t, nlt_f, nle_t, nle_f, neq_t, neq_f, List.length_nil, List.length_cons, or_false, false_or, or_self, not_false_eq_true, not_true_eq_false, ↓reduceIte, if_true, if_false, Bool.false_eq_true, Nat.reduceAdd])) only [fX4_servedTogether_L4, ↓bK_11, ↓bR_35_0, ↓bR_35_8, ↓bA_40, ↓bS_40, ↓bN_40, fX4_servedTogether_J34_4, ↓hb_of (c_groundSize), ↓hb_of (isIn_y _), ↓hb_of (isIn_n _), ↓hb_of (c_isIn_gs _ _), ↓hb_some, ↓bd_some, ↓letE_eq, h_z0, h_z1, h_zi0, h_zi1, iN_lit, iN_add, iN_mul, iN_pred, iN_pred', iN_lt, iN_le, iN_eq, iN_nat, nlt_t, nlt_f, nle_t, nle_f, neq_t, neq_f, List.length_nil, List.length_cons, or_false, false_or, or_self, not_false_eq_true, not_true_eq_false, ↓reduceIte, if_true, if_false, Bool.false_eq_true, Nat.reduceAdd, hG]) FU (by unfold FU; omega)
  exact key
theorem cov_C (c : CK I A G P W pr pu) (hn : n ≤ 20) {r : Option Nat} (hr : cvF (fun k => decide (svK A pu G P W n k = ((1 : Int32) <<< (iN W &&& 31)) - 1)) (2 ^ G) = r) :
    qC I A L pr ot T (fX4_fewestForAll 35 (iN n)) (match r with | none => -2 | some f => bc (iN f)) (r.map (fun f => [(iN f).toInt64])) := by
  have hF := c.1
  have h8 := hF.2.2.2.1
  have hG := hF.1
  have hW := hF.2.2.1
  obtain ⟨cc, hcc⟩ : ∃ cc, cc = (fun k => decide (svK A pu G P W n k = ((1 : Int32) <<< (iN W &&& 31)) - 1)) := ⟨_, rfl⟩
  have hcg : ∀ k, decide (svK A pu G P W n k = ((1 : Int32) <<< (iN W &&& 31)) - 1) = cc k := fun g => by rw [hcc]
  rw [← hcc] at hr
  obtain ⟨N, hN⟩ : ∃ N, N = 2 ^ G := ⟨_, rfl⟩
  have hp2 := p2 h8
  have hsh : (1 : Int32) <<< (iN G &&& 31) = iN N := by rw [hN]; exact shl_n ⟨G, by omega⟩
  have hsh' : iN 1 <<< (iN G &&& iN 31) = iN N := hsh
  rw [← hN] at hr hp2
  obtain ⟨A2, g1, g2, g3⟩ := cov2_C (L := L) (ot := ot) (T := T) c hn
  have key := lp_det (fun n' k (q : Int32) => fX4_fewestForAll_L84 35 kxCv n' q (iN k) (encC I A2 L pr ot T)) (fun q => kxCv q (encC I A2 L pr ot T)) (fun k => eC2 (cvF cc k)) N
    (fun k hk n' => by
      have f1 := cov_sv (L := L) (ot := ot) (T := T) (k := k) c g3
      have e1 : cvF cc (k + 1) = if lsC (cvF cc k) k && cc k then some k else cvF cc k := rfl
      have f2 : fX0_allWants 11 (encC I A2 L pr ot T) = some (((1 : Int32) <<< (iN W &&& 31)) - 1, (encC I A2 L pr ot T)) := by rw [c_allWants, hW]
      have hd := hcg k
      generalize svK A pu G P W n k = v at f1 hd
      generalize ((1 : Int32) <<< (iN W &&& 31)) - 1 = aw at f2 hd
      rw [e1]
      have e2 : eC2 (some k) = iN k := rfl
      cases ho : cvF cc k with
      | none =>
        have en : (eC2 none < 0) = True := eq_true (by decide)
        have en' : (eC2 none < iN 0) = True := eq_true (by decide)
        show _ = fX4_fewestForAll_L84 35 kxCv n' (eC2 (if lsC none k && cc k then some k else none)) (iN (k + 1)) (encC I A2 L pr ot T)
        rw [show lsC none k = true from rfl, Bool.true_and]
        cases hb : cc k with
        | true =>
          rw [hb] at hd
          have hv : v = aw := of_decide_eq_true hd
          rw [if_pos rfl, e2]
          subst hv
          simp (disch := first | omega | assumption | (simp (disch := omega) only [iN_lit, iN_add, iN_mul, iN_pred, iN_pred', iN_lt, iN_le, iN_eq, iN_nat, nlt_t, nlt_f, nle_t, nle_f, neq_t, neq_f, List.length_nil, List.length_cons, or_false, false_or, or_self, not_false_eq_true, not_true_eq_false, ↓reduceIte, if_true, if_false, Bool.false_eq_true, Nat.reduceAdd])) only [fX4_fewestForAll_L84, ↓bK_11, ↓bR_35_0, fX4_fewestForAll_J65_22, fX4_fewestForAll_J144_84, fX4_fewestForAll_J143_84, fX4_fewestForAll_J117_84, ↓bK_35, fX4_fewestForAll_J112_84, ↓hb_of (c_groundSize), ↓hb_of (c_bitCount), ↓hb_some, ↓bd_some, ↓letE_eq, h_z0, h_z1, h_zi0, h_zi1, ↓hb_of f1, ↓hb_of f2, iN_lit, iN_add, iN_mul, iN_pred, iN_pred', iN_lt, iN_le, iN_eq, iN_nat, nlt_t, nlt_f, nle_t, nle_f, neq_t, neq_f, List.length_nil, List.length_cons, or_false, false_or, or_self, not_false_eq_true, not_true_eq_false, ↓reduceIte, if_true, if_false, Bool.false_eq_true, Nat.reduceAdd, hG, hsh', en']
        | false =>
          rw [hb] at hd
          have hv : ¬ v = aw := of_decide_eq_false hd
          rw [if_neg (by decide)]
          simp (disch := first | omega | assumption | (simp (disch := omega) only [iN_lit, iN_add, iN_mul, iN_pred, iN_pred', iN_lt, iN_le, iN_eq, iN_nat, nlt_t, nlt_f, nle_t, nle_f, neq_t, neq_f, List.length_nil, List.length_cons, or_false, false_or, or_self, not_false_eq_true, not_true_eq_false, ↓reduceIte, if_true, if_false, Bool.false_eq_true, Nat.reduceAdd])) only [fX4_fewestForAll_L84, ↓bK_11, ↓bR_35_0, fX4_fewestForAll_J65_22, fX4_fewestForAll_J144_84, fX4_fewestForAll_J143_84, fX4_fewestForAll_J117_84, ↓bK_35, fX4_fewestForAll_J112_84, ↓hb_of (c_groundSize), ↓hb_of (c_bitCount), ↓hb_some, ↓bd_some, ↓letE_eq, h_z0, h_z1, h_zi0, h_zi1, ↓hb_of f1, ↓hb_of f2, iN_lit, iN_add, iN_mul, iN_pred, iN_pred', iN_lt, iN_le, iN_eq, iN_nat, nlt_t, nlt_f, nle_t, nle_f, neq_t, neq_f, List.length_nil, List.length_cons, or_false, false_or, or_self, not_false_eq_true, not_true_eq_false, ↓reduceIte, if_true, if_false, Bool.false_eq_true, Nat.reduceAdd, hG, hsh', en', hv]
      | some f =>
        have hf := cvF_lt k f ho
        have en' : (iN f < iN 0) = False := eq_false (by rw [iN_lt (by omega) (by omega)]; omega)
        have e3 : eC2 (some f) = iN f := rfl
        by_cases hl : bc (iN k) < bc (iN f)
        · have hl' : ¬ bc (iN f) ≤ bc (iN k) := by rw [nle_lt]; exact fun h => h hl
          rw [show lsC (some f) k = true from decide_eq_true hl, Bool.true_and]
          cases hb : cc k with
          | true =>
            rw [hb] at hd
            have hv : v = aw := of_decide_eq_true hd
            rw [if_pos rfl, e2, e3]
            subst hv
            simp (disch := first | omega | assumption | (simp (disch := omega) only [iN_lit, iN_add, iN_mul, iN_pred, iN_pred', iN_lt, iN_le, iN_eq, iN_nat, nlt_t, nlt_f, nle_t, nle_f, neq_t, neq_f, List.length_nil, List.length_cons, or_false, false_or, or_self, not_false_eq_true, not_true_eq_false, ↓reduceIte, if_true, if_false, Bool.false_eq_true, Nat.reduceAdd])) only [fX4_fewestForAll_L84, ↓bK_11, ↓bR_35_0, fX4_fewestForAll_J65_22, fX4_fewestForAll_J144_84, fX4_fewestForAll_J143_84, fX4_fewestForAll_J117_84, ↓bK_35, fX4_fewestForAll_J112_84, ↓hb_of (c_groundSize), ↓hb_of (c_bitCount), ↓hb_some, ↓bd_some, ↓letE_eq, h_z0, h_z1, h_zi0, h_zi1, ↓hb_of f1, ↓hb_of f2, ↓hb_of c_bitCount, iN_lit, iN_add, iN_mul, iN_pred, iN_pred', iN_lt, iN_le, iN_eq, iN_nat, nlt_t, nlt_f, nle_t, nle_f, neq_t, neq_f, List.length_nil, List.length_cons, or_false, false_or, or_self, not_false_eq_true, not_true_eq_false, ↓reduceIte, if_true, if_false, Bool.false_eq_true, Nat.reduceAdd, hG, hsh', en', hl']
          | false =>
            rw [hb] at hd
            have hv : ¬ v = aw := of_decide_eq_false hd
            rw [if_neg (by decide), e3]
            simp (disch := first | omega | assumption | (simp (disch := omega) only [iN_lit, iN_add, iN_mul, iN_pred, iN_pred', iN_lt, iN_le, iN_eq, iN_nat, nlt_t, nlt_f, nle_t, nle_f, neq_t, neq_f, List.length_nil, List.length_cons, or_false, false_or, or_self, not_false_eq_true, not_true_eq_false, ↓reduceIte, if_true, if_false, Bool.false_eq_true, Nat.reduceAdd])) only [fX4_fewestForAll_L84, ↓bK_11, ↓bR_35_0, fX4_fewestForAll_J65_22, fX4_fewestForAll_J144_84, fX4_fewestForAll_J143_84, fX4_fewestForAll_J117_84, ↓bK_35, fX4_fewestForAll_J112_84, ↓hb_of (c_groundSize), ↓hb_of (c_bitCount), ↓hb_some, ↓bd_some, ↓letE_eq, h_z0, h_z1, h_zi0, h_zi1, ↓hb_of f1, ↓hb_of f2, ↓hb_of c_bitCount, iN_lit, iN_add, iN_mul, iN_pred, iN_pred', iN_lt, iN_le, iN_eq, iN_nat, nlt_t, nlt_f, nle_t, nle_f, neq_t, neq_f, List.length_nil, List.length_cons, or_false, false_or, or_self, not_false_eq_true, not_true_eq_false, ↓reduceIte, if_true, if_false, Bool.false_eq_true, Nat.reduceAdd, hG, hsh', en', hl', hv]
        · have hl' : bc (iN f) ≤ bc (iN k) := by rw [nle_lt]; exact hl
          rw [show lsC (some f) k = false from decide_eq_false hl, Bool.false_and, if_neg (by decide), e3]
          simp (disch := first | omega | assumption | (simp (disch := omega) only [iN_lit, iN_add, iN_mul, iN_pred, iN_pred', iN_lt, iN_le, iN_eq, iN_nat, nlt_t, nlt_f, nle_t, nle_f, neq_t, neq_f, List.length_nil, List.length_cons, or_false, false_or, or_self, not_false_eq_true, not_true_eq_false, ↓reduceIte, if_true, if_false, Bool.false_eq_true, Nat.reduceAdd])) only [fX4_fewestForAll_L84, ↓bK_11, ↓bR_35_0, fX4_fewestForAll_J65_22, fX4_fewestForAll_J144_84, fX4_fewestForAll_J143_84, fX4_fewestForAll_J117_84, ↓bK_35, fX4_fewestForAll_J112_84, ↓hb_of (c_groundSize), ↓hb_of (c_bitCount), ↓hb_some, ↓bd_some, ↓letE_eq, h_z0, h_z1, h_zi0, h_zi1, ↓hb_of c_bitCount, iN_lit, iN_add, iN_mul, iN_pred, iN_pred', iN_lt, iN_le, iN_eq, iN_nat, nlt_t, nlt_f, nle_t, nle_f, neq_t, neq_f, List.length_nil, List.length_cons, or_false, false_or, or_self, not_false_eq_true, not_true_eq_false, ↓reduceIte, if_true, if_false, Bool.false_eq_true, Nat.reduceAdd, hG, hsh', en', hl'])
    (fun n' => by
      simp (disch := first | omega | assumption | (simp (disch := omega) only [iN_lit, iN_add, iN_mul, iN_pred, iN_pred', iN_lt, iN_le, iN_eq, iN_nat, nlt_t, nlt_f, nle_t, nle_f, neq_t, neq_f, List.length_nil, List.length_cons, or_false, false_or, or_self, not_false_eq_true, not_true_eq_false, ↓reduceIte, if_true, if_false, Bool.false_eq_true, Nat.reduceAdd])) only [fX4_fewestForAll_L84, ↓bK_11, ↓bR_35_0, fX4_fewestForAll_J65_22, fX4_fewestForAll_J144_84, fX4_fewestForAll_J143_84, fX4_fewestForAll_J117_84, ↓bK_35, fX4_fewestForAll_J112_84, ↓hb_of (c_groundSize), ↓hb_of (c_bitCount), ↓hb_of (c_allWants), ↓hb_some, ↓bd_some, ↓letE_eq, h_z0, h_z1, h_zi0, h_zi1, iN_lit, iN_add, iN_mul, iN_pred, iN_pred', iN_lt, iN_le, iN_eq, iN_nat, nlt_t, nlt_f, nle_t, nle_f, neq_t, neq_f, List.length_nil, List.length_cons, or_false, false_or, or_self, not_false_eq_true, not_true_eq_false, ↓reduceIte, if_true, if_false, Bool.false_eq_true, Nat.reduceAdd, hG, hsh']) FU (by unfold FU; omega)
  rw [hr] at key
  have en : ∀ z, kxCv (eC2 r) (encC I A2 L pr ot T) = z → fX4_fewestForAll 35 (iN n) (encC I A L pr ot T) = z := by
    intro z hz
    have e0 : eC2 (cvF cc 0) = (-2 : Int32) := rfl
    rw [e0] at key
    unfold fX4_fewestForAll
    refine (g1 _).trans ?_
    refine Eq.trans ?_ hz
    exact key
  cases r with
  | none => exact ⟨I, A2, L, en _ (if_neg (by decide)), frI.refl, g2, rfl, rfl⟩
  | some f =>
    have hf := cvF_lt N f hr
    have a1 := c_add (I := I) (A := A2) (L := L) (pr := pr) (ot := ot) (T := T) (v := (iN f).toInt64) (n := 0) (by decide)
    refine ⟨u2 I 9 1 (iN 1), A2, vp_updL L 0 (iN f).toInt64, en _ ?_, frI.u, g2, by simp, row_1 rfl⟩
    unfold eC2 kxCv
    dsimp only
    simp only [iN_lit]
    simp (disch := first | omega | assumption | (simp (disch := omega) only [iN_lit, iN_add, iN_mul, iN_pred, iN_pred', iN_lt, iN_le, iN_eq, iN_nat, nlt_t, nlt_f, nle_t, nle_f, neq_t, neq_f, List.length_nil, List.length_cons, or_false, false_or, or_self, not_false_eq_true, not_true_eq_false, ↓reduceIte, if_true, if_false, Bool.false_eq_true, Nat.reduceAdd])) only [fX4_fewestForAll, ↓bK_9, ↓bR_35_3, ↓hb_of (c_start), ↓hb_of (c_bitCount), ↓hb_some, ↓bd_some, ↓letE_eq, h_z0, h_z1, h_zi0, h_zi1, ↓hb_of c_start, ↓hb_of a1, ↓hb_of c_bitCount, iN_lit, iN_add, iN_mul, iN_pred, iN_pred', iN_lt, iN_le, iN_eq, iN_nat, nlt_t, nlt_f, nle_t, nle_f, neq_t, neq_f, List.length_nil, List.length_cons, or_false, false_or, or_self, not_false_eq_true, not_true_eq_false, ↓reduceIte, if_true, if_false, Bool.false_eq_true, Nat.reduceAdd]
end CV
