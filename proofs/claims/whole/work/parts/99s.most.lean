/-! SHARES: the class's most (3): the sums of sets -/
section MS
variable {I A E I' A' : Nat → Nat → Int32} {L L' : Nat → Int64} {pr ot s : Nat} {T : PH} {ga : Nat → Nat → Nat} {g q v w n p r f G P W K X Y st acc j R : Nat} {lf : Nat → Nat} {S : Nat → Bool}
theorem pw2 (h : j ≤ 6) : 0 < 2 ^ j ∧ 2 ^ j ≤ 64 := by
  have key : ∀ k : Fin 7, 0 < 2 ^ k.val ∧ 2 ^ k.val ≤ 64 := by decide
  exact key ⟨j, by omega⟩
theorem sw_hi (hj : j < 6) (h1 : 2 ^ j ≤ X) (h2 : X < 2 * 2 ^ j) : swM ga g X = swM ga g (X - 2 ^ j) + ga j g := by
  have hX : X < 64 := by have := pw2 (j := j + 1) (by omega); rw [Nat.pow_succ] at this; omega
  have key : ∀ x : Fin 64, ∀ k : Fin 6, 2 ^ k.val ≤ x.val → x.val < 2 * 2 ^ k.val → tb x.val k.val = true ∧ ∀ q : Fin 6, woS (tb x.val) k.val q.val = tb (x.val - 2 ^ k.val) q.val := by decide +kernel
  obtain ⟨e1, e2⟩ := key ⟨X, hX⟩ ⟨j, hj⟩ h1 h2
  dsimp only at e1 e2
  have e3 : woS (tb X) j = tb (X - 2 ^ j) := by
    funext q
    by_cases h : q < 6
    · exact e2 ⟨q, h⟩
    · rw [tb_hi (by omega) (by omega)]
      unfold woS
      rw [tb_hi hX (by omega)]; rfl
  unfold swM
  rw [swT_wo e1 6 hj, e3]
theorem sw_0 : swM ga g 0 = 0 := by
  have b : ∀ n, swT ga (tb 0) g n = 0 := by
    intro n
    induction n with
    | zero => rfl
    | succ n ih =>
      show swT ga (tb 0) g n + (if tb 0 n then ga n g else 0) = 0
      rw [ih, show tb 0 n = false from Nat.zero_testBit n]; rfl
  exact b 6
theorem su34 (hg : g < 8) (hp : p < 6) (hfp : f + j = p) (hR : j < R) (hR6 : R ≤ 6) (hga : ∀ q g, ga q g ≤ 100) (e41 : A' 41 (p * 8 + g) = iN (ga j g)) (i1 : ∀ X, X < 2 ^ j → A' 44 X = iN (swM ga g X)) :
    ∃ X2, (∀ kx : PH → Option (Unit × PH), fX4_sumGains_L34 35 (iN g) (iN f) (iN (2 ^ R)) (iN p) (iN (2 ^ j)) kx FU (iN (2 ^ j)) (encC I A' L pr ot T) = kx (encC I (u1 A' 44 X2) L pr ot T)) ∧ ∀ X, X < 2 ^ (j + 1) → X2 X = iN (swM ga g X) := by
  have hj6 := pw2 (j := j) (by omega)
  have hRR := pw2 (j := R) (by omega)
  have hle : 2 ^ (j + 1) ≤ 2 ^ R := Nat.pow_le_pow_right (by decide) (by omega)
  rw [Nat.pow_succ] at hle
  obtain ⟨N, hN⟩ : ∃ N, N = 2 ^ j := ⟨_, rfl⟩
  obtain ⟨M, hM⟩ : ∃ M, M = 2 ^ R := ⟨_, rfl⟩
  have sw : ∀ X, N ≤ X → X < 2 * N → swM ga g X = swM ga g (X - N) + ga j g := fun X h1 h2 => by rw [hN] at h1 h2 ⊢; exact sw_hi (by omega) h1 h2
  rw [Nat.pow_succ]
  rw [← hN] at hj6 hle i1 ⊢
  rw [← hM] at hRR hle ⊢
  have e0 : u1 A' 44 (A' 44) = A' := u1_self
  have key := lp_k (fun (kx : PH → Option (Unit × PH)) n' k (Z : Nat → Int32) => fX4_sumGains_L34 35 (iN g) (iN f) (iN M) (iN p) (iN N) kx n' (iN (N + k)) (encC I (u1 A' 44 Z) L pr ot T)) (fun kx Z => kx (encC I (u1 A' 44 Z) L pr ot T)) (fun k Z => ∀ X, X < N + k → Z X = iN (swM ga g X)) N
    (fun k Z hk hi => by
      have s1 := hi k (by omega)
      have s2 := sw (N + k) (by omega) (by omega)
      rw [Nat.add_sub_cancel_left] at s2
      refine ⟨upd Z (N + k) (iN (swM ga g (N + k))), fun X hX => ?_, fun kx n' => ?_⟩
      · rw [upd_if]
        by_cases e : X = N + k
        · rw [if_pos e, e]
        · rw [if_neg e]; exact hi X (by omega)
      · have h1 : iN (N + k) - iN N = iN k := by rw [iN_sub (by omega), Nat.add_sub_cancel_left]
        rw [s2]
        generalize swM ga g k = sk at s1
        generalize ga j g = gj at e41
        have hz : u1 A' 44 Z 44 = Z := by rw [u1_eq, if_pos rfl]
        have h41 : u1 A' 44 Z 41 = A' 41 := by rw [u1_eq, if_neg (by decide)]
        rw [← Nat.add_assoc N k 1]
        simp (disch := first | omega | assumption | (simp (disch := omega) only [iN_lit, iN_add, iN_mul, iN_pred, iN_pred', iN_lt, iN_le, iN_eq, iN_nat, nlt_t, nlt_f, nle_t, nle_f, neq_t, neq_f, List.length_nil, List.length_cons, or_false, false_or, or_self, not_false_eq_true, not_true_eq_false, ↓reduceIte, if_true, if_false, Bool.false_eq_true, Nat.reduceAdd])) only [fX4_sumGains_L34, ↓bR_35_12, ↓bA_44, ↓bS_44, ↓bN_44, ↓bR_35_9, ↓bA_41, ↓bS_41, ↓bN_41, ↓hb_some, ↓bd_some, ↓letE_eq, h_z0, h_z1, h_zi0, h_zi1, iN_lit, iN_add, iN_mul, iN_pred, iN_pred', iN_lt, iN_le, iN_eq, iN_nat, nlt_t, nlt_f, nle_t, nle_f, neq_t, neq_f, List.length_nil, List.length_cons, or_false, false_or, or_self, not_false_eq_true, not_true_eq_false, ↓reduceIte, if_true, if_false, Bool.false_eq_true, Nat.reduceAdd, h1, hz, h41, s1, e41, u1_u1])
    (fun Z hi kx n' => by
      rw [show N + N = 2 * N by omega]
      simp (disch := first | omega | assumption | (simp (disch := omega) only [iN_lit, iN_add, iN_mul, iN_pred, iN_pred', iN_lt, iN_le, iN_eq, iN_nat, nlt_t, nlt_f, nle_t, nle_f, neq_t, neq_f, List.length_nil, List.length_cons, or_false, false_or, or_self, not_false_eq_true, not_true_eq_false, ↓reduceIte, if_true, if_false, Bool.false_eq_true, Nat.reduceAdd])) only [fX4_sumGains_L34, ↓bR_35_12, ↓bA_44, ↓bS_44, ↓bN_44, ↓bR_35_9, ↓bA_41, ↓bS_41, ↓bN_41, ↓hb_some, ↓bd_some, ↓letE_eq, h_z0, h_z1, h_zi0, h_zi1, iN_lit, iN_add, iN_mul, iN_pred, iN_pred', iN_lt, iN_le, iN_eq, iN_nat, nlt_t, nlt_f, nle_t, nle_f, neq_t, neq_f, List.length_nil, List.length_cons, or_false, false_or, or_self, not_false_eq_true, not_true_eq_false, ↓reduceIte, if_true, if_false, Bool.false_eq_true, Nat.reduceAdd]) N 0 (A' 44) (by omega) i1
  obtain ⟨X2, k1, k2⟩ := key
  refine ⟨X2, fun kx => ?_, fun X hX => k1 X (by omega)⟩
  have := k2 kx FU (by unfold FU; omega)
  rw [e0] at this
  exact this
theorem su_C (hP : I 11 10 = iN P) (h6 : P ≤ 6) (hg : g < 8) (hf : f ≤ P) (hga : ∀ q g, ga q g ≤ 100) (e41 : ∀ p, p < P → A' 41 (p * 8 + g) = iN (ga p g)) :
    ∃ X2, fX4_sumGains 35 (iN g) (iN f) (iN (2 ^ (P - f))) (encC I A' L pr ot T) = some ((), (encC I (u1 A' 44 X2) L pr ot T)) ∧ ∀ X, X < 2 ^ (P - f) → X2 X = iN (swM (gaF ga f) g X) := by
  have hRR := pw2 (j := P - f) (by omega)
  obtain ⟨M, hM⟩ : ∃ M, M = 2 ^ (P - f) := ⟨_, rfl⟩
  have key := lp_k (fun (kx : Unit) n' k (Z : Nat → Int32) => fX4_sumGains_L10 35 (iN g) (iN f) (iN M) (fun h3 => some ((), h3)) n' (iN (f + k)) (encC I (u1 A' 44 Z) L pr ot T)) (fun _ Z => some ((), (encC I (u1 A' 44 Z) L pr ot T))) (fun k Z => ∀ X, X < 2 ^ k → Z X = iN (swM (gaF ga f) g X)) (P - f)
    (fun k Z hk hi => by
      obtain ⟨X2, f1, f2⟩ := su34 (I := I) (L := L) (pr := pr) (ot := ot) (T := T) (ga := gaF ga f) (f := f) (p := f + k) (j := k) (R := P - f) (A' := u1 A' 44 Z) hg (by omega) rfl hk (by omega) (fun q g => hga (f + q) g) (by rw [u1_eq, if_neg (by decide)]; exact e41 (f + k) (by omega)) (by rw [u1_eq, if_pos rfl]; exact hi)
      refine ⟨X2, f2, fun _ n' => ?_⟩
      have h1 : iN (f + k) - iN f = iN k := by rw [iN_sub (by omega), Nat.add_sub_cancel_left]
      have h2 : iN 1 <<< (iN k &&& iN 31) = iN (2 ^ k) := shl_n ⟨k, by omega⟩
      rw [← hM, u1_u1] at f1
      rw [← Nat.add_assoc f k 1]
      generalize 2 ^ k = N at f1 h2
      simp (disch := first | omega | assumption | (simp (disch := omega) only [iN_lit, iN_add, iN_mul, iN_pred, iN_pred', iN_lt, iN_le, iN_eq, iN_nat, nlt_t, nlt_f, nle_t, nle_f, neq_t, neq_f, List.length_nil, List.length_cons, or_false, false_or, or_self, not_false_eq_true, not_true_eq_false, ↓reduceIte, if_true, if_false, Bool.false_eq_true, Nat.reduceAdd])) only [fX4_sumGains_L10, ↓bK_11, ↓bR_35_0, ↓hb_of (c_personSize), ↓hb_some, ↓bd_some, ↓letE_eq, h_z0, h_z1, h_zi0, h_zi1, iN_lit, iN_add, iN_mul, iN_pred, iN_pred', iN_lt, iN_le, iN_eq, iN_nat, nlt_t, nlt_f, nle_t, nle_f, neq_t, neq_f, List.length_nil, List.length_cons, or_false, false_or, or_self, not_false_eq_true, not_true_eq_false, ↓reduceIte, if_true, if_false, Bool.false_eq_true, Nat.reduceAdd, hP, h1, h2, f1])
    (fun Z hi _ n' => by
      rw [show f + (P - f) = P by omega]
      simp (disch := first | omega | assumption | (simp (disch := omega) only [iN_lit, iN_add, iN_mul, iN_pred, iN_pred', iN_lt, iN_le, iN_eq, iN_nat, nlt_t, nlt_f, nle_t, nle_f, neq_t, neq_f, List.length_nil, List.length_cons, or_false, false_or, or_self, not_false_eq_true, not_true_eq_false, ↓reduceIte, if_true, if_false, Bool.false_eq_true, Nat.reduceAdd])) only [fX4_sumGains_L10, ↓bK_11, ↓bR_35_0, ↓hb_of (c_personSize), ↓hb_some, ↓bd_some, ↓letE_eq, h_z0, h_z1, h_zi0, h_zi1, iN_lit, iN_add, iN_mul, iN_pred, iN_pred', iN_lt, iN_le, iN_eq, iN_nat, nlt_t, nlt_f, nle_t, nle_f, neq_t, neq_f, List.length_nil, List.length_cons, or_false, false_or, or_self, not_false_eq_true, not_true_eq_false, ↓reduceIte, if_true, if_false, Bool.false_eq_true, Nat.reduceAdd, hP]) (P - f) 0 (upd (A' 44) 0 0) (by omega) (fun X hX => by
        rw [show X = 0 by omega, sw_0]
        exact upd_eq)
  obtain ⟨X2, k1, k2⟩ := key
  refine ⟨X2, ?_, k1⟩
  have := k2 () FU (by unfold FU; omega)
  rw [← hM] at hRR ⊢
  simp only [iN_lit] at this
  simp (disch := first | omega | assumption | (simp (disch := omega) only [iN_lit, iN_add, iN_mul, iN_pred, iN_pred', iN_lt, iN_le, iN_eq, iN_nat, nlt_t, nlt_f, nle_t, nle_f, neq_t, neq_f, List.length_nil, List.length_cons, or_false, false_or, or_self, not_false_eq_true, not_true_eq_false, ↓reduceIte, if_true, if_false, Bool.false_eq_true, Nat.reduceAdd])) only [fX4_sumGains, ↓bR_35_12, ↓bA_44, ↓bS_44, ↓bN_44, ↓hb_some, ↓bd_some, ↓letE_eq, h_z0, h_z1, h_zi0, h_zi1, iN_lit, iN_add, iN_mul, iN_pred, iN_pred', iN_lt, iN_le, iN_eq, iN_nat, nlt_t, nlt_f, nle_t, nle_f, neq_t, neq_f, List.length_nil, List.length_cons, or_false, false_or, or_self, not_false_eq_true, not_true_eq_false, ↓reduceIte, if_true, if_false, Bool.false_eq_true, Nat.reduceAdd]
  exact this
end MS
