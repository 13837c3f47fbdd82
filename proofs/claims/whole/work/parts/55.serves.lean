/-! CALLS: serves, burdens -/
def bsF (c : Nat → Bool) (v : Nat → Int32) : Nat → Option Nat
  | 0 => none
  | g + 1 => match bsF c v g with
    | none => if c g then some g else none
    | some f => if c g && decide (bc (v f) < bc (v g)) then some g else some f
def eF (o : Option Nat) : Int32 := match o with | none => -2 | some f => iN f
def eV (v : Nat → Int32) (o : Option Nat) : Int32 := match o with | none => 0 | some f => v f
theorem bsF_lt {c : Nat → Bool} {v : Nat → Int32} : ∀ k f, bsF c v k = some f → f < k
  | 0, f, h => by cases h
  | k + 1, f, h => by
    unfold bsF at h
    cases hb : bsF c v k with
    | none =>
      rw [hb] at h
      dsimp only at h
      split at h
      · cases h; omega
      · cases h
    | some f' =>
      rw [hb] at h
      dsimp only at h
      have := bsF_lt k f' hb
      split at h
      · cases h; omega
      · cases h; omega
theorem ne_m {n k : Nat} (h : n < 2147483648) (hk : k < 100) (h0 : 0 < k) : (iN n = -iN k) = False := eq_false (fun e => by
  have h1 := congrArg Int32.toInt e
  rw [iN_int h] at h1
  have key : ∀ k : Fin 100, 0 < k.val → (-iN k.val).toInt < 0 := by decide +kernel
  have := key ⟨k, hk⟩ h0
  dsimp only at this
  omega)
theorem nle_lt {x y : Int32} : (x ≤ y) = ¬ (y < x) := by
  apply propext
  rw [Int32.le_iff_toInt_le, Int32.lt_iff_toInt_lt]; omega
def kxC35 (i1 i2 : Int32) : Int32 → Int32 → PH → Option (Int32 × PH) := fun x3 x4 h5 => if x3 < 0 then (some (x3, h5)) else ((h_gr 3 3 h5 35).bind fun q6 => (h_ck 2 h5 q6).bind fun _ => h_bd (fX3_start q6 h5) fun _ h7 => (h_gr 3 3 h7 35).bind fun q8 => (h_ck 2 h7 q8).bind fun _ => h_bd (fX3_add q8 (x4.toInt64) h7) fun _ h9 => (h_gr 3 3 h9 35).bind fun q10 => (h_ck 3 h9 35).bind fun _ => h_bd (fX4_wantsWith 35 i1 (0 : Int32) i2 h9) fun x11 h12 => (h_ck 2 h12 q10).bind fun _ => h_bd (fX3_add q10 (x11.toInt64) h12) fun _ h13 => some (x3, h13))
def kxM34 (i1 i2 : Int32) : Int32 → Int32 → PH → Option (Int32 × PH) := fun x6 x7 h8 => if x6 = (-2 : Int32) then (some ((-2 : Int32), h8)) else ((h_pv 11 12 h8 45 (.int (0 : Int32))).bind fun h9 => (h_ck 11 h9 45).bind fun _ => h_bd (fX12_tell 45 (x7.toInt64) h9) fun _ h10 => (h_ck 11 h10 45).bind fun _ => h_bd (fX12_hadWith 45 i1 (0 : Int32) i2 h10) fun x11 h12 => (h_ck 11 h12 45).bind fun _ => h_bd (fX12_tell 45 (x11.toInt64) h12) fun _ h13 => some (x6, h13))
theorem if_1z {α : Type} {a b : α} : (if (1 : Int32) = 0 then a else b) = b := if_neg (by decide)
theorem if_0z {α : Type} {a b : α} : (if (0 : Int32) = 0 then a else b) = a := if_pos rfl
section SV
variable {I A E I' A' : Nat → Nat → Int32} {L L' : Nat → Int64} {pr ot s : Nat} {J J' : Nat → Int32} {B B' : Nat → Nat → Int32} {M M' : Nat → Int64} {rdv rdv' : Value} {ru : Nat} {T : PH} {G P W p q g n nr sz ro oa w t : Nat} {Z Z' R X a : Nat → Int32} {x y z i2 m : Int32} {out : Nat → Int64} {pu : (Nat → Int32) → Int32}
theorem serv_C (c : CK I A G P W pr pu) (hp : p < P) (hn : n ≤ 60) :
    qC I A L pr ot T (fX4_bestServing 35 (iN p) (iN n)) (eF (bsF (fun g => hasB (frS (A 28) G p) g) (fun g => wwS A pu G W p ((1 : Int32) <<< (iN g &&& 31)) n (A 28)) G)) ((bsF (fun g => hasB (frS (A 28) G p) g) (fun g => wwS A pu G W p ((1 : Int32) <<< (iN g &&& 31)) n (A 28)) G).map (fun f => [(wwS A pu G W p ((1 : Int32) <<< (iN f &&& 31)) n (A 28)).toInt64, (wwS A pu G W p 0 n (A 28)).toInt64])) := by
  have hG := c.1.1
  have h8 := c.1.2.2.2.1
  obtain ⟨cc, hcc⟩ : ∃ cc, cc = (fun g => hasB (frS (A 28) G p) g) := ⟨_, rfl⟩
  obtain ⟨v, hv⟩ : ∃ v, v = (fun g => wwS A pu G W p ((1 : Int32) <<< (iN g &&& 31)) n (A 28)) := ⟨_, rfl⟩
  have hvg : ∀ g, wwS A pu G W p ((1 : Int32) <<< (iN g &&& 31)) n (A 28) = v g := fun g => by rw [hv]
  have hcg : ∀ g, hasB (frS (A 28) G p) g = cc g := fun g => by rw [hcc]
  rw [← hcc, ← hv]
  have f0 := c.free (L := L) (pr := pr) (ot := ot) (T := T) frQ.refl hp
  have key := lp_k (fun (kx : Int32 → Int32 → PH → Option (Int32 × PH)) n' k (A' : Nat → Nat → Int32) => fX4_bestServing_L16 35 (iN p) (iN n) (frS (A 28) G p) kx n' (eF (bsF cc v k)) (eV v (bsF cc v k)) (iN k) (encC I A' L pr ot T)) (fun kx A' => kx (eF (bsF cc v G)) (eV v (bsF cc v G)) (encC I A' L pr ot T)) (fun k A' => frQ A A') G
    (fun k A' hk hi => by
      cases hb : cc k with
      | false =>
        have e1 : bsF cc v (k + 1) = bsF cc v k := by
          show (match bsF cc v k with | none => if cc k then some k else none | some f => if cc k && decide (bc (v f) < bc (v k)) then some k else some f) = _
          rw [hb]
          cases bsF cc v k <;> rfl
        refine ⟨A', hi, fun kx n' => ?_⟩
        rw [e1]
        simp (disch := first | omega | assumption | (simp (disch := omega) only [iN_lit, iN_add, iN_mul, iN_pred, iN_pred', iN_lt, iN_le, iN_eq, iN_nat, nlt_t, nlt_f, nle_t, nle_f, neq_t, neq_f, List.length_nil, List.length_cons, or_false, false_or, or_self, not_false_eq_true, not_true_eq_false, ↓reduceIte, if_true, if_false, Bool.false_eq_true, Nat.reduceAdd])) only [fX4_bestServing_L16, ↓bK_11, ↓bK_35, ↓bR_35_0, fX4_bestServing_J75_16, fX4_bestServing_J67_16, ↓hb_of (c_groundSize), ↓hb_of (c_bitCount), ↓hb_some, ↓bd_some, ↓letE_eq, h_z0, h_z1, h_zi0, h_zi1, ↓hb_of (isIn_n ((hcg k).trans hb)), iN_lit, iN_add, iN_mul, iN_pred, iN_pred', iN_lt, iN_le, iN_eq, iN_nat, nlt_t, nlt_f, nle_t, nle_f, neq_t, neq_f, List.length_nil, List.length_cons, or_false, false_or, or_self, not_false_eq_true, not_true_eq_false, ↓reduceIte, if_true, if_false, Bool.false_eq_true, Nat.reduceAdd, hG]
      | true =>
        obtain ⟨A2, g1, g2, -⟩ := c.with_ (L := L) (ot := ot) (T := T) (m := (1 : Int32) <<< (iN k &&& 31)) (n := n) hi hp (by omega)
        rw [hvg] at g1
        simp only [iN_lit] at g1
        refine ⟨A2, g2, fun kx n' => ?_⟩
        cases ho : bsF cc v k with
        | none =>
          have e1 : bsF cc v (k + 1) = some k := by
            show (match bsF cc v k with | none => if cc k then some k else none | some f => if cc k && decide (bc (v f) < bc (v k)) then some k else some f) = _
            rw [hb, ho]; rfl
          rw [e1]
          unfold eF eV
          simp (disch := first | omega | assumption | (simp (disch := omega) only [iN_lit, iN_add, iN_mul, iN_pred, iN_pred', iN_lt, iN_le, iN_eq, iN_nat, nlt_t, nlt_f, nle_t, nle_f, neq_t, neq_f, List.length_nil, List.length_cons, or_false, false_or, or_self, not_false_eq_true, not_true_eq_false, ↓reduceIte, if_true, if_false, Bool.false_eq_true, Nat.reduceAdd])) only [fX4_bestServing_L16, ↓bK_11, ↓bK_35, ↓bR_35_0, fX4_bestServing_J75_16, fX4_bestServing_J67_16, ↓hb_of (c_groundSize), ↓hb_of (c_bitCount), ↓hb_some, ↓bd_some, ↓letE_eq, h_z0, h_z1, h_zi0, h_zi1, ↓hb_of (isIn_y ((hcg k).trans hb)), ↓hb_of g1, iN_lit, iN_add, iN_mul, iN_pred, iN_pred', iN_lt, iN_le, iN_eq, iN_nat, nlt_t, nlt_f, nle_t, nle_f, neq_t, neq_f, List.length_nil, List.length_cons, or_false, false_or, or_self, not_false_eq_true, not_true_eq_false, ↓reduceIte, if_true, if_false, Bool.false_eq_true, Nat.reduceAdd, hG, n2]
        | some f =>
          have hf := bsF_lt k f ho
          by_cases hlt : bc (v f) < bc (v k)
          · have e1 : bsF cc v (k + 1) = some k := by
              show (match bsF cc v k with | none => if cc k then some k else none | some f => if cc k && decide (bc (v f) < bc (v k)) then some k else some f) = _
              rw [hb, ho]; dsimp only; rw [decide_eq_true hlt]; rfl
            have hle : ¬ bc (v k) ≤ bc (v f) := by rw [nle_lt]; exact not_not_intro hlt
            rw [e1]
            unfold eF eV
            simp (disch := first | omega | assumption | (simp (disch := omega) only [iN_lit, iN_add, iN_mul, iN_pred, iN_pred', iN_lt, iN_le, iN_eq, iN_nat, nlt_t, nlt_f, nle_t, nle_f, neq_t, neq_f, List.length_nil, List.length_cons, or_false, false_or, or_self, not_false_eq_true, not_true_eq_false, ↓reduceIte, if_true, if_false, Bool.false_eq_true, Nat.reduceAdd])) only [fX4_bestServing_L16, ↓bK_11, ↓bK_35, ↓bR_35_0, fX4_bestServing_J75_16, fX4_bestServing_J67_16, ↓hb_of (c_groundSize), ↓hb_of (c_bitCount), ↓hb_some, ↓bd_some, ↓letE_eq, h_z0, h_z1, h_zi0, h_zi1, ↓hb_of (isIn_y ((hcg k).trans hb)), ↓hb_of g1, ↓hb_of c_bitCount, iN_lit, iN_add, iN_mul, iN_pred, iN_pred', iN_lt, iN_le, iN_eq, iN_nat, nlt_t, nlt_f, nle_t, nle_f, neq_t, neq_f, List.length_nil, List.length_cons, or_false, false_or, or_self, not_false_eq_true, not_true_eq_false, ↓reduceIte, if_true, if_false, Bool.false_eq_true, Nat.reduceAdd, hG, hle]
          · have e1 : bsF cc v (k + 1) = some f := by
              show (match bsF cc v k with | none => if cc k then some k else none | some f => if cc k && decide (bc (v f) < bc (v k)) then some k else some f) = _
              rw [hb, ho]; dsimp only; rw [decide_eq_false hlt]; rfl
            have hle : bc (v k) ≤ bc (v f) := by rw [nle_lt]; exact hlt
            rw [e1]
            unfold eF eV
            simp (disch := first | omega | assumption | (simp (disch := omega) only [iN_lit, iN_add, iN_mul, iN_pred, iN_pred', iN_lt, iN_le, iN_eq, iN_nat, nlt_t, nlt_f, nle_t, nle_f, neq_t, neq_f, List.length_nil, List.length_cons, or_false, false_or, or_self, not_false_eq_true, not_true_eq_false, ↓reduceIte, if_true, if_false, Bool.false_eq_true, Nat.reduceAdd])) only [fX4_bestServing_L16, ↓bK_11, ↓bK_35, ↓bR_35_0, fX4_bestServing_J75_16, fX4_bestServing_J67_16, ↓hb_of (c_groundSize), ↓hb_of (c_bitCount), ↓hb_some, ↓bd_some, ↓letE_eq, h_z0, h_z1, h_zi0, h_zi1, ↓hb_of (isIn_y ((hcg k).trans hb)), ↓hb_of g1, ↓hb_of c_bitCount, iN_lit, iN_add, iN_mul, iN_pred, iN_pred', iN_lt, iN_le, iN_eq, iN_nat, nlt_t, nlt_f, nle_t, nle_f, neq_t, neq_f, List.length_nil, List.length_cons, or_false, false_or, or_self, not_false_eq_true, not_true_eq_false, ↓reduceIte, if_true, if_false, Bool.false_eq_true, Nat.reduceAdd, hG, hle])
    (fun A' hi kx n' => by simp (disch := first | omega | assumption | (simp (disch := omega) only [iN_lit, iN_add, iN_mul, iN_pred, iN_pred', iN_lt, iN_le, iN_eq, iN_nat, nlt_t, nlt_f, nle_t, nle_f, neq_t, neq_f, List.length_nil, List.length_cons, or_false, false_or, or_self, not_false_eq_true, not_true_eq_false, ↓reduceIte, if_true, if_false, Bool.false_eq_true, Nat.reduceAdd])) only [fX4_bestServing_L16, ↓bK_11, ↓bK_35, ↓bR_35_0, fX4_bestServing_J75_16, fX4_bestServing_J67_16, ↓hb_of (c_groundSize), ↓hb_of (isIn_y _), ↓hb_of (isIn_n _), ↓hb_of (c_isIn_gs _ _), ↓hb_of (c_bitCount), ↓hb_some, ↓bd_some, ↓letE_eq, h_z0, h_z1, h_zi0, h_zi1, iN_lit, iN_add, iN_mul, iN_pred, iN_pred', iN_lt, iN_le, iN_eq, iN_nat, nlt_t, nlt_f, nle_t, nle_f, neq_t, neq_f, List.length_nil, List.length_cons, or_false, false_or, or_self, not_false_eq_true, not_true_eq_false, ↓reduceIte, if_true, if_false, Bool.false_eq_true, Nat.reduceAdd, hG]) G 0 A (by omega) frQ.refl
  obtain ⟨A1, k1, k2⟩ := key
  have k3 := k2 (kxC35 (iN p) (iN n)) FU (by unfold FU; omega)
  have en : ∀ z, kxC35 (iN p) (iN n) (eF (bsF cc v G)) (eV v (bsF cc v G)) (encC I A1 L pr ot T) = z → fX4_bestServing 35 (iN p) (iN n) (encC I A L pr ot T) = z := by
    intro z hz
    unfold fX4_bestServing
    rw [bK_35, hb_of f0]
    exact k3.trans hz
  cases ho : bsF cc v G with
  | none =>
    rw [ho] at en
    exact ⟨I, A1, L, en _ (if_pos (by decide)), frI.refl, k1, rfl, rfl⟩
  | some f =>
    have hf := bsF_lt G f ho
    rw [ho] at en
    have a1 := c_add (I := I) (A := A1) (L := L) (pr := pr) (ot := ot) (T := T) (v := (v f).toInt64) (n := 0) (by decide)
    obtain ⟨A2, g1, g2, -⟩ := c.i.with_ (I := u2 I 9 1 (iN 1)) (L := vp_updL L 0 (v f).toInt64) (ot := ot) (T := T) (m := 0) (n := n) k1 hp (by omega)
    have a2 := c_add (I := I) (A := A2) (L := vp_updL L 0 (v f).toInt64) (pr := pr) (ot := ot) (T := T) (v := (wwS A pu G W p 0 n (A 28)).toInt64) (n := 1) (by decide)
    refine ⟨u2 I 9 1 (iN 2), A2, vp_updL (vp_updL L 0 (v f).toInt64) 1 (wwS A pu G W p 0 n (A 28)).toInt64, en _ ?_, frI.u, g2, by simp, ?_⟩
    · have hlt : (iN f < iN 0) = False := by rw [iN_lt (by omega) (by omega)]; exact eq_false (by omega)
      unfold eF eV kxC35
      dsimp only
      simp only [iN_lit] at g1 a2 ⊢
      simp (disch := first | omega | assumption | (simp (disch := omega) only [iN_lit, iN_add, iN_mul, iN_pred, iN_pred', iN_lt, iN_le, iN_eq, iN_nat, nlt_t, nlt_f, nle_t, nle_f, neq_t, neq_f, List.length_nil, List.length_cons, or_false, false_or, or_self, not_false_eq_true, not_true_eq_false, ↓reduceIte, if_true, if_false, Bool.false_eq_true, Nat.reduceAdd])) only [fX4_bestServing, ↓bK_35, ↓bK_9, ↓bR_35_3, ↓hb_of (c_start), ↓hb_some, ↓bd_some, ↓letE_eq, h_z0, h_z1, h_zi0, h_zi1, ↓hb_of c_start, ↓hb_of a1, ↓hb_of g1, ↓hb_of a2, iN_lit, iN_add, iN_mul, iN_pred, iN_pred', iN_lt, iN_le, iN_eq, iN_nat, nlt_t, nlt_f, nle_t, nle_f, neq_t, neq_f, List.length_nil, List.length_cons, or_false, false_or, or_self, not_false_eq_true, not_true_eq_false, ↓reduceIte, if_true, if_false, Bool.false_eq_true, Nat.reduceAdd, hlt]
    · dsimp only
      rw [hvg]
      exact row_2 rfl
theorem serv_M (mk : MKK A (u1 J 13 (iN 0)) B G P W ru pu) (hp : p < P) (hn : n ≤ 60) :
    qM J B M rdv ru (fX12_serves 45 (iN p) (iN n)) (eF (bsF (fun g => hasB (frS (A 28) G p) g) (fun g => wwS A pu G W p ((1 : Int32) <<< (iN g &&& 31)) n (A 28)) G)) ((bsF (fun g => hasB (frS (A 28) G p) g) (fun g => wwS A pu G W p ((1 : Int32) <<< (iN g &&& 31)) n (A 28)) G).map (fun f => [(wwS A pu G W p ((1 : Int32) <<< (iN f &&& 31)) n (A 28)).toInt64, (wwS A pu G W p 0 n (A 28)).toInt64])) := by
  intro I E L pr ot T
  have h8 := mk.1.2.2.2.1
  obtain ⟨cc, hcc⟩ : ∃ cc, cc = (fun g => hasB (frS (A 28) G p) g) := ⟨_, rfl⟩
  obtain ⟨v, hv⟩ : ∃ v, v = (fun g => wwS A pu G W p ((1 : Int32) <<< (iN g &&& 31)) n (A 28)) := ⟨_, rfl⟩
  have hvg : ∀ g, wwS A pu G W p ((1 : Int32) <<< (iN g &&& 31)) n (A 28) = v g := fun g => by rw [hv]
  have hcg : ∀ g, hasB (frS (A 28) G p) g = cc g := fun g => by rw [hcc]
  rw [← hcc, ← hv]
  have key := lp_k (fun (kx : Int32 → Int32 → PH → Option (Int32 × PH)) n' k (q : (Nat → Int32) × (Nat → Nat → Int32) × Value) => fX12_serves_L34 45 (iN p) (iN n) kx n' (eF (bsF cc v k)) (eV v (bsF cc v k)) (iN k) (encC I E L pr ot (encR (q.1) (q.2.1) M (q.2.2) ru T))) (fun kx q => kx (eF (bsF cc v G)) (eV v (bsF cc v G)) (encC I E L pr ot (encR (q.1) (q.2.1) M (q.2.2) ru T))) (fun k q => frJ (u1 J 13 (iN 0)) q.1 ∧ frRB B q.2.1) G
    (fun k q hk hi => by
      obtain ⟨J1, B1, rdv1⟩ := q
      obtain ⟨i1, i2⟩ := hi
      dsimp only at i1 i2
      have hG : J1 1 = iN G := (i1.rj 1 (by omega)).trans mk.1.1
      have f0 := mk.free (I := I) (E := E) (L := L) (pr := pr) (ot := ot) (M := M) (rdv' := rdv1) (T := T) i1.rj i2 hp
      cases hb : cc k with
      | false =>
        have e1 : bsF cc v (k + 1) = bsF cc v k := by
          show (match bsF cc v k with | none => if cc k then some k else none | some f => if cc k && decide (bc (v f) < bc (v k)) then some k else some f) = _
          rw [hb]
          cases bsF cc v k <;> rfl
        refine ⟨(J1, B1, rdv1), ⟨i1, i2⟩, fun kx n' => ?_⟩
        rw [e1]
        dsimp only
        simp (disch := first | omega | assumption | (simp (disch := omega) only [iN_lit, iN_add, iN_mul, iN_pred, iN_pred', iN_lt, iN_le, iN_eq, iN_nat, nlt_t, nlt_f, nle_t, nle_f, neq_t, neq_f, List.length_nil, List.length_cons, or_false, false_or, or_self, not_false_eq_true, not_true_eq_false, ↓reduceIte, if_true, if_false, Bool.false_eq_true, Nat.reduceAdd])) only [fX12_serves_L34, ↓brK, ↓brG_1, fX12_serves_J100_34, fX12_serves_J93_34, ↓hb_of (c_bitCount), ↓hb_some, ↓bd_some, ↓letE_eq, h_z0, h_z1, h_zi0, h_zi1, ↓hb_of f0, ↓hb_of (has_n ((hcg k).trans hb)), iN_lit, iN_add, iN_mul, iN_pred, iN_pred', iN_lt, iN_le, iN_eq, iN_nat, nlt_t, nlt_f, nle_t, nle_f, neq_t, neq_f, List.length_nil, List.length_cons, or_false, false_or, or_self, not_false_eq_true, not_true_eq_false, ↓reduceIte, if_true, if_false, Bool.false_eq_true, Nat.reduceAdd, hG]
      | true =>
        obtain ⟨J2, B2, rdv2, g1, g2, g3⟩ := mk.with_ (I := I) (E := E) (L := L) (pr := pr) (ot := ot) (M := M) (rdv' := rdv1) (T := T) (m := (1 : Int32) <<< (iN k &&& 31)) (n := n) i1 i2 hp (by omega)
        rw [hvg] at g1
        simp only [iN_lit] at g1
        refine ⟨(J2, B2, rdv2), ⟨g2, g3⟩, fun kx n' => ?_⟩
        dsimp only
        cases ho : bsF cc v k with
        | none =>
          have e1 : bsF cc v (k + 1) = some k := by
            show (match bsF cc v k with | none => if cc k then some k else none | some f => if cc k && decide (bc (v f) < bc (v k)) then some k else some f) = _
            rw [hb, ho]; rfl
          rw [e1]
          unfold eF eV
          simp (disch := first | omega | assumption | (simp (disch := omega) only [iN_lit, iN_add, iN_mul, iN_pred, iN_pred', iN_lt, iN_le, iN_eq, iN_nat, nlt_t, nlt_f, nle_t, nle_f, neq_t, neq_f, List.length_nil, List.length_cons, or_false, false_or, or_self, not_false_eq_true, not_true_eq_false, ↓reduceIte, if_true, if_false, Bool.false_eq_true, Nat.reduceAdd])) only [fX12_serves_L34, ↓brK, ↓brG_1, fX12_serves_J100_34, fX12_serves_J93_34, ↓hb_of (c_bitCount), ↓hb_some, ↓bd_some, ↓letE_eq, h_z0, h_z1, h_zi0, h_zi1, ↓hb_of f0, ↓hb_of (has_y ((hcg k).trans hb)), ↓hb_of g1, iN_lit, iN_add, iN_mul, iN_pred, iN_pred', iN_lt, iN_le, iN_eq, iN_nat, nlt_t, nlt_f, nle_t, nle_f, neq_t, neq_f, List.length_nil, List.length_cons, or_false, false_or, or_self, not_false_eq_true, not_true_eq_false, ↓reduceIte, if_true, if_false, Bool.false_eq_true, Nat.reduceAdd, hG]
        | some f =>
          have hf := bsF_lt k f ho
          have hne : (iN f = -iN 2) = False := ne_m (by omega) (by decide) (by decide)
          by_cases hlt : bc (v f) < bc (v k)
          · have e1 : bsF cc v (k + 1) = some k := by
              show (match bsF cc v k with | none => if cc k then some k else none | some f => if cc k && decide (bc (v f) < bc (v k)) then some k else some f) = _
              rw [hb, ho]; dsimp only; rw [decide_eq_true hlt]; rfl
            rw [e1]
            unfold eF eV
            simp (disch := first | omega | assumption | (simp (disch := omega) only [iN_lit, iN_add, iN_mul, iN_pred, iN_pred', iN_lt, iN_le, iN_eq, iN_nat, nlt_t, nlt_f, nle_t, nle_f, neq_t, neq_f, List.length_nil, List.length_cons, or_false, false_or, or_self, not_false_eq_true, not_true_eq_false, ↓reduceIte, if_true, if_false, Bool.false_eq_true, Nat.reduceAdd])) only [fX12_serves_L34, ↓brK, ↓brG_1, fX12_serves_J100_34, fX12_serves_J93_34, ↓hb_of (c_bitCount), ↓hb_some, ↓bd_some, ↓letE_eq, h_z0, h_z1, h_zi0, h_zi1, ↓hb_of f0, ↓hb_of (has_y ((hcg k).trans hb)), ↓hb_of g1, ↓hb_of c_bitCount, iN_lit, iN_add, iN_mul, iN_pred, iN_pred', iN_lt, iN_le, iN_eq, iN_nat, nlt_t, nlt_f, nle_t, nle_f, neq_t, neq_f, List.length_nil, List.length_cons, or_false, false_or, or_self, not_false_eq_true, not_true_eq_false, ↓reduceIte, if_true, if_false, Bool.false_eq_true, Nat.reduceAdd, hG, hne, hlt]
          · have e1 : bsF cc v (k + 1) = some f := by
              show (match bsF cc v k with | none => if cc k then some k else none | some f => if cc k && decide (bc (v f) < bc (v k)) then some k else some f) = _
              rw [hb, ho]; dsimp only; rw [decide_eq_false hlt]; rfl
            rw [e1]
            unfold eF eV
            simp (disch := first | omega | assumption | (simp (disch := omega) only [iN_lit, iN_add, iN_mul, iN_pred, iN_pred', iN_lt, iN_le, iN_eq, iN_nat, nlt_t, nlt_f, nle_t, nle_f, neq_t, neq_f, List.length_nil, List.length_cons, or_false, false_or, or_self, not_false_eq_true, not_true_eq_false, ↓reduceIte, if_true, if_false, Bool.false_eq_true, Nat.reduceAdd])) only [fX12_serves_L34, ↓brK, ↓brG_1, fX12_serves_J100_34, fX12_serves_J93_34, ↓hb_of (c_bitCount), ↓hb_some, ↓bd_some, ↓letE_eq, h_z0, h_z1, h_zi0, h_zi1, ↓hb_of f0, ↓hb_of (has_y ((hcg k).trans hb)), ↓hb_of g1, ↓hb_of c_bitCount, iN_lit, iN_add, iN_mul, iN_pred, iN_pred', iN_lt, iN_le, iN_eq, iN_nat, nlt_t, nlt_f, nle_t, nle_f, neq_t, neq_f, List.length_nil, List.length_cons, or_false, false_or, or_self, not_false_eq_true, not_true_eq_false, ↓reduceIte, if_true, if_false, Bool.false_eq_true, Nat.reduceAdd, hG, hne, hlt])
    (fun q hi kx n' => by
      obtain ⟨J1, B1, rdv1⟩ := q
      have hG : J1 1 = iN G := (hi.1.rj 1 (by omega)).trans mk.1.1
      dsimp only
      simp (disch := first | omega | assumption | (simp (disch := omega) only [iN_lit, iN_add, iN_mul, iN_pred, iN_pred', iN_lt, iN_le, iN_eq, iN_nat, nlt_t, nlt_f, nle_t, nle_f, neq_t, neq_f, List.length_nil, List.length_cons, or_false, false_or, or_self, not_false_eq_true, not_true_eq_false, ↓reduceIte, if_true, if_false, Bool.false_eq_true, Nat.reduceAdd])) only [fX12_serves_L34, ↓brK, ↓brG_1, fX12_serves_J100_34, fX12_serves_J93_34, ↓hb_of (has_y _), ↓hb_of (has_n _), ↓hb_of (c_bitCount), ↓hb_some, ↓bd_some, ↓letE_eq, h_z0, h_z1, h_zi0, h_zi1, iN_lit, iN_add, iN_mul, iN_pred, iN_pred', iN_lt, iN_le, iN_eq, iN_nat, nlt_t, nlt_f, nle_t, nle_f, neq_t, neq_f, List.length_nil, List.length_cons, or_false, false_or, or_self, not_false_eq_true, not_true_eq_false, ↓reduceIte, if_true, if_false, Bool.false_eq_true, Nat.reduceAdd, hG]) G 0 (u1 J 13 (iN 0), B, rdv) (by omega) ⟨frJ.refl, frRB.refl⟩
  obtain ⟨⟨J1, B1, rdv1⟩, ⟨k0, k1⟩, k2⟩ := key
  dsimp only at k0 k1 k2
  have k3 := k2 (kxM34 (iN p) (iN n)) FU (by unfold FU; omega)
  have en : ∀ z, kxM34 (iN p) (iN n) (eF (bsF cc v G)) (eV v (bsF cc v G)) (encC I E L pr ot (encR J1 B1 M rdv1 ru T)) = z → fX12_serves 45 (iN p) (iN n) (encC I E L pr ot (encR J B M rdv ru T)) = z := by
    intro z hz
    unfold fX12_serves
    rw [brW_13, brK, hb_of (show fX12_isMan 45 (iN p) (encC I E L pr ot (encR (u1 J 13 0) B M rdv ru T)) = some (1, (encC I E L pr ot (encR (u1 J 13 0) B M rdv ru T))) from r_isMan mk.1 hp), if_1z, hb_of (show fX12_in (iN n) (0 : Int32) (60 : Int32) (encC I E L pr ot (encR (u1 J 13 0) B M rdv ru T)) = some (1, (encC I E L pr ot (encR (u1 J 13 0) B M rdv ru T))) from in_y (Nat.zero_le n) hn (by decide)), if_1z]
    exact k3.trans hz
  cases ho : bsF cc v G with
  | none =>
    rw [ho] at en
    exact ⟨J1, B1, M, rdv1, en _ (if_pos rfl), (frRJ.u (by decide)).trans k0.rj, k1, k0 12 (by decide) (by decide) (by decide) (by decide) (by decide), rfl⟩
  | some f =>
    have hf := bsF_lt G f ho
    rw [ho] at en
    have a1 := r_tell (I := I) (E := E) (L := L) (pr := pr) (ot := ot) (J := u1 J1 12 (iN 0)) (B := B1) (M := M) (rdv := rdv1) (ru := ru) (T := T) (v := (v f).toInt64) (n := 0) (by rw [u1_eq, if_pos rfl]) (by decide)
    rw [u1_u1] at a1
    have mk2 : MKK A (u1 J1 12 (iN 1)) B1 G P W ru pu := mk.fr (k0.rj.trans (frRJ.u (by decide))) k1
    obtain ⟨J2, B2, rdv2, g1, g2, g3⟩ := mk2.with_ (I := I) (E := E) (L := L) (pr := pr) (ot := ot) (M := vp_updL M 0 (v f).toInt64) (rdv' := rdv1) (T := T) (m := 0) (n := n) frJ.refl frRB.refl hp (by omega)
    have a2 := r_tell (I := I) (E := E) (L := L) (pr := pr) (ot := ot) (J := J2) (B := B2) (M := vp_updL M 0 (v f).toInt64) (rdv := rdv2) (ru := ru) (T := T) (v := (wwS A pu G W p 0 n (A 28)).toInt64) (n := 1) (by rw [g2 12 (by decide) (by decide) (by decide) (by decide) (by decide), u1_eq, if_pos rfl]) (by decide)
    refine ⟨u1 J2 12 (iN 2), B2, vp_updL (vp_updL M 0 (v f).toInt64) 1 (wwS A pu G W p 0 n (A 28)).toInt64, rdv2, en _ ?_, (((frRJ.u (by decide)).trans k0.rj).trans (frRJ.u (by decide))).trans (g2.rj.trans (frRJ.u (by decide))), k1.trans g3, by simp, ?_⟩
    · have hne : (iN f = -iN 2) = False := ne_m (by omega) (by decide) (by decide)
      unfold eF eV kxM34
      dsimp only
      simp only [iN_lit] at g1 a1 a2 ⊢
      simp (disch := first | omega | assumption | (simp (disch := omega) only [iN_lit, iN_add, iN_mul, iN_pred, iN_pred', iN_lt, iN_le, iN_eq, iN_nat, nlt_t, nlt_f, nle_t, nle_f, neq_t, neq_f, List.length_nil, List.length_cons, or_false, false_or, or_self, not_false_eq_true, not_true_eq_false, ↓reduceIte, if_true, if_false, Bool.false_eq_true, Nat.reduceAdd])) only [fX12_serves, ↓brK, ↓brW_13, ↓brW_12, ↓hb_of (isM_n _ _), ↓hb_of (r_isMan _ _), ↓hb_of (in_y _ _ _), ↓hb_of (in_n _), ↓hb_some, ↓bd_some, ↓letE_eq, h_z0, h_z1, h_zi0, h_zi1, ↓hb_of a1, ↓hb_of g1, ↓hb_of a2, iN_lit, iN_add, iN_mul, iN_pred, iN_pred', iN_lt, iN_le, iN_eq, iN_nat, nlt_t, nlt_f, nle_t, nle_f, neq_t, neq_f, List.length_nil, List.length_cons, or_false, false_or, or_self, not_false_eq_true, not_true_eq_false, ↓reduceIte, if_true, if_false, Bool.false_eq_true, Nat.reduceAdd, hne]
    · dsimp only
      rw [hvg, u1_eq, if_pos rfl]
      exact row_2 rfl
theorem p_serves (h : INV s I A L pr ot J B M ru G P W) (x y : Int32) : pairG s I A L pr ot J B M rdv ru out (fX11_serves 0 x y) (fX12_serves 45 x y) := by
  have hI := h
  obtain ⟨pu, ck, -, mk⟩ := h.km
  obtain ⟨hF, hM, hpl, hz, hc, hn2, -⟩ := h
  have h6 := hM.2.2.2.2.1
  have hMb : FM A (u1 J 13 (iN 0)) B G P W := mk.1
  rcases arg_lt P (by omega) x with ⟨p, hp, rfl⟩ | hx
  · rcases arg_le 60 (by decide) y with ⟨n, hn, rfl⟩ | hy
    · refine pairG_q hI (fun T => ?_) (serv_M mk hp hn)
      obtain ⟨I1, A1, L1, e1, e2⟩ := serv_C (L := L) (ot := ot) (T := T) ck hp hn
      refine ⟨I1, A1, L1, ?_, e2⟩
      unfold fX11_serves
      rw [bR_0_7, bK_11, hb_of (hasP_y hF hp), if_1z, hb_of (show fX11_within (iN n) (0 : Int32) (60 : Int32) (encC I A L pr ot T) = some (1, (encC I A L pr ot T)) from within_y (Nat.zero_le n) hn (by decide)), if_1z, bR_0_10, bK_35, hb_of e1]
    · refine pairG_q (ans := -1) hI (fun T => qC_no ?_) (qM_no (fun I E L pr ot T => ?_))
      · simp (disch := first | omega | assumption | (simp (disch := omega) only [iN_lit, iN_add, iN_mul, iN_pred, iN_pred', iN_lt, iN_le, iN_eq, iN_nat, nlt_t, nlt_f, nle_t, nle_f, neq_t, neq_f, List.length_nil, List.length_cons, or_false, false_or, or_self, not_false_eq_true, not_true_eq_false, ↓reduceIte, if_true, if_false, Bool.false_eq_true, Nat.reduceAdd])) only [fX11_serves, ↓bK_11, ↓bK_35, ↓bR_0_7, ↓bR_0_10, ↓hb_of (hasP_y _ _), ↓hb_of (hasP_n _ _), ↓hb_of (within_y _ _ _), ↓hb_of (within_n _), ↓hb_some, ↓bd_some, ↓letE_eq, h_z0, h_z1, h_zi0, h_zi1, ↓hb_of (hasP_y hF hp), iN_lit, iN_add, iN_mul, iN_pred, iN_pred', iN_lt, iN_le, iN_eq, iN_nat, nlt_t, nlt_f, nle_t, nle_f, neq_t, neq_f, List.length_nil, List.length_cons, or_false, false_or, or_self, not_false_eq_true, not_true_eq_false, ↓reduceIte, if_true, if_false, Bool.false_eq_true, Nat.reduceAdd]
      · unfold fX12_serves
        simp only [iN_lit]
        rw [brW_13, brK, hb_of (r_isMan hMb hp), if_10, hb_of (in_n (show ¬ (iN 0 ≤ y ∧ y ≤ iN 60) from hy)), if_00]
  · refine pairG_q (ans := -1) hI (fun T => qC_no ?_) (qM_no (fun I E L pr ot T => ?_))
    · simp (disch := first | omega | assumption | (simp (disch := omega) only [iN_lit, iN_add, iN_mul, iN_pred, iN_pred', iN_lt, iN_le, iN_eq, iN_nat, nlt_t, nlt_f, nle_t, nle_f, neq_t, neq_f, List.length_nil, List.length_cons, or_false, false_or, or_self, not_false_eq_true, not_true_eq_false, ↓reduceIte, if_true, if_false, Bool.false_eq_true, Nat.reduceAdd])) only [fX11_serves, ↓bK_11, ↓bK_35, ↓bR_0_7, ↓bR_0_10, ↓hb_of (hasP_y _ _), ↓hb_of (hasP_n _ _), ↓hb_of (within_y _ _ _), ↓hb_of (within_n _), ↓hb_some, ↓bd_some, ↓letE_eq, h_z0, h_z1, h_zi0, h_zi1, ↓hb_of (hasP_n hF hx), iN_lit, iN_add, iN_mul, iN_pred, iN_pred', iN_lt, iN_le, iN_eq, iN_nat, nlt_t, nlt_f, nle_t, nle_f, neq_t, neq_f, List.length_nil, List.length_cons, or_false, false_or, or_self, not_false_eq_true, not_true_eq_false, ↓reduceIte, if_true, if_false, Bool.false_eq_true, Nat.reduceAdd]
    · unfold fX12_serves
      simp only [iN_lit]
      rw [brW_13, brK, hb_of (isM_n hMb hx), if_00]
end SV
