/-! CALLS: lacks, richest -/
theorem dm32 {x y z : Int32} : (x &&& (y ^^^ (-1 : Int32))) &&& (z ^^^ (-1 : Int32)) = x &&& ((y ||| z) ^^^ (-1 : Int32)) := by
  apply Int32.toBitVec_inj.mp
  simp only [Int32.toBitVec_and, Int32.toBitVec_xor, Int32.toBitVec_or]
  have e : (-1 : Int32).toBitVec = BitVec.allOnes 32 := by decide
  rw [e]
  apply BitVec.eq_of_getLsbD_eq
  intro i hi
  simp only [BitVec.getLsbD_and, BitVec.getLsbD_xor, BitVec.getLsbD_or, BitVec.getLsbD_allOnes, hi, decide_true]
  cases x.toBitVec.getLsbD i <;> cases y.toBitVec.getLsbD i <;> cases z.toBitVec.getLsbD i <;> rfl
theorem dm0 {x : Int32} : x &&& ((0 : Int32) ^^^ (-1 : Int32)) = x := by
  apply Int32.toBitVec_inj.mp
  simp only [Int32.toBitVec_and, Int32.toBitVec_xor]
  have e : (-1 : Int32).toBitVec = BitVec.allOnes 32 := by decide
  have e0 : (0 : Int32).toBitVec = 0#32 := by decide
  rw [e, e0]
  apply BitVec.eq_of_getLsbD_eq
  intro i hi
  simp only [BitVec.getLsbD_and, BitVec.getLsbD_xor, BitVec.getLsbD_allOnes, hi, decide_true, BitVec.getLsbD_zero]
  cases x.toBitVec.getLsbD i <;> rfl
theorem of_lt : ∀ v m : Fin 10, (if 0 < iN v.val - iN m.val + 1 then iN v.val - iN m.val + 1 else 0) = (if v.val < m.val then 0 else (if 0 ≤ iN v.val - iN m.val then iN v.val - iN m.val else 0 - (iN v.val - iN m.val)) + 1) := by decide +kernel
theorem of_gt : ∀ v m : Fin 10, (if 0 < 1 - (iN v.val - iN m.val) then 1 - (iN v.val - iN m.val) else 0) = (if m.val < v.val then 0 else (if 0 ≤ iN v.val - iN m.val then iN v.val - iN m.val else 0 - (iN v.val - iN m.val)) + 1) := by decide +kernel
/-- by how much a TERM is off one -/
def ofT (A : Nat → Nat → Int32) (Z : Nat → Int32) (p w t : Nat) : Int32 := ofB A w t (Z (8 + p * 4 + (A 16 (w * 3 + t)).toNatClampNeg))
theorem bc_wa {A : Nat → Nat → Int32} {Z : Nat → Int32} {W p : Nat} (h7 : W ≤ 6) : 0 ≤ bc (waS A Z W p) := by
  unfold waS
  rw [← bt_ext 8 (by omega)]
  exact bc_bt _
def riN (f : Nat → Int32) : Nat → Nat
  | 0 => 0
  | k + 1 => if bc (f k) ≤ bc (f (riN f k)) then riN f k else k
def hA (f : Nat → Int32) : Nat → Int32
  | 0 => 0
  | k + 1 => hA f k ||| f k
def hU (a : Int32) (f : Nat → Int32) : Nat → Int32
  | 0 => a
  | k + 1 => hU a f k &&& (f k ^^^ (-1 : Int32))
theorem hU_eq {a : Int32} {f : Nat → Int32} : ∀ k, hU a f k = a &&& (hA f k ^^^ (-1 : Int32))
  | 0 => dm0.symm
  | k + 1 => by
    show hU a f k &&& _ = a &&& ((hA f k ||| f k) ^^^ _)
    rw [hU_eq k, dm32]
theorem riN_lt {f : Nat → Int32} : ∀ k, 0 < k → riN f k < k
  | 0, h => absurd h (Nat.not_lt_zero _)
  | k + 1, _ => by
    unfold riN
    split
    · by_cases e : k = 0
      · subst e; exact Nat.one_pos
      · have := riN_lt (f := f) k (by omega); omega
    · omega
section LB
variable {I A E I' A' : Nat → Nat → Int32} {L L' : Nat → Int64} {pr ot s : Nat} {J J' : Nat → Int32} {B B' : Nat → Nat → Int32} {M M' : Nat → Int64} {rdv : Value} {ru : Nat} {T : PH} {G P W p q g n nr sz ro oa w t : Nat} {Z Z' R X : Nat → Int32} {x y z i2 : Int32} {out : Nat → Int64} {pu : (Nat → Int32) → Int32}
theorem p_lacks (h : INV s I A L pr ot J B M ru G P W) (x y : Int32) : pairG s I A L pr ot J B M rdv ru out (fX11_lacks 0 x y) (fX12_lacks 45 x y) := by
  have hI := h
  obtain ⟨pu, ck, -, mk⟩ := h.km
  obtain ⟨hF, hM, hpl, hz, hc, hn2, -⟩ := h
  have hT := hM.TS
  have h8 := hM.2.2.2.1
  have h6 := hM.2.2.2.2.1
  have h7 := hM.2.2.2.2.2.1
  have hW := hF.2.2.1
  have hMb : FM A (u1 J 13 (iN 0)) B G P W := mk.1
  rcases arg_lt P (by omega) x with ⟨p, hp, rfl⟩ | hx
  · rcases arg_lt W (by omega) y with ⟨w, hw, rfl⟩ | hy
    · obtain ⟨n0, hn3, hnA, hnB, hterm⟩ := hM.2.2.2.2.2.2.2.2.2 w hw
      refine pairG_q (ans := bt (fun t => !tmB A (A 28) p w t) n0) (rw := some [(sm (ofT A (A 28) p w) n0).toInt64]) hI (fun T => ?_) (fun I E L pr ot T => ?_)
      · have key := lp_det (fun n k (q : Int32 × Int32) => fX11_lacks_L32 0 (iN p) (iN w) (fun x7 x8 h9 => (h_gr 10 6 h9 0).bind fun q10 => (h_ck 2 h9 q10).bind fun _ => h_bd (fX3_start q10 h9) fun _ h11 => (h_gr 10 6 h11 0).bind fun q12 => (h_ck 2 h11 q12).bind fun _ => h_bd (fX3_add q12 (x8.toInt64) h11) fun _ h13 => some (x7, h13)) n q.1 q.2 (iN k) (encC I A L pr ot T)) (fun q => some (q.1, (encC (u2 I 9 1 (iN 1)) A (vp_updL L 0 q.2.toInt64) pr ot T))) (fun k => (bt (fun t => !tmB A (A 28) p w t) k, sm (ofT A (A 28) p w) k)) n0
          (fun k hk n => by
            obtain ⟨kh, m, hkh, hm, e1, -⟩ := hterm k hk
            have f0 := c_termsOf (A := A) (L := L) (pr := pr) (ot := ot) (T := T) (w := w) (I := I) hW h7 hw
            have f1 := c_humourOfTerm (I := I) (A := A) (L := L) (pr := pr) (ot := ot) (T := T) (t := k) hW h7 hw (by omega)
            have f2 := c_humourOf (I := I) (A := A) (L := L) (pr := pr) (ot := ot) (T := T) (o := 27) (p := p) (Or.inl rfl) (by omega) hkh
            have f3 := c_offBy (I := I) (A := A) (L := L) (pr := pr) (ot := ot) (T := T) (t := k) (v := A 28 (8 + p * 4 + kh)) hW h7 hw (by omega)
            rw [e1] at f1
            rw [hnA] at f0
            have e2 : ofT A (A 28) p w k = ofB A w k (A 28 (8 + p * 4 + kh)) := by unfold ofT; rw [e1, iN_nat (by omega)]
            have e3 : tmB A (A 28) p w k = decide (ofB A w k (A 28 (8 + p * 4 + kh)) ≤ 0) := by unfold tmB; rw [e1, iN_nat (by omega)]
            have e4 : bt (fun t => !tmB A (A 28) p w t) (k + 1) = bt (fun t => !tmB A (A 28) p w t) k ||| (if (!tmB A (A 28) p w k) = true then (1 : Int32) <<< (iN k &&& 31) else 0) := rfl
            have e5 : sm (ofT A (A 28) p w) (k + 1) = sm (ofT A (A 28) p w) k + ofT A (A 28) p w k := rfl
            dsimp only
            rw [e4, e5, e2, e3]
            by_cases hcc : ofB A w k (A 28 (8 + p * 4 + kh)) ≤ 0
            · have hcc' : ofB A w k (A 28 (8 + p * 4 + kh)) ≤ iN 0 := hcc
              rw [decide_eq_true hcc]
              simp (disch := first | omega | assumption | (simp (disch := omega) only [iN_lit, iN_add, iN_mul, iN_pred, iN_pred', iN_lt, iN_le, iN_eq, iN_nat, nlt_t, nlt_f, nle_t, nle_f, neq_t, neq_f, List.length_nil, List.length_cons, or_false, false_or, or_self, not_false_eq_true, not_true_eq_false, ↓reduceIte, if_true, if_false, Bool.false_eq_true, Nat.reduceAdd])) only [fX11_lacks_L32, ↓bK_11, ↓zK _, ↓bR_0_7, ↓bR_0_8, fX11_lacks_J89_32, ↓hb_some, ↓bd_some, ↓letE_eq, h_z0, h_z1, h_zi0, h_zi1, ↓hb_of f0, ↓hb_of f1, ↓hb_of f2, ↓hb_of f3, iN_lit, iN_add, iN_mul, iN_pred, iN_pred', iN_lt, iN_le, iN_eq, iN_nat, nlt_t, nlt_f, nle_t, nle_f, neq_t, neq_f, List.length_nil, List.length_cons, or_false, false_or, or_self, not_false_eq_true, not_true_eq_false, ↓reduceIte, if_true, if_false, Bool.false_eq_true, Nat.reduceAdd, hcc', Bool.not_true]
            · have hcc' : ¬ ofB A w k (A 28 (8 + p * 4 + kh)) ≤ iN 0 := hcc
              rw [decide_eq_false hcc]
              simp (disch := first | omega | assumption | (simp (disch := omega) only [iN_lit, iN_add, iN_mul, iN_pred, iN_pred', iN_lt, iN_le, iN_eq, iN_nat, nlt_t, nlt_f, nle_t, nle_f, neq_t, neq_f, List.length_nil, List.length_cons, or_false, false_or, or_self, not_false_eq_true, not_true_eq_false, ↓reduceIte, if_true, if_false, Bool.false_eq_true, Nat.reduceAdd])) only [fX11_lacks_L32, ↓bK_11, ↓zK _, ↓bR_0_7, ↓bR_0_8, fX11_lacks_J89_32, ↓hb_some, ↓bd_some, ↓letE_eq, h_z0, h_z1, h_zi0, h_zi1, ↓hb_of f0, ↓hb_of f1, ↓hb_of f2, ↓hb_of f3, iN_lit, iN_add, iN_mul, iN_pred, iN_pred', iN_lt, iN_le, iN_eq, iN_nat, nlt_t, nlt_f, nle_t, nle_f, neq_t, neq_f, List.length_nil, List.length_cons, or_false, false_or, or_self, not_false_eq_true, not_true_eq_false, ↓reduceIte, if_true, if_false, Bool.false_eq_true, Nat.reduceAdd, hcc', Bool.not_false])
          (fun n => by
            have f0 := c_termsOf (A := A) (L := L) (pr := pr) (ot := ot) (T := T) (w := w) (I := I) hW h7 hw
            rw [hnA] at f0
            have f3 := c_add (I := I) (A := A) (L := L) (pr := pr) (ot := ot) (T := T) (v := (sm (ofT A (A 28) p w) n0).toInt64) (n := 0) (by decide)
            dsimp only
            simp (disch := first | omega | assumption | (simp (disch := omega) only [iN_lit, iN_add, iN_mul, iN_pred, iN_pred', iN_lt, iN_le, iN_eq, iN_nat, nlt_t, nlt_f, nle_t, nle_f, neq_t, neq_f, List.length_nil, List.length_cons, or_false, false_or, or_self, not_false_eq_true, not_true_eq_false, ↓reduceIte, if_true, if_false, Bool.false_eq_true, Nat.reduceAdd])) only [fX11_lacks_L32, ↓bK_11, ↓zK _, ↓bR_0_7, ↓bR_0_8, fX11_lacks_J89_32, fX11_lacks, ↓bK_9, ↓bR_0_6, ↓hb_of (c_humourOfTerm _ _ _ _), ↓hb_of (c_humourOf _ _ _), ↓hb_of (c_offBy _ _ _ _), ↓hb_of (hasP_y _ _), ↓hb_of (hasP_n _ _), ↓hb_of (hasW_y _ _), ↓hb_of (hasW_n _ _), ↓hb_of (c_start), ↓hb_some, ↓bd_some, ↓letE_eq, h_z0, h_z1, h_zi0, h_zi1, ↓hb_of f0, ↓hb_of c_start, ↓hb_of f3, iN_lit, iN_add, iN_mul, iN_pred, iN_pred', iN_lt, iN_le, iN_eq, iN_nat, nlt_t, nlt_f, nle_t, nle_f, neq_t, neq_f, List.length_nil, List.length_cons, or_false, false_or, or_self, not_false_eq_true, not_true_eq_false, ↓reduceIte, if_true, if_false, Bool.false_eq_true, Nat.reduceAdd]) FU (by unfold FU; omega)
        dsimp only at key
        refine ⟨u2 I 9 1 (iN 1), A, vp_updL L 0 (sm (ofT A (A 28) p w) n0).toInt64, ?_, frI.u, frQ.refl, by simp, row_1 rfl⟩
        refine Eq.trans ?_ key
        unfold fX11_lacks
        simp only [iN_lit]
        simp (disch := first | omega | assumption | (simp (disch := omega) only [iN_lit, iN_add, iN_mul, iN_pred, iN_pred', iN_lt, iN_le, iN_eq, iN_nat, nlt_t, nlt_f, nle_t, nle_f, neq_t, neq_f, List.length_nil, List.length_cons, or_false, false_or, or_self, not_false_eq_true, not_true_eq_false, ↓reduceIte, if_true, if_false, Bool.false_eq_true, Nat.reduceAdd])) only [fX11_lacks, ↓bK_11, ↓bK_9, ↓bR_0_7, ↓bR_0_6, ↓hb_of (hasP_y _ _), ↓hb_of (hasP_n _ _), ↓hb_of (hasW_y _ _), ↓hb_of (hasW_n _ _), ↓hb_of (c_start), ↓hb_of (c_add _), ↓hb_some, ↓bd_some, ↓letE_eq, h_z0, h_z1, h_zi0, h_zi1, ↓hb_of (hasP_y hF hp), ↓hb_of (hasW_y hF hw), iN_lit, iN_add, iN_mul, iN_pred, iN_pred', iN_lt, iN_le, iN_eq, iN_nat, nlt_t, nlt_f, nle_t, nle_f, neq_t, neq_f, List.length_nil, List.length_cons, or_false, false_or, or_self, not_false_eq_true, not_true_eq_false, ↓reduceIte, if_true, if_false, Bool.false_eq_true, Nat.reduceAdd]
        rfl
      · have key := lp_det (fun n k (q : Int32 × Int32) => fX12_lacks_L31 45 (iN p) (iN w) (fun x6 x7 h8 => (h_pv 11 12 h8 45 (.int (0 : Int32))).bind fun h9 => (h_ck 11 h9 45).bind fun _ => h_bd (fX12_tell 45 (x7.toInt64) h9) fun _ h10 => some (x6, h10)) n q.1 q.2 (iN k) (encC I E L pr ot (encR (u1 J 13 (iN 0)) B M rdv ru T))) (fun q => some (q.1, (encC I E L pr ot (encR (u1 (u1 J 13 (iN 0)) 12 (iN 1)) B (vp_updL M 0 q.2.toInt64) rdv ru T)))) (fun k => (bt (fun t => !tmB A (A 28) p w t) k, sm (ofT A (A 28) p w) k)) n0
          (fun k hk n => by
            obtain ⟨kh, m, hkh, hm, e1, e2, e3, e4, e5⟩ := hterm k hk
            obtain ⟨v, hv9, ev⟩ := (hz.2.2.1 p (by omega)).of hkh
            have hz8 : B 0 (8 + 4 * p + kh) = iN v := by rw [hc.hu (by omega) hkh]; exact ev
            have f1 := r_isTerm (I := I) (E := E) (L := L) (pr := pr) (ot := ot) (M := M) (rdv := rdv) (ru := ru) (T := T) (J := u1 J 13 (iN 0)) (B := B) (oa := 46) (t := k) hMb (Or.inl rfl) hc (show p < 6 by omega) (hz.2.2.1 p (by omega)) hw hnB hn3 hk
            have f2 := r_humour (I := I) (E := E) (L := L) (pr := pr) (ot := ot) (M := M) (rdv := rdv) (ru := ru) (T := T) (J := u1 J 13 (iN 0)) (B := B) (oa := 46) (Or.inl rfl) (show p < 6 by omega) hkh hc
            rw [ev] at f2
            have g1 : tmB A (A 28) p w k = decide (ofT A (A 28) p w k ≤ 0) := rfl
            have g2 : ofT A (A 28) p w k = ofB A w k (iN v) := by unfold ofT; rw [e1, iN_nat (by omega), ev]
            have g3 : ofT A (A 28) p w k = (if tmB A (A 28) p w k then 0 else (if 0 ≤ iN v - iN m then iN v - iN m else 0 - (iN v - iN m)) + 1) := by
              rcases e5 with ⟨e5, e6⟩ | ⟨e5, e6⟩
              · have a1 : ofT A (A 28) p w k = (if v < m then 0 else (if 0 ≤ iN v - iN m then iN v - iN m else 0 - (iN v - iN m)) + 1) := by
                  rw [g2]; unfold ofB; rw [if_pos e5, e2]
                  exact of_lt ⟨v, hv9⟩ ⟨m, hm⟩
                have a2 : tmB A (A 28) p w k = decide (v < m) := by
                  rw [g1, g2]; unfold ofB; rw [if_pos e5, e2]
                  exact tm_lt ⟨v, hv9⟩ ⟨m, hm⟩
                rw [a1, a2]
                by_cases c : v < m
                · rw [if_pos c, decide_eq_true c]; rfl
                · rw [if_neg c, decide_eq_false c]; rfl
              · have hne : ¬ A 17 (w * 3 + k) = 60 := by rw [e5]; decide
                have a1 : ofT A (A 28) p w k = (if m < v then 0 else (if 0 ≤ iN v - iN m then iN v - iN m else 0 - (iN v - iN m)) + 1) := by
                  rw [g2]; unfold ofB; rw [if_neg hne, e2]
                  exact of_gt ⟨v, hv9⟩ ⟨m, hm⟩
                have a2 : tmB A (A 28) p w k = decide (m < v) := by
                  rw [g1, g2]; unfold ofB; rw [if_neg hne, e2]
                  exact tm_gt ⟨v, hv9⟩ ⟨m, hm⟩
                rw [a1, a2]
                by_cases c : m < v
                · rw [if_pos c, decide_eq_true c]; rfl
                · rw [if_neg c, decide_eq_false c]; rfl
            have e6 : bt (fun t => !tmB A (A 28) p w t) (k + 1) = bt (fun t => !tmB A (A 28) p w t) k ||| (if (!tmB A (A 28) p w k) = true then (1 : Int32) <<< (iN k &&& 31) else 0) := rfl
            have e7 : sm (ofT A (A 28) p w) (k + 1) = sm (ofT A (A 28) p w) k + ofT A (A 28) p w k := rfl
            dsimp only
            rw [e6, e7, g3]
            cases ht : tmB A (A 28) p w k with
            | true =>
              rw [ht] at f1
              rw [if_neg (by decide), if_pos rfl, Int32.or_zero, Int32.add_zero]
              simp only [iN_lit] at f1
              simp (disch := first | omega | assumption | (simp (disch := omega) only [iN_lit, iN_add, iN_mul, iN_pred, iN_pred', iN_lt, iN_le, iN_eq, iN_nat, nlt_t, nlt_f, nle_t, nle_f, neq_t, neq_f, List.length_nil, List.length_cons, or_false, false_or, or_self, not_false_eq_true, not_true_eq_false, ↓reduceIte, if_true, if_false, Bool.false_eq_true, Nat.reduceAdd])) only [fX12_lacks_L31, ↓brK, ↓brR_7, ↓brA_7, ↓brS_7, ↓brR_0, ↓brA_0, ↓brS_0, ↓brR_8, ↓brA_8, ↓brS_8, fX12_lacks_J113_31, ↓hb_some, ↓bd_some, ↓letE_eq, h_z0, h_z1, h_zi0, h_zi1, ↓hb_of f1, iN_lit, iN_add, iN_mul, iN_pred, iN_pred', iN_lt, iN_le, iN_eq, iN_nat, nlt_t, nlt_f, nle_t, nle_f, neq_t, neq_f, List.length_nil, List.length_cons, or_false, false_or, or_self, not_false_eq_true, not_true_eq_false, ↓reduceIte, if_true, if_false, Bool.false_eq_true, Nat.reduceAdd, hnB, if_true]
            | false =>
              rw [ht] at f1
              simp only [iN_lit] at f1
              simp (disch := first | omega | assumption | (simp (disch := omega) only [iN_lit, iN_add, iN_mul, iN_pred, iN_pred', iN_lt, iN_le, iN_eq, iN_nat, nlt_t, nlt_f, nle_t, nle_f, neq_t, neq_f, List.length_nil, List.length_cons, or_false, false_or, or_self, not_false_eq_true, not_true_eq_false, ↓reduceIte, if_true, if_false, Bool.false_eq_true, Nat.reduceAdd])) only [fX12_lacks_L31, ↓brK, ↓brR_7, ↓brA_7, ↓brS_7, ↓brR_0, ↓brA_0, ↓brS_0, ↓brR_8, ↓brA_8, ↓brS_8, fX12_lacks_J113_31, ↓hb_some, ↓bd_some, ↓letE_eq, h_z0, h_z1, h_zi0, h_zi1, ↓hb_of f1, ↓hb_of f2, iN_lit, iN_add, iN_mul, iN_pred, iN_pred', iN_lt, iN_le, iN_eq, iN_nat, nlt_t, nlt_f, nle_t, nle_f, neq_t, neq_f, List.length_nil, List.length_cons, or_false, false_or, or_self, not_false_eq_true, not_true_eq_false, ↓reduceIte, if_true, if_false, Bool.false_eq_true, Nat.reduceAdd, hnB, e3, e4, Bool.not_false])
          (fun n => by
            have f3 := r_tell (I := I) (E := E) (L := L) (pr := pr) (ot := ot) (J := u1 (u1 J 13 (iN 0)) 12 (iN 0)) (B := B) (M := M) (rdv := rdv) (ru := ru) (T := T) (v := (sm (ofT A (A 28) p w) n0).toInt64) (n := 0) (by rw [u1_eq, if_pos rfl]) (by decide)
            rw [u1_u1] at f3
            dsimp only
            simp (disch := first | omega | assumption | (simp (disch := omega) only [iN_lit, iN_add, iN_mul, iN_pred, iN_pred', iN_lt, iN_le, iN_eq, iN_nat, nlt_t, nlt_f, nle_t, nle_f, neq_t, neq_f, List.length_nil, List.length_cons, or_false, false_or, or_self, not_false_eq_true, not_true_eq_false, ↓reduceIte, if_true, if_false, Bool.false_eq_true, Nat.reduceAdd])) only [fX12_lacks_L31, ↓brK, ↓brR_7, ↓brA_7, ↓brS_7, ↓brR_0, ↓brA_0, ↓brS_0, ↓brR_8, ↓brA_8, ↓brS_8, fX12_lacks_J113_31, fX12_lacks, ↓brW_13, ↓brW_12, ↓hb_of (r_humour _ _ _ _), ↓hb_of (isM_n _ _), ↓hb_of (r_isMan _ _), ↓hb_of (isW_n _ _), ↓hb_of (r_isWant _ _), ↓hb_some, ↓bd_some, ↓letE_eq, h_z0, h_z1, h_zi0, h_zi1, ↓hb_of f3, iN_lit, iN_add, iN_mul, iN_pred, iN_pred', iN_lt, iN_le, iN_eq, iN_nat, nlt_t, nlt_f, nle_t, nle_f, neq_t, neq_f, List.length_nil, List.length_cons, or_false, false_or, or_self, not_false_eq_true, not_true_eq_false, ↓reduceIte, if_true, if_false, Bool.false_eq_true, Nat.reduceAdd, hnB]) FU (by unfold FU; omega)
        dsimp only at key
        refine ⟨u1 (u1 J 13 (iN 0)) 12 (iN 1), B, vp_updL M 0 (sm (ofT A (A 28) p w) n0).toInt64, rdv, ?_, (frRJ.u (by decide)).trans (frRJ.u (by decide)), frRB.refl, by simp, by rw [u1_eq, if_pos rfl]; exact row_1 rfl⟩
        refine Eq.trans ?_ key
        unfold fX12_lacks
        simp only [iN_lit]
        rw [brW_13, brK, hb_of (r_isMan hMb hp), if_10, brK, hb_of (r_isWant hMb hw), if_10]
        rfl
    · refine pairG_q (ans := -1) hI (fun T => qC_no ?_) (qM_no (fun I E L pr ot T => ?_))
      · simp (disch := first | omega | assumption | (simp (disch := omega) only [iN_lit, iN_add, iN_mul, iN_pred, iN_pred', iN_lt, iN_le, iN_eq, iN_nat, nlt_t, nlt_f, nle_t, nle_f, neq_t, neq_f, List.length_nil, List.length_cons, or_false, false_or, or_self, not_false_eq_true, not_true_eq_false, ↓reduceIte, if_true, if_false, Bool.false_eq_true, Nat.reduceAdd])) only [fX11_lacks, ↓bK_11, ↓bK_9, ↓bR_0_7, ↓bR_0_6, ↓hb_of (hasP_y _ _), ↓hb_of (hasP_n _ _), ↓hb_of (hasW_y _ _), ↓hb_of (hasW_n _ _), ↓hb_of (c_start), ↓hb_of (c_add _), ↓hb_some, ↓bd_some, ↓letE_eq, h_z0, h_z1, h_zi0, h_zi1, ↓hb_of (hasP_y hF hp), ↓hb_of (hasW_n hF hy), iN_lit, iN_add, iN_mul, iN_pred, iN_pred', iN_lt, iN_le, iN_eq, iN_nat, nlt_t, nlt_f, nle_t, nle_f, neq_t, neq_f, List.length_nil, List.length_cons, or_false, false_or, or_self, not_false_eq_true, not_true_eq_false, ↓reduceIte, if_true, if_false, Bool.false_eq_true, Nat.reduceAdd]
      · unfold fX12_lacks
        simp only [iN_lit]
        rw [brW_13, brK, hb_of (r_isMan hMb hp), if_10, brK, hb_of (isW_n hMb hy), if_00]
  · refine pairG_q (ans := -1) hI (fun T => qC_no ?_) (qM_no (fun I E L pr ot T => ?_))
    · simp (disch := first | omega | assumption | (simp (disch := omega) only [iN_lit, iN_add, iN_mul, iN_pred, iN_pred', iN_lt, iN_le, iN_eq, iN_nat, nlt_t, nlt_f, nle_t, nle_f, neq_t, neq_f, List.length_nil, List.length_cons, or_false, false_or, or_self, not_false_eq_true, not_true_eq_false, ↓reduceIte, if_true, if_false, Bool.false_eq_true, Nat.reduceAdd])) only [fX11_lacks, ↓bK_11, ↓bK_9, ↓bR_0_7, ↓bR_0_6, ↓hb_of (hasP_y _ _), ↓hb_of (hasP_n _ _), ↓hb_of (hasW_y _ _), ↓hb_of (hasW_n _ _), ↓hb_of (c_start), ↓hb_of (c_add _), ↓hb_some, ↓bd_some, ↓letE_eq, h_z0, h_z1, h_zi0, h_zi1, ↓hb_of (hasP_n hF hx), iN_lit, iN_add, iN_mul, iN_pred, iN_pred', iN_lt, iN_le, iN_eq, iN_nat, nlt_t, nlt_f, nle_t, nle_f, neq_t, neq_f, List.length_nil, List.length_cons, or_false, false_or, or_self, not_false_eq_true, not_true_eq_false, ↓reduceIte, if_true, if_false, Bool.false_eq_true, Nat.reduceAdd]
    · unfold fX12_lacks
      simp only [iN_lit]
      rw [brW_13, brK, hb_of (isM_n hMb hx), if_00]
theorem rich_C (ck : CK I A G P W pr pu) (hP : 0 < P) : qC I A L pr ot T (fX11_richest 0) (iN (riN (waS A (A 28) W) P)) (some [(waS A (A 28) W (riN (waS A (A 28) W) P)).toInt64, (hU (((1 : Int32) <<< (iN W &&& 31)) - 1) (waS A (A 28) W) P).toInt64]) := by
  have hF := ck.1
  have h6 := hF.2.2.2.2.1
  have h7 := hF.2.2.2.2.2
  have hPs := hF.2.1
  have hr := riN_lt (f := waS A (A 28) W) P hP
  have hlt : (iN (riN (waS A (A 28) W) P) < iN 0) = False := by
    rw [iN_lt (by omega) (by omega)]; exact eq_false (by omega)
  have g1 := ck.i.wantsN (I := u2 I 9 1 (iN 0)) (L := L) (pr := pr) (ot := ot) (T := T) (p := riN (waS A (A 28) W) P) frQ.refl (by omega)
  have g2 := c_add (I := I) (A := A) (L := L) (pr := pr) (ot := ot) (T := T) (v := (waS A (A 28) W (riN (waS A (A 28) W) P)).toInt64) (n := 0) (by decide)
  have g3 := c_add (I := I) (A := A) (L := vp_updL L 0 (waS A (A 28) W (riN (waS A (A 28) W) P)).toInt64) (pr := pr) (ot := ot) (T := T) (v := (hU (((1 : Int32) <<< (iN W &&& 31)) - 1) (waS A (A 28) W) P).toInt64) (n := 1) (by decide)
  simp only [iN_lit] at g3
  have key := lp_up (fun n k (q : Int32 × Int32 × Int32) => fX11_richest_L16 0 (fun x4 x5 h6 => if x4 < 0 then (some (x4, h6)) else ((h_gr 10 6 h6 0).bind fun q7 => (h_ck 2 h6 q7).bind fun _ => h_bd (fX3_start q7 h6) fun _ h8 => (h_gr 10 6 h8 0).bind fun q9 => (h_gr 10 8 h8 0).bind fun q10 => (h_ck 7 h8 q10).bind fun _ => h_bd (fX8_wantsOf q10 x4 h8) fun x11 h12 => (h_ck 2 h12 q9).bind fun _ => h_bd (fX3_add q9 (x11.toInt64) h12) fun _ h13 => (h_gr 10 6 h13 0).bind fun q14 => (h_ck 2 h13 q14).bind fun _ => h_bd (fX3_add q14 (x5.toInt64) h13) fun _ h15 => some (x4, h15))) n q.1 q.2.1 q.2.2 (iN k) (encC I A L pr ot T)) (fun _ => some (iN (riN (waS A (A 28) W) P), (encC (u2 I 9 1 (iN 2)) A (vp_updL (vp_updL L 0 (waS A (A 28) W (riN (waS A (A 28) W) P)).toInt64) 1 (hU (((1 : Int32) <<< (iN W &&& 31)) - 1) (waS A (A 28) W) P).toInt64) pr ot T))) (fun k q => q.2.2 = hU (((1 : Int32) <<< (iN W &&& 31)) - 1) (waS A (A 28) W) k ∧ (k = 0 → q.1 = -2 ∧ q.2.1 = -1) ∧ (0 < k → q.1 = iN (riN (waS A (A 28) W) k) ∧ q.2.1 = bc (waS A (A 28) W (riN (waS A (A 28) W) k)))) P
    (fun k q hk hi => by
      obtain ⟨b, m, u⟩ := q
      obtain ⟨i1, i2, i3⟩ := hi
      dsimp only at i1 i2 i3
      have f1 := ck.wantsN (L := L) (pr := pr) (ot := ot) (T := T) (p := k) frQ.refl hk
      have e1 : hU (((1 : Int32) <<< (iN W &&& 31)) - 1) (waS A (A 28) W) (k + 1) = hU (((1 : Int32) <<< (iN W &&& 31)) - 1) (waS A (A 28) W) k &&& (waS A (A 28) W k ^^^ (-1 : Int32)) := rfl
      by_cases h0 : k = 0
      · obtain ⟨j1, j2⟩ := i2 h0
        have hn : ¬ bc (waS A (A 28) W k) ≤ m := by
          rw [j2]
          intro c
          have := bc_wa (A := A) (Z := A 28) (p := k) h7
          rw [Int32.le_iff_toInt_le] at c this
          have a1 : (-1 : Int32).toInt = -1 := by decide
          have a0 : (0 : Int32).toInt = 0 := by decide
          omega
        refine ⟨(iN k, bc (waS A (A 28) W k), u &&& (waS A (A 28) W k ^^^ (-1 : Int32))), ⟨by dsimp only; rw [i1, e1], fun c => absurd c (by omega), fun _ => ?_⟩, fun n => ?_⟩
        · have e2 : riN (waS A (A 28) W) (k + 1) = k := by
            subst h0
            show (if _ then _ else _) = _
            split <;> rfl
          dsimp only
          rw [e2]; exact ⟨rfl, rfl⟩
        · dsimp only
          simp (disch := first | omega | assumption | (simp (disch := omega) only [iN_lit, iN_add, iN_mul, iN_pred, iN_pred', iN_lt, iN_le, iN_eq, iN_nat, nlt_t, nlt_f, nle_t, nle_f, neq_t, neq_f, List.length_nil, List.length_cons, or_false, false_or, or_self, not_false_eq_true, not_true_eq_false, ↓reduceIte, if_true, if_false, Bool.false_eq_true, Nat.reduceAdd])) only [fX11_richest_L16, ↓bK_11, ↓zK _, ↓bR_0_7, ↓bR_0_8, fX11_richest_J64_16, ↓hb_of (c_personSize), ↓hb_of (c_bitCount), ↓hb_some, ↓bd_some, ↓letE_eq, h_z0, h_z1, h_zi0, h_zi1, ↓hb_of f1, ↓hb_of c_bitCount, iN_lit, iN_add, iN_mul, iN_pred, iN_pred', iN_lt, iN_le, iN_eq, iN_nat, nlt_t, nlt_f, nle_t, nle_f, neq_t, neq_f, List.length_nil, List.length_cons, or_false, false_or, or_self, not_false_eq_true, not_true_eq_false, ↓reduceIte, if_true, if_false, Bool.false_eq_true, Nat.reduceAdd, hPs, hn]
      · obtain ⟨j1, j2⟩ := i3 (by omega)
        by_cases hcc : bc (waS A (A 28) W k) ≤ m
        · refine ⟨(b, m, u &&& (waS A (A 28) W k ^^^ (-1 : Int32))), ⟨by dsimp only; rw [i1, e1], fun c => absurd c (by omega), fun _ => ?_⟩, fun n => ?_⟩
          · have e2 : riN (waS A (A 28) W) (k + 1) = riN (waS A (A 28) W) k := by
              show (if _ then _ else _) = _
              rw [if_pos (by rw [← j2]; exact hcc)]
            dsimp only
            rw [e2]; exact ⟨j1, j2⟩
          · dsimp only
            simp (disch := first | omega | assumption | (simp (disch := omega) only [iN_lit, iN_add, iN_mul, iN_pred, iN_pred', iN_lt, iN_le, iN_eq, iN_nat, nlt_t, nlt_f, nle_t, nle_f, neq_t, neq_f, List.length_nil, List.length_cons, or_false, false_or, or_self, not_false_eq_true, not_true_eq_false, ↓reduceIte, if_true, if_false, Bool.false_eq_true, Nat.reduceAdd])) only [fX11_richest_L16, ↓bK_11, ↓zK _, ↓bR_0_7, ↓bR_0_8, fX11_richest_J64_16, ↓hb_of (c_personSize), ↓hb_of (c_bitCount), ↓hb_some, ↓bd_some, ↓letE_eq, h_z0, h_z1, h_zi0, h_zi1, ↓hb_of f1, ↓hb_of c_bitCount, iN_lit, iN_add, iN_mul, iN_pred, iN_pred', iN_lt, iN_le, iN_eq, iN_nat, nlt_t, nlt_f, nle_t, nle_f, neq_t, neq_f, List.length_nil, List.length_cons, or_false, false_or, or_self, not_false_eq_true, not_true_eq_false, ↓reduceIte, if_true, if_false, Bool.false_eq_true, Nat.reduceAdd, hPs, hcc]
        · refine ⟨(iN k, bc (waS A (A 28) W k), u &&& (waS A (A 28) W k ^^^ (-1 : Int32))), ⟨by dsimp only; rw [i1, e1], fun c => absurd c (by omega), fun _ => ?_⟩, fun n => ?_⟩
          · have e2 : riN (waS A (A 28) W) (k + 1) = k := by
              show (if _ then _ else _) = _
              rw [if_neg (by rw [← j2]; exact hcc)]
            dsimp only
            rw [e2]; exact ⟨rfl, rfl⟩
          · dsimp only
            simp (disch := first | omega | assumption | (simp (disch := omega) only [iN_lit, iN_add, iN_mul, iN_pred, iN_pred', iN_lt, iN_le, iN_eq, iN_nat, nlt_t, nlt_f, nle_t, nle_f, neq_t, neq_f, List.length_nil, List.length_cons, or_false, false_or, or_self, not_false_eq_true, not_true_eq_false, ↓reduceIte, if_true, if_false, Bool.false_eq_true, Nat.reduceAdd])) only [fX11_richest_L16, ↓bK_11, ↓zK _, ↓bR_0_7, ↓bR_0_8, fX11_richest_J64_16, ↓hb_of (c_personSize), ↓hb_of (c_bitCount), ↓hb_some, ↓bd_some, ↓letE_eq, h_z0, h_z1, h_zi0, h_zi1, ↓hb_of f1, ↓hb_of c_bitCount, iN_lit, iN_add, iN_mul, iN_pred, iN_pred', iN_lt, iN_le, iN_eq, iN_nat, nlt_t, nlt_f, nle_t, nle_f, neq_t, neq_f, List.length_nil, List.length_cons, or_false, false_or, or_self, not_false_eq_true, not_true_eq_false, ↓reduceIte, if_true, if_false, Bool.false_eq_true, Nat.reduceAdd, hPs, hcc])
    (fun q hi n => by
      obtain ⟨b, m, u⟩ := q
      obtain ⟨i1, i2, i3⟩ := hi
      dsimp only at i1 i2 i3
      obtain ⟨j1, j2⟩ := i3 hP
      dsimp only
      rw [i1, j1]
      simp only [iN_lit] at hlt g1 g2 g3 ⊢
      simp (disch := first | omega | assumption | (simp (disch := omega) only [iN_lit, iN_add, iN_mul, iN_pred, iN_pred', iN_lt, iN_le, iN_eq, iN_nat, nlt_t, nlt_f, nle_t, nle_f, neq_t, neq_f, List.length_nil, List.length_cons, or_false, false_or, or_self, not_false_eq_true, not_true_eq_false, ↓reduceIte, if_true, if_false, Bool.false_eq_true, Nat.reduceAdd])) only [fX11_richest_L16, ↓bK_11, ↓zK _, ↓bR_0_7, ↓bR_0_8, fX11_richest_J64_16, fX11_richest, ↓bK_9, ↓bR_0_6, ↓hb_of (c_personSize), ↓hb_of (c_bitCount), ↓hb_of (c_allWants), ↓hb_of (c_start), ↓hb_some, ↓bd_some, ↓letE_eq, h_z0, h_z1, h_zi0, h_zi1, ↓hb_of c_start, ↓hb_of g1, ↓hb_of g2, ↓hb_of g3, iN_lit, iN_add, iN_mul, iN_pred, iN_pred', iN_lt, iN_le, iN_eq, iN_nat, nlt_t, nlt_f, nle_t, nle_f, neq_t, neq_f, List.length_nil, List.length_cons, or_false, false_or, or_self, not_false_eq_true, not_true_eq_false, ↓reduceIte, if_true, if_false, Bool.false_eq_true, Nat.reduceAdd, hPs, hlt]) P 0 (-2, -1, ((1 : Int32) <<< (iN W &&& 31)) - 1) (by omega) ⟨rfl, fun _ => ⟨rfl, rfl⟩, fun c => absurd c (Nat.lt_irrefl 0)⟩
  obtain ⟨q, -, k2⟩ := key
  have k3 := k2 FU (by unfold FU; omega)
  refine ⟨u2 I 9 1 (iN 2), A, vp_updL (vp_updL L 0 (waS A (A 28) W (riN (waS A (A 28) W) P)).toInt64) 1 (hU (((1 : Int32) <<< (iN W &&& 31)) - 1) (waS A (A 28) W) P).toInt64, ?_, frI.u, frQ.refl, by simp, row_2 rfl⟩
  refine Eq.trans ?_ k3
  have e0 := c_allWants (I := I) (A := A) (L := L) (pr := pr) (ot := ot) (T := T)
  rw [hF.2.2.1] at e0
  unfold fX11_richest
  rw [bR_0_7, bK_11, hb_of e0]
  rfl
theorem rich_M (mk : MKK A (u1 J 13 (iN 0)) B G P W ru pu) (hP : 0 < P) : qM J B M rdv ru (fX12_richest 45) (iN (riN (waS A (A 28) W) P)) (some [(waS A (A 28) W (riN (waS A (A 28) W) P)).toInt64, (hU (((1 : Int32) <<< (iN W &&& 31)) - 1) (waS A (A 28) W) P).toInt64]) := by
  intro I E L pr ot T
  have hM := mk.1
  have h6 := hM.2.2.2.2.1
  have h7 := hM.2.2.2.2.2.1
  have hPs := hM.2.1
  have hWs : (u1 (u1 J 13 (iN 0)) 12 (iN 1)) 3 = iN W := hM.2.2.1
  have hr := riN_lt (f := waS A (A 28) W) P hP
  have g1 := mk.hadN (I := I) (E := E) (L := L) (pr := pr) (ot := ot) (M := M) (rdv' := rdv) (T := T) (J' := u1 (u1 J 13 (iN 0)) 12 (iN 0)) (p := riN (waS A (A 28) W) P) (frRJ.u (by decide)) frRB.refl (by omega)
  have g2 := r_tell (I := I) (E := E) (L := L) (pr := pr) (ot := ot) (J := u1 (u1 J 13 (iN 0)) 12 (iN 0)) (B := B) (M := M) (rdv := rdv) (ru := ru) (T := T) (v := (waS A (A 28) W (riN (waS A (A 28) W) P)).toInt64) (n := 0) (by rw [u1_eq, if_pos rfl]) (by decide)
  have g3 := r_tell (I := I) (E := E) (L := L) (pr := pr) (ot := ot) (J := u1 (u1 J 13 (iN 0)) 12 (iN 1)) (B := B) (M := vp_updL M 0 (waS A (A 28) W (riN (waS A (A 28) W) P)).toInt64) (rdv := rdv) (ru := ru) (T := T) (v := (hU (((1 : Int32) <<< (iN W &&& 31)) - 1) (waS A (A 28) W) P).toInt64) (n := 1) (by rw [u1_eq, if_pos rfl]) (by decide)
  rw [u1_u1] at g2 g3
  have key := lp_det (fun n k (q : Int32 × Int32) => fX12_richest_L21 45 (fun x3 x4 h5 => (h_pv 11 12 h5 45 (.int (0 : Int32))).bind fun h6 => (h_gr 11 0 h6 45).bind fun q7 => (h_ck 11 h6 45).bind fun _ => h_bd (fX12_had 45 q7 x3 h6) fun x8 h9 => (h_ck 11 h9 45).bind fun _ => h_bd (fX12_tell 45 (x8.toInt64) h9) fun _ h10 => (h_gi 11 3 h10 45).bind fun x11 => (h_ck 11 h10 45).bind fun _ => h_bd (fX12_tell 45 (((((1 : Int32) <<< (x11 &&& 31)) - (1 : Int32)) &&& (x4 ^^^ (-1 : Int32))).toInt64) h10) fun _ h12 => some (x3, h12)) n q.1 q.2 (iN k) (encC I E L pr ot (encR (u1 J 13 (iN 0)) B M rdv ru T))) (fun _ => some (iN (riN (waS A (A 28) W) P), (encC I E L pr ot (encR (u1 (u1 J 13 (iN 0)) 12 (iN 2)) B (vp_updL (vp_updL M 0 (waS A (A 28) W (riN (waS A (A 28) W) P)).toInt64) 1 (hU (((1 : Int32) <<< (iN W &&& 31)) - 1) (waS A (A 28) W) P).toInt64) rdv ru T)))) (fun k => (iN (riN (waS A (A 28) W) k), hA (waS A (A 28) W) k)) P
    (fun k hk n => by
      have hrk : riN (waS A (A 28) W) k < P := by
        by_cases h0 : k = 0
        · subst h0; exact hP
        · have := riN_lt (f := waS A (A 28) W) k (by omega); omega
      have f1 := mk.hadN (I := I) (E := E) (L := L) (pr := pr) (ot := ot) (M := M) (rdv' := rdv) (T := T) (p := k) frRJ.refl frRB.refl hk
      have f2 := mk.hadN (I := I) (E := E) (L := L) (pr := pr) (ot := ot) (M := M) (rdv' := rdv) (T := T) (p := riN (waS A (A 28) W) k) frRJ.refl frRB.refl hrk
      have e1 : hA (waS A (A 28) W) (k + 1) = hA (waS A (A 28) W) k ||| waS A (A 28) W k := rfl
      have e2 : riN (waS A (A 28) W) (k + 1) = if bc (waS A (A 28) W k) ≤ bc (waS A (A 28) W (riN (waS A (A 28) W) k)) then riN (waS A (A 28) W) k else k := rfl
      dsimp only
      rw [e1, e2]
      by_cases hcc : bc (waS A (A 28) W k) ≤ bc (waS A (A 28) W (riN (waS A (A 28) W) k))
      · rw [if_pos hcc]
        simp (disch := first | omega | assumption | (simp (disch := omega) only [iN_lit, iN_add, iN_mul, iN_pred, iN_pred', iN_lt, iN_le, iN_eq, iN_nat, nlt_t, nlt_f, nle_t, nle_f, neq_t, neq_f, List.length_nil, List.length_cons, or_false, false_or, or_self, not_false_eq_true, not_true_eq_false, ↓reduceIte, if_true, if_false, Bool.false_eq_true, Nat.reduceAdd])) only [fX12_richest_L21, ↓brK, ↓brR_0, ↓brA_0, ↓brS_0, ↓brG_2, fX12_richest_J61_21, ↓hb_of (c_bitCount), ↓hb_some, ↓bd_some, ↓letE_eq, h_z0, h_z1, h_zi0, h_zi1, ↓hb_of f1, ↓hb_of f2, ↓hb_of c_bitCount, iN_lit, iN_add, iN_mul, iN_pred, iN_pred', iN_lt, iN_le, iN_eq, iN_nat, nlt_t, nlt_f, nle_t, nle_f, neq_t, neq_f, List.length_nil, List.length_cons, or_false, false_or, or_self, not_false_eq_true, not_true_eq_false, ↓reduceIte, if_true, if_false, Bool.false_eq_true, Nat.reduceAdd, hPs, hcc]
      · rw [if_neg hcc]
        simp (disch := first | omega | assumption | (simp (disch := omega) only [iN_lit, iN_add, iN_mul, iN_pred, iN_pred', iN_lt, iN_le, iN_eq, iN_nat, nlt_t, nlt_f, nle_t, nle_f, neq_t, neq_f, List.length_nil, List.length_cons, or_false, false_or, or_self, not_false_eq_true, not_true_eq_false, ↓reduceIte, if_true, if_false, Bool.false_eq_true, Nat.reduceAdd])) only [fX12_richest_L21, ↓brK, ↓brR_0, ↓brA_0, ↓brS_0, ↓brG_2, fX12_richest_J61_21, ↓hb_of (c_bitCount), ↓hb_some, ↓bd_some, ↓letE_eq, h_z0, h_z1, h_zi0, h_zi1, ↓hb_of f1, ↓hb_of f2, ↓hb_of c_bitCount, iN_lit, iN_add, iN_mul, iN_pred, iN_pred', iN_lt, iN_le, iN_eq, iN_nat, nlt_t, nlt_f, nle_t, nle_f, neq_t, neq_f, List.length_nil, List.length_cons, or_false, false_or, or_self, not_false_eq_true, not_true_eq_false, ↓reduceIte, if_true, if_false, Bool.false_eq_true, Nat.reduceAdd, hPs, hcc])
    (fun n => by
      have e3 := hU_eq (a := ((1 : Int32) <<< (iN W &&& 31)) - 1) (f := waS A (A 28) W) P
      rw [e3] at g3 ⊢
      simp only [iN_lit] at g3 ⊢
      simp (disch := first | omega | assumption | (simp (disch := omega) only [iN_lit, iN_add, iN_mul, iN_pred, iN_pred', iN_lt, iN_le, iN_eq, iN_nat, nlt_t, nlt_f, nle_t, nle_f, neq_t, neq_f, List.length_nil, List.length_cons, or_false, false_or, or_self, not_false_eq_true, not_true_eq_false, ↓reduceIte, if_true, if_false, Bool.false_eq_true, Nat.reduceAdd])) only [fX12_richest_L21, ↓brK, ↓brR_0, ↓brA_0, ↓brS_0, ↓brG_2, fX12_richest_J61_21, fX12_richest, ↓brG_3, ↓brW_13, ↓brW_12, ↓hb_of (c_bitCount), ↓hb_some, ↓bd_some, ↓letE_eq, h_z0, h_z1, h_zi0, h_zi1, ↓hb_of g1, ↓hb_of g2, ↓hb_of g3, iN_lit, iN_add, iN_mul, iN_pred, iN_pred', iN_lt, iN_le, iN_eq, iN_nat, nlt_t, nlt_f, nle_t, nle_f, neq_t, neq_f, List.length_nil, List.length_cons, or_false, false_or, or_self, not_false_eq_true, not_true_eq_false, ↓reduceIte, if_true, if_false, Bool.false_eq_true, Nat.reduceAdd, hPs, hWs]) FU (by unfold FU; omega)
  refine ⟨u1 (u1 J 13 (iN 0)) 12 (iN 2), B, vp_updL (vp_updL M 0 (waS A (A 28) W (riN (waS A (A 28) W) P)).toInt64) 1 (hU (((1 : Int32) <<< (iN W &&& 31)) - 1) (waS A (A 28) W) P).toInt64, rdv, ?_, (frRJ.u (by decide)).trans (frRJ.u (by decide)), frRB.refl, by simp, by rw [u1_eq, if_pos rfl]; exact row_2 rfl⟩
  refine Eq.trans ?_ key
  have hne : ¬ iN P = iN 0 := by rw [iN_eq (by omega) (by omega)]; omega
  unfold fX12_richest
  simp only [iN_lit]
  rw [brW_13, brG_2, hPs, if_neg hne]
  rfl
theorem p_richest (h : INV s I A L pr ot J B M ru G P W) : pairG s I A L pr ot J B M rdv ru out (fX11_richest 0) (fX12_richest 45) := by
  have hI := h
  obtain ⟨pu, ck, -, mk⟩ := h.km
  obtain ⟨hF, hM, hpl, hz, hc, hn2, -⟩ := h
  by_cases hP : 0 < P
  · exact pairG_q hI (fun T => rich_C ck hP) (rich_M mk hP)
  · have h0 : P = 0 := by omega
    subst h0
    refine pairG_q (ans := -2) hI (fun T => qC_no ?_) (qM_no (fun I E L pr ot T => ?_))
    · have e0 := c_allWants (I := I) (A := A) (L := L) (pr := pr) (ot := ot) (T := T)
      have hPs := hF.2.1
      have e1 : ∀ (n : Nat) (u : Int32) (kx : Int32 → Int32 → PH → Option (Int32 × PH)), fX11_richest_L16 0 kx (n + 1) (-2) (-1) u (iN 0) (encC I A L pr ot T) = kx (-2) u (encC I A L pr ot T) := fun n u kx => by
        simp (disch := first | omega | assumption | (simp (disch := omega) only [iN_lit, iN_add, iN_mul, iN_pred, iN_pred', iN_lt, iN_le, iN_eq, iN_nat, nlt_t, nlt_f, nle_t, nle_f, neq_t, neq_f, List.length_nil, List.length_cons, or_false, false_or, or_self, not_false_eq_true, not_true_eq_false, ↓reduceIte, if_true, if_false, Bool.false_eq_true, Nat.reduceAdd])) only [fX11_richest_L16, ↓bK_11, ↓zK _, ↓bR_0_7, ↓bR_0_8, fX11_richest_J64_16, ↓hb_of (c_personSize), ↓hb_of (c_wantsOf _ _ _ _), ↓hb_of (c_bitCount), ↓hb_some, ↓bd_some, ↓letE_eq, h_z0, h_z1, h_zi0, h_zi1, iN_lit, iN_add, iN_mul, iN_pred, iN_pred', iN_lt, iN_le, iN_eq, iN_nat, nlt_t, nlt_f, nle_t, nle_f, neq_t, neq_f, List.length_nil, List.length_cons, or_false, false_or, or_self, not_false_eq_true, not_true_eq_false, ↓reduceIte, if_true, if_false, Bool.false_eq_true, Nat.reduceAdd, hPs]
      unfold fX11_richest
      rw [bR_0_7, bK_11, hb_of e0]
      refine (e1 1999 _ _).trans ?_
      exact if_pos (by decide)
    · have hPs : (u1 J 13 0) 2 = iN 0 := hM.2.1
      unfold fX12_richest
      rw [brW_13, brG_2, hPs]
      exact if_pos rfl
end LB
