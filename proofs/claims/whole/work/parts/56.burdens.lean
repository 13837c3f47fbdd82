/-! CALLS: burdens -/
def kxC9 : Int32 → Int32 → PH → Option (Int32 × PH) := fun x1 x2 h3 => if x1 < 0 then (some (x1, h3)) else ((h_gr 3 3 h3 35).bind fun q4 => (h_ck 2 h3 q4).bind fun _ => h_bd (fX3_start q4 h3) fun _ h5 => (h_gr 3 3 h5 35).bind fun q6 => (h_ck 2 h5 q6).bind fun _ => h_bd (fX3_add q6 (x2.toInt64) h5) fun _ h7 => some (x1, h7))
def kxM34b : Int32 → Int32 → PH → Option (Int32 × PH) := fun x6 x7 h8 => if x6 = (-2 : Int32) then (some ((-2 : Int32), h8)) else ((h_pv 11 12 h8 45 (.int (0 : Int32))).bind fun h9 => (h_ck 11 h9 45).bind fun _ => h_bd (fX12_tell 45 (x7.toInt64) h9) fun _ h10 => some (x6, h10))
def buS (A : Nat → Nat → Int32) (pu : (Nat → Int32) → Int32) (G W p n : Nat) (g : Nat) : Int32 := waS A (psZ A pu G p (upd (A 28) (32 + p * 8 + g) (-1)) n) W p
theorem bsF_n {cc : Nat → Bool} {v : Nat → Int32} {k : Nat} (hb : cc k = false) : bsF cc v (k + 1) = bsF cc v k := by
  show (match bsF cc v k with | none => if cc k then some k else none | some f => if cc k && decide (bc (v f) < bc (v k)) then some k else some f) = _
  rw [hb]
  cases bsF cc v k <;> rfl
theorem bsF_0 {cc : Nat → Bool} {v : Nat → Int32} {k : Nat} (hb : cc k = true) (ho : bsF cc v k = none) : bsF cc v (k + 1) = some k := by
  show (match bsF cc v k with | none => if cc k then some k else none | some f => if cc k && decide (bc (v f) < bc (v k)) then some k else some f) = _
  rw [hb, ho]; rfl
theorem bsF_y {cc : Nat → Bool} {v : Nat → Int32} {k f : Nat} (hb : cc k = true) (ho : bsF cc v k = some f) (hlt : bc (v f) < bc (v k)) : bsF cc v (k + 1) = some k := by
  show (match bsF cc v k with | none => if cc k then some k else none | some f => if cc k && decide (bc (v f) < bc (v k)) then some k else some f) = _
  rw [hb, ho]; dsimp only; rw [decide_eq_true hlt]; rfl
theorem bsF_f {cc : Nat → Bool} {v : Nat → Int32} {k f : Nat} (hb : cc k = true) (ho : bsF cc v k = some f) (hlt : ¬ bc (v f) < bc (v k)) : bsF cc v (k + 1) = some f := by
  show (match bsF cc v k with | none => if cc k then some k else none | some f => if cc k && decide (bc (v f) < bc (v k)) then some k else some f) = _
  rw [hb, ho]; dsimp only; rw [decide_eq_false hlt]; rfl
section SV
variable {I A E I' A' : Nat → Nat → Int32} {L L' : Nat → Int64} {pr ot s : Nat} {J J' : Nat → Int32} {B B' : Nat → Nat → Int32} {M M' : Nat → Int64} {rdv rdv' : Value} {ru : Nat} {T : PH} {G P W p q g n nr sz ro oa w t : Nat} {Z Z' R X a : Nat → Int32} {x y z i2 m : Int32} {out : Nat → Int64} {pu : (Nat → Int32) → Int32}
theorem burd_C (c : CK I A G P W pr pu) (hp : p < P) (hn : n ≤ 60) :
    qC I A L pr ot T (fX4_worstHeld 35 (iN p) (iN n)) (eF (bsF (fun g => hdB (A 28) p g) (buS A pu G W p n) G)) ((bsF (fun g => hdB (A 28) p g) (buS A pu G W p n) G).map (fun f => [(buS A pu G W p n f).toInt64])) := by
  have hG := c.1.1
  have h8 := c.1.2.2.2.1
  have h6 := c.1.2.2.2.2.1
  obtain ⟨cc, hcc⟩ : ∃ cc, cc = (fun g => hdB (A 28) p g) := ⟨_, rfl⟩
  obtain ⟨v, hv⟩ : ∃ v, v = buS A pu G W p n := ⟨_, rfl⟩
  have hcg : ∀ g, hdB (A 28) p g = cc g := fun g => by rw [hcc]
  rw [← hcc, ← hv]
  have key := lp_k (fun (kx : Int32 → Int32 → PH → Option (Int32 × PH)) n' k (A' : Nat → Nat → Int32) => fX4_worstHeld_L9 35 (iN p) (iN n) kx n' (eF (bsF cc v k)) (eV v (bsF cc v k)) (iN k) (encC I A' L pr ot T)) (fun kx A' => kx (eF (bsF cc v G)) (eV v (bsF cc v G)) (encC I A' L pr ot T)) (fun k A' => frQ A A') G
    (fun k A' hk hi => by
      have e28 : A' (27 + 1) = A 28 := hi.1 28 (by omega)
      have f2 := c_holds (I := I) (A := A') (L := L) (pr := pr) (ot := ot) (T := T) (o := 27) (p := p) (g := k) (Or.inl rfl) (by omega) (by omega)
      rw [e28, hcg] at f2
      cases hb : cc k with
      | false =>
        rw [hb] at f2
        refine ⟨A', hi, fun kx n' => ?_⟩
        rw [bsF_n hb]
        simp only [iN_lit, Bool.false_eq_true, if_false] at f2
        simp (disch := first | omega | assumption | (simp (disch := omega) only [iN_lit, iN_add, iN_mul, iN_pred, iN_pred', iN_lt, iN_le, iN_eq, iN_nat, nlt_t, nlt_f, nle_t, nle_f, neq_t, neq_f, List.length_nil, List.length_cons, or_false, false_or, or_self, not_false_eq_true, not_true_eq_false, ↓reduceIte, if_true, if_false, Bool.false_eq_true, Nat.reduceAdd])) only [fX4_worstHeld_L9, ↓bK_11, ↓zK _, ↓bK_35, ↓bR_35_0, ↓bR_35_1, fX4_worstHeld_J68_9, fX4_worstHeld_J61_9, ↓hb_of (c_groundSize), ↓hb_of (c_bitCount), ↓hb_some, ↓bd_some, ↓letE_eq, h_z0, h_z1, h_zi0, h_zi1, ↓hb_of f2, iN_lit, iN_add, iN_mul, iN_pred, iN_pred', iN_lt, iN_le, iN_eq, iN_nat, nlt_t, nlt_f, nle_t, nle_f, neq_t, neq_f, List.length_nil, List.length_cons, or_false, false_or, or_self, not_false_eq_true, not_true_eq_false, ↓reduceIte, if_true, if_false, Bool.false_eq_true, Nat.reduceAdd, hG]
      | true =>
        rw [hb] at f2
        obtain ⟨A2, g1, g2⟩ := c.bare (L := L) (ot := ot) (T := T) (g := k) (n := n) hi hp hk (by omega)
        have hvk : waS A (psZ A pu G p (upd (A 28) (32 + p * 8 + k) (-1)) n) W p = v k := by rw [hv]; rfl
        rw [hvk] at g1
        refine ⟨A2, g2, fun kx n' => ?_⟩
        simp only [iN_lit, if_true] at f2
        cases ho : bsF cc v k with
        | none =>
          rw [bsF_0 hb ho]
          unfold eF eV
          simp (disch := first | omega | assumption | (simp (disch := omega) only [iN_lit, iN_add, iN_mul, iN_pred, iN_pred', iN_lt, iN_le, iN_eq, iN_nat, nlt_t, nlt_f, nle_t, nle_f, neq_t, neq_f, List.length_nil, List.length_cons, or_false, false_or, or_self, not_false_eq_true, not_true_eq_false, ↓reduceIte, if_true, if_false, Bool.false_eq_true, Nat.reduceAdd])) only [fX4_worstHeld_L9, ↓bK_11, ↓zK _, ↓bK_35, ↓bR_35_0, ↓bR_35_1, fX4_worstHeld_J68_9, fX4_worstHeld_J61_9, ↓hb_of (c_groundSize), ↓hb_of (c_bitCount), ↓hb_some, ↓bd_some, ↓letE_eq, h_z0, h_z1, h_zi0, h_zi1, ↓hb_of f2, ↓hb_of g1, iN_lit, iN_add, iN_mul, iN_pred, iN_pred', iN_lt, iN_le, iN_eq, iN_nat, nlt_t, nlt_f, nle_t, nle_f, neq_t, neq_f, List.length_nil, List.length_cons, or_false, false_or, or_self, not_false_eq_true, not_true_eq_false, ↓reduceIte, if_true, if_false, Bool.false_eq_true, Nat.reduceAdd, hG, n2]
        | some f =>
          have hf := bsF_lt k f ho
          by_cases hlt : bc (v f) < bc (v k)
          · have hle : ¬ bc (v k) ≤ bc (v f) := by rw [nle_lt]; exact not_not_intro hlt
            rw [bsF_y hb ho hlt]
            unfold eF eV
            simp (disch := first | omega | assumption | (simp (disch := omega) only [iN_lit, iN_add, iN_mul, iN_pred, iN_pred', iN_lt, iN_le, iN_eq, iN_nat, nlt_t, nlt_f, nle_t, nle_f, neq_t, neq_f, List.length_nil, List.length_cons, or_false, false_or, or_self, not_false_eq_true, not_true_eq_false, ↓reduceIte, if_true, if_false, Bool.false_eq_true, Nat.reduceAdd])) only [fX4_worstHeld_L9, ↓bK_11, ↓zK _, ↓bK_35, ↓bR_35_0, ↓bR_35_1, fX4_worstHeld_J68_9, fX4_worstHeld_J61_9, ↓hb_of (c_groundSize), ↓hb_of (c_bitCount), ↓hb_some, ↓bd_some, ↓letE_eq, h_z0, h_z1, h_zi0, h_zi1, ↓hb_of f2, ↓hb_of g1, ↓hb_of c_bitCount, iN_lit, iN_add, iN_mul, iN_pred, iN_pred', iN_lt, iN_le, iN_eq, iN_nat, nlt_t, nlt_f, nle_t, nle_f, neq_t, neq_f, List.length_nil, List.length_cons, or_false, false_or, or_self, not_false_eq_true, not_true_eq_false, ↓reduceIte, if_true, if_false, Bool.false_eq_true, Nat.reduceAdd, hG, hle]
          · have hle : bc (v k) ≤ bc (v f) := by rw [nle_lt]; exact hlt
            rw [bsF_f hb ho hlt]
            unfold eF eV
            simp (disch := first | omega | assumption | (simp (disch := omega) only [iN_lit, iN_add, iN_mul, iN_pred, iN_pred', iN_lt, iN_le, iN_eq, iN_nat, nlt_t, nlt_f, nle_t, nle_f, neq_t, neq_f, List.length_nil, List.length_cons, or_false, false_or, or_self, not_false_eq_true, not_true_eq_false, ↓reduceIte, if_true, if_false, Bool.false_eq_true, Nat.reduceAdd])) only [fX4_worstHeld_L9, ↓bK_11, ↓zK _, ↓bK_35, ↓bR_35_0, ↓bR_35_1, fX4_worstHeld_J68_9, fX4_worstHeld_J61_9, ↓hb_of (c_groundSize), ↓hb_of (c_bitCount), ↓hb_some, ↓bd_some, ↓letE_eq, h_z0, h_z1, h_zi0, h_zi1, ↓hb_of f2, ↓hb_of g1, ↓hb_of c_bitCount, iN_lit, iN_add, iN_mul, iN_pred, iN_pred', iN_lt, iN_le, iN_eq, iN_nat, nlt_t, nlt_f, nle_t, nle_f, neq_t, neq_f, List.length_nil, List.length_cons, or_false, false_or, or_self, not_false_eq_true, not_true_eq_false, ↓reduceIte, if_true, if_false, Bool.false_eq_true, Nat.reduceAdd, hG, hle])
    (fun A' hi kx n' => by simp (disch := first | omega | assumption | (simp (disch := omega) only [iN_lit, iN_add, iN_mul, iN_pred, iN_pred', iN_lt, iN_le, iN_eq, iN_nat, nlt_t, nlt_f, nle_t, nle_f, neq_t, neq_f, List.length_nil, List.length_cons, or_false, false_or, or_self, not_false_eq_true, not_true_eq_false, ↓reduceIte, if_true, if_false, Bool.false_eq_true, Nat.reduceAdd])) only [fX4_worstHeld_L9, ↓bK_11, ↓zK _, ↓bK_35, ↓bR_35_0, ↓bR_35_1, fX4_worstHeld_J68_9, fX4_worstHeld_J61_9, ↓hb_of (c_groundSize), ↓hb_of (holds_y _ _ _ _), ↓hb_of (holds_n _ _ _ _), ↓hb_of (c_bitCount), ↓hb_some, ↓bd_some, ↓letE_eq, h_z0, h_z1, h_zi0, h_zi1, iN_lit, iN_add, iN_mul, iN_pred, iN_pred', iN_lt, iN_le, iN_eq, iN_nat, nlt_t, nlt_f, nle_t, nle_f, neq_t, neq_f, List.length_nil, List.length_cons, or_false, false_or, or_self, not_false_eq_true, not_true_eq_false, ↓reduceIte, if_true, if_false, Bool.false_eq_true, Nat.reduceAdd, hG]) G 0 A (by omega) frQ.refl
  obtain ⟨A1, k1, k2⟩ := key
  have k3 := k2 kxC9 FU (by unfold FU; omega)
  have en : ∀ z, kxC9 (eF (bsF cc v G)) (eV v (bsF cc v G)) (encC I A1 L pr ot T) = z → fX4_worstHeld 35 (iN p) (iN n) (encC I A L pr ot T) = z := by
    intro z hz
    unfold fX4_worstHeld
    exact k3.trans hz
  cases ho : bsF cc v G with
  | none =>
    rw [ho] at en
    exact ⟨I, A1, L, en _ (if_pos (by decide)), frI.refl, k1, rfl, rfl⟩
  | some f =>
    have hf := bsF_lt G f ho
    rw [ho] at en
    have a1 := c_add (I := I) (A := A1) (L := L) (pr := pr) (ot := ot) (T := T) (v := (v f).toInt64) (n := 0) (by decide)
    refine ⟨u2 I 9 1 (iN 1), A1, vp_updL L 0 (v f).toInt64, en _ ?_, frI.u, k1, by simp, ?_⟩
    · have hlt : (iN f < iN 0) = False := by rw [iN_lt (by omega) (by omega)]; exact eq_false (by omega)
      unfold eF eV kxC9
      dsimp only
      simp only [iN_lit]
      simp (disch := first | omega | assumption | (simp (disch := omega) only [iN_lit, iN_add, iN_mul, iN_pred, iN_pred', iN_lt, iN_le, iN_eq, iN_nat, nlt_t, nlt_f, nle_t, nle_f, neq_t, neq_f, List.length_nil, List.length_cons, or_false, false_or, or_self, not_false_eq_true, not_true_eq_false, ↓reduceIte, if_true, if_false, Bool.false_eq_true, Nat.reduceAdd])) only [fX4_worstHeld, ↓bK_9, ↓bR_35_3, ↓hb_of (c_start), ↓hb_some, ↓bd_some, ↓letE_eq, h_z0, h_z1, h_zi0, h_zi1, ↓hb_of c_start, ↓hb_of a1, iN_lit, iN_add, iN_mul, iN_pred, iN_pred', iN_lt, iN_le, iN_eq, iN_nat, nlt_t, nlt_f, nle_t, nle_f, neq_t, neq_f, List.length_nil, List.length_cons, or_false, false_or, or_self, not_false_eq_true, not_true_eq_false, ↓reduceIte, if_true, if_false, Bool.false_eq_true, Nat.reduceAdd, hlt]
    · dsimp only
      rw [hv]
      exact row_1 rfl
theorem burd_M (mk : MKK A (u1 J 13 (iN 0)) B G P W ru pu) (hT : TS A W) (hp : p < P) (hn : n ≤ 60) :
    qM J B M rdv ru (fX12_burdens 45 (iN p) (iN n)) (eF (bsF (fun g => hdB (A 28) p g) (buS A pu G W p n) G)) ((bsF (fun g => hdB (A 28) p g) (buS A pu G W p n) G).map (fun f => [(buS A pu G W p n f).toInt64])) := by
  intro I E L pr ot T
  have h8 := mk.1.2.2.2.1
  have h6 := mk.1.2.2.2.2.1
  have hz := mk.2.2.2.1
  have hc := mk.2.2.2.2
  obtain ⟨cc, hcc⟩ : ∃ cc, cc = (fun g => hdB (A 28) p g) := ⟨_, rfl⟩
  obtain ⟨v, hv⟩ : ∃ v, v = buS A pu G W p n := ⟨_, rfl⟩
  have hcg : ∀ g, hdB (A 28) p g = cc g := fun g => by rw [hcc]
  rw [← hcc, ← hv]
  have key := lp_k (fun (kx : Int32 → Int32 → PH → Option (Int32 × PH)) n' k (q : (Nat → Int32) × (Nat → Nat → Int32) × Value) => fX12_burdens_L34 45 (iN p) (iN n) kx n' (eF (bsF cc v k)) (eV v (bsF cc v k)) (iN k) (encC I E L pr ot (encR (q.1) (q.2.1) M (q.2.2) ru T))) (fun kx q => kx (eF (bsF cc v G)) (eV v (bsF cc v G)) (encC I E L pr ot (encR (q.1) (q.2.1) M (q.2.2) ru T))) (fun k q => frJ (u1 J 13 (iN 0)) q.1 ∧ frRB B q.2.1) G
    (fun k q hk hi => by
      obtain ⟨J1, B1, rdv1⟩ := q
      obtain ⟨i1, i2⟩ := hi
      dsimp only at i1 i2
      have hG : J1 1 = iN G := (i1.rj 1 (by omega)).trans mk.1.1
      have e0 : B1 0 = B 0 := i2 0 (by omega)
      have f2 := hc.has (show p < 6 by omega) (show k < 8 by omega)
      rw [hcg] at f2
      cases hb : cc k with
      | false =>
        rw [hb] at f2
        refine ⟨(J1, B1, rdv1), ⟨i1, i2⟩, fun kx n' => ?_⟩
        rw [bsF_n hb]
        dsimp only
        simp (disch := first | omega | assumption | (simp (disch := omega) only [iN_lit, iN_add, iN_mul, iN_pred, iN_pred', iN_lt, iN_le, iN_eq, iN_nat, nlt_t, nlt_f, nle_t, nle_f, neq_t, neq_f, List.length_nil, List.length_cons, or_false, false_or, or_self, not_false_eq_true, not_true_eq_false, ↓reduceIte, if_true, if_false, Bool.false_eq_true, Nat.reduceAdd])) only [fX12_burdens_L34, ↓brK, ↓brR_0, ↓brA_0, ↓brS_0, ↓brR_29, ↓brA_29, ↓brS_29, ↓brG_1, fX12_burdens_J145_34, fX12_burdens_J138_34, ↓hb_of (has_y _), ↓hb_of (has_n _), ↓hb_of (r_layT), ↓hb_of (r_layS), ↓hb_of (r_layU _), ↓hb_of (r_layV _), ↓hb_of (r_layK _), ↓hb_of (r_goBack _ _ _), ↓hb_of (r_had _ _ _ _ _), ↓hb_of (c_bitCount), ↓hb_some, ↓bd_some, ↓letE_eq, h_z0, h_z1, h_zi0, h_zi1, iN_lit, iN_add, iN_mul, iN_pred, iN_pred', iN_lt, iN_le, iN_eq, iN_nat, nlt_t, nlt_f, nle_t, nle_f, neq_t, neq_f, List.length_nil, List.length_cons, or_false, false_or, or_self, not_false_eq_true, not_true_eq_false, ↓reduceIte, if_true, if_false, Bool.false_eq_true, Nat.reduceAdd, hG, e0]
      | true =>
        rw [hb] at f2
        obtain ⟨X, l1, l2, l3⟩ := mk.layQ (I := I) (E := E) (L := L) (pr := pr) (ot := ot) (J' := J1) (M := M) (rdv' := rdv1) (T := T) i2
        have b1 := r_goBack (I := I) (E := E) (L := L) (pr := pr) (ot := ot) (J := J1) (B := u1 B1 29 X) (M := M) (rdv := rdv1) (ru := ru) (T := T) (oa := 61) (p := p) (g := k) (Or.inr rfl) (by omega) (by omega)
        have b2 : (u1 B1 29 X) (fb 61) = X := by rw [fb_61, u1_eq, if_pos rfl]
        rw [b2, fb_61, u1_u1] at b1
        have hzt : OK G P (tbZ (A 28) p k) := hz.tb h8 h6 hp hk
        obtain ⟨J2, B2, rdv2, g1, -, g2, g3, g4⟩ := mk.alones (I := I) (E := E) (L := L) (pr := pr) (ot := ot) (J' := J1) (B' := u1 B1 29 (tbA X p k)) (M := M) (rdv' := rdv1) (T := T) (n := n) i1 (i2.trans frRB.lay) (by rw [u1_eq, if_pos rfl]; exact l2.tb (by omega) (by omega)) hzt hp (by omega)
        have g5 := mk.had (I := I) (E := E) (L := L) (pr := pr) (ot := ot) (M := M) (rdv' := rdv2) (T := T) g2.rj g3 g4 (hzt.ps h8 (by omega) n) hp
        have ag : agr p (tbZ (A 28) p k) (upd (A 28) (32 + p * 8 + k) (-1)) := ⟨fun j hj => by
          unfold blk at hj
          unfold tbZ
          rw [upd_ne (by omega)], by unfold tbZ; rw [upd_ne (by omega)]⟩
        have hvk : waS A (psZ A pu G p (tbZ (A 28) p k) n) W p = v k := by
          rw [hv]
          exact waS_agr (psZ_agr ag h8 (by omega) n).hu hT
        rw [hvk] at g5
        refine ⟨(J2, B2, rdv2), ⟨g2, g3⟩, fun kx n' => ?_⟩
        dsimp only
        cases ho : bsF cc v k with
        | none =>
          rw [bsF_0 hb ho]
          unfold eF eV
          simp (disch := first | omega | assumption | (simp (disch := omega) only [iN_lit, iN_add, iN_mul, iN_pred, iN_pred', iN_lt, iN_le, iN_eq, iN_nat, nlt_t, nlt_f, nle_t, nle_f, neq_t, neq_f, List.length_nil, List.length_cons, or_false, false_or, or_self, not_false_eq_true, not_true_eq_false, ↓reduceIte, if_true, if_false, Bool.false_eq_true, Nat.reduceAdd])) only [fX12_burdens_L34, ↓brK, ↓brR_0, ↓brA_0, ↓brS_0, ↓brR_29, ↓brA_29, ↓brS_29, ↓brG_1, fX12_burdens_J145_34, fX12_burdens_J138_34, ↓hb_of (has_y _), ↓hb_of (has_n _), ↓hb_of (c_bitCount), ↓hb_some, ↓bd_some, ↓letE_eq, h_z0, h_z1, h_zi0, h_zi1, ↓hb_of l1, ↓hb_of b1, ↓hb_of g5, iN_lit, iN_add, iN_mul, iN_pred, iN_pred', iN_lt, iN_le, iN_eq, iN_nat, nlt_t, nlt_f, nle_t, nle_f, neq_t, neq_f, List.length_nil, List.length_cons, or_false, false_or, or_self, not_false_eq_true, not_true_eq_false, ↓reduceIte, if_true, if_false, Bool.false_eq_true, Nat.reduceAdd, hG, e0, g1]
        | some f =>
          have hf := bsF_lt k f ho
          have hne : (iN f = -iN 2) = False := ne_m (by omega) (by decide) (by decide)
          by_cases hlt : bc (v f) < bc (v k)
          · rw [bsF_y hb ho hlt]
            unfold eF eV
            simp (disch := first | omega | assumption | (simp (disch := omega) only [iN_lit, iN_add, iN_mul, iN_pred, iN_pred', iN_lt, iN_le, iN_eq, iN_nat, nlt_t, nlt_f, nle_t, nle_f, neq_t, neq_f, List.length_nil, List.length_cons, or_false, false_or, or_self, not_false_eq_true, not_true_eq_false, ↓reduceIte, if_true, if_false, Bool.false_eq_true, Nat.reduceAdd])) only [fX12_burdens_L34, ↓brK, ↓brR_0, ↓brA_0, ↓brS_0, ↓brR_29, ↓brA_29, ↓brS_29, ↓brG_1, fX12_burdens_J145_34, fX12_burdens_J138_34, ↓hb_of (has_y _), ↓hb_of (has_n _), ↓hb_of (c_bitCount), ↓hb_some, ↓bd_some, ↓letE_eq, h_z0, h_z1, h_zi0, h_zi1, ↓hb_of l1, ↓hb_of b1, ↓hb_of g5, ↓hb_of c_bitCount, iN_lit, iN_add, iN_mul, iN_pred, iN_pred', iN_lt, iN_le, iN_eq, iN_nat, nlt_t, nlt_f, nle_t, nle_f, neq_t, neq_f, List.length_nil, List.length_cons, or_false, false_or, or_self, not_false_eq_true, not_true_eq_false, ↓reduceIte, if_true, if_false, Bool.false_eq_true, Nat.reduceAdd, hG, e0, g1, hne, hlt]
          · rw [bsF_f hb ho hlt]
            unfold eF eV
            simp (disch := first | omega | assumption | (simp (disch := omega) only [iN_lit, iN_add, iN_mul, iN_pred, iN_pred', iN_lt, iN_le, iN_eq, iN_nat, nlt_t, nlt_f, nle_t, nle_f, neq_t, neq_f, List.length_nil, List.length_cons, or_false, false_or, or_self, not_false_eq_true, not_true_eq_false, ↓reduceIte, if_true, if_false, Bool.false_eq_true, Nat.reduceAdd])) only [fX12_burdens_L34, ↓brK, ↓brR_0, ↓brA_0, ↓brS_0, ↓brR_29, ↓brA_29, ↓brS_29, ↓brG_1, fX12_burdens_J145_34, fX12_burdens_J138_34, ↓hb_of (has_y _), ↓hb_of (has_n _), ↓hb_of (c_bitCount), ↓hb_some, ↓bd_some, ↓letE_eq, h_z0, h_z1, h_zi0, h_zi1, ↓hb_of l1, ↓hb_of b1, ↓hb_of g5, ↓hb_of c_bitCount, iN_lit, iN_add, iN_mul, iN_pred, iN_pred', iN_lt, iN_le, iN_eq, iN_nat, nlt_t, nlt_f, nle_t, nle_f, neq_t, neq_f, List.length_nil, List.length_cons, or_false, false_or, or_self, not_false_eq_true, not_true_eq_false, ↓reduceIte, if_true, if_false, Bool.false_eq_true, Nat.reduceAdd, hG, e0, g1, hne, hlt])
    (fun q hi kx n' => by
      obtain ⟨J1, B1, rdv1⟩ := q
      have hG : J1 1 = iN G := (hi.1.rj 1 (by omega)).trans mk.1.1
      dsimp only
      simp (disch := first | omega | assumption | (simp (disch := omega) only [iN_lit, iN_add, iN_mul, iN_pred, iN_pred', iN_lt, iN_le, iN_eq, iN_nat, nlt_t, nlt_f, nle_t, nle_f, neq_t, neq_f, List.length_nil, List.length_cons, or_false, false_or, or_self, not_false_eq_true, not_true_eq_false, ↓reduceIte, if_true, if_false, Bool.false_eq_true, Nat.reduceAdd])) only [fX12_burdens_L34, ↓brK, ↓brR_0, ↓brA_0, ↓brS_0, ↓brR_29, ↓brA_29, ↓brS_29, ↓brG_1, fX12_burdens_J145_34, fX12_burdens_J138_34, ↓hb_of (has_y _), ↓hb_of (has_n _), ↓hb_of (r_layT), ↓hb_of (r_layS), ↓hb_of (r_layU _), ↓hb_of (r_layV _), ↓hb_of (r_layK _), ↓hb_of (r_goBack _ _ _), ↓hb_of (r_had _ _ _ _ _), ↓hb_of (c_bitCount), ↓hb_some, ↓bd_some, ↓letE_eq, h_z0, h_z1, h_zi0, h_zi1, iN_lit, iN_add, iN_mul, iN_pred, iN_pred', iN_lt, iN_le, iN_eq, iN_nat, nlt_t, nlt_f, nle_t, nle_f, neq_t, neq_f, List.length_nil, List.length_cons, or_false, false_or, or_self, not_false_eq_true, not_true_eq_false, ↓reduceIte, if_true, if_false, Bool.false_eq_true, Nat.reduceAdd, hG]) G 0 (u1 J 13 (iN 0), B, rdv) (by omega) ⟨frJ.refl, frRB.refl⟩
  obtain ⟨⟨J1, B1, rdv1⟩, ⟨k0, k1⟩, k2⟩ := key
  dsimp only at k0 k1 k2
  have k3 := k2 kxM34b FU (by unfold FU; omega)
  have en : ∀ z, kxM34b (eF (bsF cc v G)) (eV v (bsF cc v G)) (encC I E L pr ot (encR J1 B1 M rdv1 ru T)) = z → fX12_burdens 45 (iN p) (iN n) (encC I E L pr ot (encR J B M rdv ru T)) = z := by
    intro z hz
    unfold fX12_burdens
    rw [brW_13, brK, hb_of (show fX12_isMan 45 (iN p) (encC I E L pr ot (encR (u1 J 13 0) B M rdv ru T)) = some (1, (encC I E L pr ot (encR (u1 J 13 0) B M rdv ru T))) from r_isMan mk.1 hp), if_1z, hb_of (show fX12_in (iN n) (0 : Int32) (60 : Int32) (encC I E L pr ot (encR (u1 J 13 0) B M rdv ru T)) = some (1, (encC I E L pr ot (encR (u1 J 13 0) B M rdv ru T))) from in_y (Nat.zero_le n) hn (by decide)), if_1z]
    exact k3.trans hz
  cases ho : bsF cc v G with
  | none =>
    rw [ho] at en
    exact ⟨J1, B1, M, rdv1, en _ (if_pos rfl), (frRJ.u (by decide)).trans k0.rj, k1, k0 12 (by decide) (by decide) (by decide) (by decide) (by decide), rfl⟩
  | some f =>
    have hf := bsF_lt G f ho
    rw [ho] at en
    have a1 := r_tell (I := I) (E := E) (L := L) (pr := pr) (ot := ot) (J := u1 J1 12 (iN 0)) (B := B1) (M := M) (rdv := rdv1) (ru := ru) (T := T) (v := (v f).toInt64) (n := 0) (by rw [u1_eq, if_pos rfl]) (by decide)
    rw [u1_u1] at a1
    refine ⟨u1 J1 12 (iN 1), B1, vp_updL M 0 (v f).toInt64, rdv1, en _ ?_, ((frRJ.u (by decide)).trans k0.rj).trans (frRJ.u (by decide)), k1, by simp, ?_⟩
    · have hne : (iN f = -iN 2) = False := ne_m (by omega) (by decide) (by decide)
      unfold eF eV kxM34b
      dsimp only
      simp only [iN_lit] at a1 ⊢
      simp (disch := first | omega | assumption | (simp (disch := omega) only [iN_lit, iN_add, iN_mul, iN_pred, iN_pred', iN_lt, iN_le, iN_eq, iN_nat, nlt_t, nlt_f, nle_t, nle_f, neq_t, neq_f, List.length_nil, List.length_cons, or_false, false_or, or_self, not_false_eq_true, not_true_eq_false, ↓reduceIte, if_true, if_false, Bool.false_eq_true, Nat.reduceAdd])) only [fX12_burdens, ↓brK, ↓brW_13, ↓brW_12, ↓hb_of (isM_n _ _), ↓hb_of (r_isMan _ _), ↓hb_of (in_y _ _ _), ↓hb_of (in_n _), ↓hb_some, ↓bd_some, ↓letE_eq, h_z0, h_z1, h_zi0, h_zi1, ↓hb_of a1, iN_lit, iN_add, iN_mul, iN_pred, iN_pred', iN_lt, iN_le, iN_eq, iN_nat, nlt_t, nlt_f, nle_t, nle_f, neq_t, neq_f, List.length_nil, List.length_cons, or_false, false_or, or_self, not_false_eq_true, not_true_eq_false, ↓reduceIte, if_true, if_false, Bool.false_eq_true, Nat.reduceAdd, hne]
    · dsimp only
      rw [hv, u1_eq, if_pos rfl]
      exact row_1 rfl
theorem p_burdens (h : INV s I A L pr ot J B M ru G P W) (x y : Int32) : pairG s I A L pr ot J B M rdv ru out (fX11_burdens 0 x y) (fX12_burdens 45 x y) := by
  have hI := h
  obtain ⟨pu, ck, -, mk⟩ := h.km
  obtain ⟨hF, hM, hpl, hz, hc, hn2, -⟩ := h
  have h6 := hM.2.2.2.2.1
  have hMb : FM A (u1 J 13 (iN 0)) B G P W := mk.1
  rcases arg_lt P (by omega) x with ⟨p, hp, rfl⟩ | hx
  · rcases arg_le 60 (by decide) y with ⟨n, hn, rfl⟩ | hy
    · refine pairG_q hI (fun T => ?_) (burd_M mk hM.TS hp hn)
      obtain ⟨I1, A1, L1, e1, e2⟩ := burd_C (L := L) (ot := ot) (T := T) ck hp hn
      refine ⟨I1, A1, L1, ?_, e2⟩
      unfold fX11_burdens
      rw [bR_0_7, bK_11, hb_of (hasP_y hF hp), if_1z, hb_of (show fX11_within (iN n) (0 : Int32) (60 : Int32) (encC I A L pr ot T) = some (1, (encC I A L pr ot T)) from within_y (Nat.zero_le n) hn (by decide)), if_1z, bR_0_10, bK_35, hb_of e1]
    · refine pairG_q (ans := -1) hI (fun T => qC_no ?_) (qM_no (fun I E L pr ot T => ?_))
      · simp (disch := first | omega | assumption | (simp (disch := omega) only [iN_lit, iN_add, iN_mul, iN_pred, iN_pred', iN_lt, iN_le, iN_eq, iN_nat, nlt_t, nlt_f, nle_t, nle_f, neq_t, neq_f, List.length_nil, List.length_cons, or_false, false_or, or_self, not_false_eq_true, not_true_eq_false, ↓reduceIte, if_true, if_false, Bool.false_eq_true, Nat.reduceAdd])) only [fX11_burdens, ↓bK_11, ↓bK_35, ↓bR_0_7, ↓bR_0_10, ↓hb_of (hasP_y _ _), ↓hb_of (hasP_n _ _), ↓hb_of (within_y _ _ _), ↓hb_of (within_n _), ↓hb_some, ↓bd_some, ↓letE_eq, h_z0, h_z1, h_zi0, h_zi1, ↓hb_of (hasP_y hF hp), iN_lit, iN_add, iN_mul, iN_pred, iN_pred', iN_lt, iN_le, iN_eq, iN_nat, nlt_t, nlt_f, nle_t, nle_f, neq_t, neq_f, List.length_nil, List.length_cons, or_false, false_or, or_self, not_false_eq_true, not_true_eq_false, ↓reduceIte, if_true, if_false, Bool.false_eq_true, Nat.reduceAdd]
      · unfold fX12_burdens
        simp only [iN_lit]
        rw [brW_13, brK, hb_of (r_isMan hMb hp), if_10, hb_of (in_n (show ¬ (iN 0 ≤ y ∧ y ≤ iN 60) from hy)), if_00]
  · refine pairG_q (ans := -1) hI (fun T => qC_no ?_) (qM_no (fun I E L pr ot T => ?_))
    · simp (disch := first | omega | assumption | (simp (disch := omega) only [iN_lit, iN_add, iN_mul, iN_pred, iN_pred', iN_lt, iN_le, iN_eq, iN_nat, nlt_t, nlt_f, nle_t, nle_f, neq_t, neq_f, List.length_nil, List.length_cons, or_false, false_or, or_self, not_false_eq_true, not_true_eq_false, ↓reduceIte, if_true, if_false, Bool.false_eq_true, Nat.reduceAdd])) only [fX11_burdens, ↓bK_11, ↓bK_35, ↓bR_0_7, ↓bR_0_10, ↓hb_of (hasP_y _ _), ↓hb_of (hasP_n _ _), ↓hb_of (within_y _ _ _), ↓hb_of (within_n _), ↓hb_some, ↓bd_some, ↓letE_eq, h_z0, h_z1, h_zi0, h_zi1, ↓hb_of (hasP_n hF hx), iN_lit, iN_add, iN_mul, iN_pred, iN_pred', iN_lt, iN_le, iN_eq, iN_nat, nlt_t, nlt_f, nle_t, nle_f, neq_t, neq_f, List.length_nil, List.length_cons, or_false, false_or, or_self, not_false_eq_true, not_true_eq_false, ↓reduceIte, if_true, if_false, Bool.false_eq_true, Nat.reduceAdd]
    · unfold fX12_burdens
      simp only [iN_lit]
      rw [brW_13, brK, hb_of (isM_n hMb hx), if_00]
end SV
