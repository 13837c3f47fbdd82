/-! SHARES: the model's question -/
def lfN (A : Nat → Nat → Int32) (g : Nat) : Nat := if g < 8 then (A 28 g).toNatClampNeg else 0
section GQ
variable {I A E I' A' : Nat → Nat → Int32} {L L' : Nat → Int64} {pr ot s : Nat} {J J' J0 J1 : Nat → Int32} {B B' B0 B1 : Nat → Nat → Int32} {M M' : Nat → Int64} {rdv rdv' : Value} {ru : Nat} {T : PH} {g q v w n p r f G P W K X Y st acc j R b k t bb sum sv : Nat} {pu : (Nat → Int32) → Int32} {e : Nat → Int32}
theorem lf_28 (hz : OK G P (A 28)) (hg : g < 8) : A 28 g = iN (lfN A g) ∧ lfN A g ≤ 99 := by
  have h := hz.2.1 g hg
  unfold lfN
  rw [if_pos hg]
  rcases arg_le 99 (by decide) (A 28 g) with ⟨k, hk, e⟩ | h2
  · rw [e, iN_nat (by omega)]
    exact ⟨rfl, hk⟩
  · exact absurd h h2
theorem lf_lt (hz : OK G P (A 28)) : lfN A g < 1000 := by
  by_cases h : g < 8
  · have := (lf_28 hz h).2; omega
  · unfold lfN; rw [if_neg h]; omega
theorem ga_h (hh : hdB (A 28) p g = true) : gaN A pu G W n p g = 0 := by
  unfold gaN
  rw [hh, show (!true) = false from rfl, Bool.and_false]
  rfl
theorem ga_n (hz : OK G P (A 28)) (hh : hdB (A 28) p g = false) (hl : 0 < lfN A g) : gaN A pu G W n p g = wiN A pu G W n p g - woN A pu G W n p := by
  have hg : g < 8 := by
    by_cases h : g < 8
    · exact h
    · unfold lfN at hl; rw [if_neg h] at hl; omega
  obtain ⟨h1, h2⟩ := lf_28 hz hg
  unfold gaN
  rw [hh, h1, decide_eq_true (show (0 : Int32) < iN (lfN A g) by rw [show (0 : Int32) = iN 0 from rfl, iN_lt (by omega) (by omega)]; exact hl)]
  rfl
theorem sv_M (mk : MKK A J B G P W ru pu) (hn : n ≤ 20) (i1 : frJ J J') (i2 : frRB B B') :
    ∃ J2 B2 rdv2, fX12_layServed 45 (iN n) (encC I E L pr ot (encR J' B' M rdv' ru T)) = some ((), (encC I E L pr ot (encR J2 B2 M rdv2 ru T))) ∧ frJ J J2 ∧ frRB B B2 ∧ (∀ p g, p < P → g < G → B2 40 (9 * p + g) = svT A pu G W n p g) ∧ ∀ p, p < P → B2 40 (9 * p + 8) = wwS A pu G W p 0 n (A 28) := by
  have h8 := mk.1.2.2.2.1
  have h6 := mk.1.2.2.2.2.1
  have key := lp_k (fun (_ : Unit) n' k (q : (Nat → Int32) × (Nat → Nat → Int32) × Value) => fX12_layServed_L2 45 (iN n) (fun h1 => some ((), h1)) n' (iN k) (encC I E L pr ot (encR (q.1) (q.2.1) M (q.2.2) ru T))) (fun _ q => some ((), (encC I E L pr ot (encR (q.1) (q.2.1) M (q.2.2) ru T)))) (fun k q => frJ J q.1 ∧ frRB B q.2.1 ∧ (∀ p g, p < k → g < G → q.2.1 40 (9 * p + g) = svT A pu G W n p g) ∧ ∀ p, p < k → q.2.1 40 (9 * p + 8) = wwS A pu G W p 0 n (A 28)) P
    (fun k q hk hi => by
      obtain ⟨J1, B1, rdv1⟩ := q
      obtain ⟨j1, j2, j3, j4⟩ := hi
      dsimp only at j1 j2 j3 j4
      have hP : J1 2 = iN P := (j1.rj 2 (by omega)).trans mk.1.2.1
      obtain ⟨J2, B2, rdv2, f1, f2, f3, f4, f5⟩ := cov12_M (I := I) (E := E) (L := L) (pr := pr) (ot := ot) (M := M) (rdv' := rdv1) (T := T) (n := n) mk hk hn j1 j2
      obtain ⟨J3, B3, rdv3, g1, g2, g3, g4⟩ := mk.with2 (I := I) (E := E) (L := L) (pr := pr) (ot := ot) (M := M) (rdv' := rdv2) (T := T) (m := 0) (n := n) f2 f3 hk (by omega)
      have e40 : B3 40 = B2 40 := g4 40 (by decide) (by decide) (by decide)
      refine ⟨(J3, u1 B3 40 (upd (B3 40) (9 * k + 8) (wwS A pu G W k 0 n (A 28))), rdv3), ⟨g2, g3.w40, fun p g hp hg => ?_, fun p hp => ?_⟩, fun _ n' => ?_⟩
      · dsimp only
        rw [u1_eq, if_pos rfl, upd_if, if_neg (by omega), e40]
        by_cases h : p = k
        · rw [h]; exact f5 g hg
        · rw [f4 _ (by omega)]; exact j3 p g (by omega) hg
      · dsimp only
        rw [u1_eq, if_pos rfl, upd_if]
        by_cases h : p = k
        · rw [if_pos (by omega), h]
        · rw [if_neg (by omega), e40, f4 _ (by omega)]; exact j4 p (by omega)
      · dsimp only
        simp only [iN_lit] at f1 g1
        simp (disch := first | omega | assumption | (simp (disch := omega) only [iN_lit, iN_add, iN_mul, iN_pred, iN_pred', iN_lt, iN_le, iN_eq, iN_nat, nlt_t, nlt_f, nle_t, nle_f, neq_t, neq_f, List.length_nil, List.length_cons, or_false, false_or, or_self, not_false_eq_true, not_true_eq_false, ↓reduceIte, if_true, if_false, Bool.false_eq_true, Nat.reduceAdd])) only [fX12_layServed_L2, ↓brK, ↓brR_40, ↓brA_40, ↓brS_40, ↓brG_2, fX12_layServed_J59_12, ↓hb_some, ↓bd_some, ↓letE_eq, h_z0, h_z1, h_zi0, h_zi1, ↓hb_of g1, iN_lit, iN_add, iN_mul, iN_pred, iN_pred', iN_lt, iN_le, iN_eq, iN_nat, nlt_t, nlt_f, nle_t, nle_f, neq_t, neq_f, List.length_nil, List.length_cons, or_false, false_or, or_self, not_false_eq_true, not_true_eq_false, ↓reduceIte, if_true, if_false, Bool.false_eq_true, Nat.reduceAdd, hP, f1])
    (fun q hi _ n' => by
      obtain ⟨J1, B1, rdv1⟩ := q
      have hP : J1 2 = iN P := (hi.1.rj 2 (by omega)).trans mk.1.2.1
      dsimp only
      simp (disch := first | omega | assumption | (simp (disch := omega) only [iN_lit, iN_add, iN_mul, iN_pred, iN_pred', iN_lt, iN_le, iN_eq, iN_nat, nlt_t, nlt_f, nle_t, nle_f, neq_t, neq_f, List.length_nil, List.length_cons, or_false, false_or, or_self, not_false_eq_true, not_true_eq_false, ↓reduceIte, if_true, if_false, Bool.false_eq_true, Nat.reduceAdd])) only [fX12_layServed_L2, ↓brK, ↓brR_40, ↓brA_40, ↓brS_40, ↓brG_2, fX12_layServed_J59_12, ↓hb_some, ↓bd_some, ↓letE_eq, h_z0, h_z1, h_zi0, h_zi1, iN_lit, iN_add, iN_mul, iN_pred, iN_pred', iN_lt, iN_le, iN_eq, iN_nat, nlt_t, nlt_f, nle_t, nle_f, neq_t, neq_f, List.length_nil, List.length_cons, or_false, false_or, or_self, not_false_eq_true, not_true_eq_false, ↓reduceIte, if_true, if_false, Bool.false_eq_true, Nat.reduceAdd, hP]) P 0 (J', B', rdv') (by omega) ⟨i1, i2, fun p g hp _ => absurd hp (Nat.not_lt_zero _), fun p hp => absurd hp (Nat.not_lt_zero _)⟩
  obtain ⟨⟨J2, B2, rdv2⟩, ⟨k1, k2, k3, k5⟩, k4⟩ := key
  exact ⟨J2, B2, rdv2, k4 () FU (by unfold FU; omega), k1, k2, k3, k5⟩
theorem sh24_M (hG : J 1 = iN G) (h8 : G ≤ 8) (kx : PH → Option (Int32 × PH)) : ∃ Z, fX12_shares_L24 45 kx FU (iN 0) (encC I E L pr ot (encR J B M rdv ru T)) = kx (encC I E L pr ot (encR J (u1 B 43 Z) M rdv ru T)) ∧ ∀ g, g < G → Z g = B 0 g := by
  have key := lp_k (fun (_ : Unit) n' k (Z : Nat → Int32) => fX12_shares_L24 45 kx n' (iN k) (encC I E L pr ot (encR J (u1 B 43 Z) M rdv ru T))) (fun _ Z => kx (encC I E L pr ot (encR J (u1 B 43 Z) M rdv ru T))) (fun k Z => ∀ g, g < k → Z g = B 0 g) G
    (fun k Z hk hi => by
      have hz : u1 B 43 Z 43 = Z := u1_at
      have h0 : u1 B 43 Z 0 = B 0 := u1_o (by decide)
      refine ⟨upd Z k (B 0 k), fun g hg => ?_, fun _ n' => ?_⟩
      · rw [upd_if]
        by_cases e : g = k
        · rw [if_pos e, e]
        · rw [if_neg e]; exact hi g (by omega)
      · simp (disch := first | omega | assumption | (simp (disch := omega) only [iN_lit, iN_add, iN_mul, iN_pred, iN_pred', iN_lt, iN_le, iN_eq, iN_nat, nlt_t, nlt_f, nle_t, nle_f, neq_t, neq_f, List.length_nil, List.length_cons, or_false, false_or, or_self, not_false_eq_true, not_true_eq_false, ↓reduceIte, if_true, if_false, Bool.false_eq_true, Nat.reduceAdd])) only [fX12_shares_L24, ↓brR_43, ↓brA_43, ↓brS_43, ↓brR_0, ↓brA_0, ↓brS_0, ↓brG_1, ↓hb_some, ↓bd_some, ↓letE_eq, h_z0, h_z1, h_zi0, h_zi1, iN_lit, iN_add, iN_mul, iN_pred, iN_pred', iN_lt, iN_le, iN_eq, iN_nat, nlt_t, nlt_f, nle_t, nle_f, neq_t, neq_f, List.length_nil, List.length_cons, or_false, false_or, or_self, not_false_eq_true, not_true_eq_false, ↓reduceIte, if_true, if_false, Bool.false_eq_true, Nat.reduceAdd, hG, hz, h0, u1_u1])
    (fun Z hi _ n' => by
      simp (disch := first | omega | assumption | (simp (disch := omega) only [iN_lit, iN_add, iN_mul, iN_pred, iN_pred', iN_lt, iN_le, iN_eq, iN_nat, nlt_t, nlt_f, nle_t, nle_f, neq_t, neq_f, List.length_nil, List.length_cons, or_false, false_or, or_self, not_false_eq_true, not_true_eq_false, ↓reduceIte, if_true, if_false, Bool.false_eq_true, Nat.reduceAdd])) only [fX12_shares_L24, ↓brR_43, ↓brA_43, ↓brS_43, ↓brR_0, ↓brA_0, ↓brS_0, ↓brG_1, ↓hb_some, ↓bd_some, ↓letE_eq, h_z0, h_z1, h_zi0, h_zi1, iN_lit, iN_add, iN_mul, iN_pred, iN_pred', iN_lt, iN_le, iN_eq, iN_nat, nlt_t, nlt_f, nle_t, nle_f, neq_t, neq_f, List.length_nil, List.length_cons, or_false, false_or, or_self, not_false_eq_true, not_true_eq_false, ↓reduceIte, if_true, if_false, Bool.false_eq_true, Nat.reduceAdd, hG]) G 0 (B 43) (by omega) (fun g hg => absurd hg (Nat.not_lt_zero _))
  obtain ⟨Z, k1, k2⟩ := key
  have k3 := k2 () FU (by unfold FU; omega)
  rw [u1_self] at k3
  exact ⟨Z, k3, k1⟩
theorem sh68_M (hP : J 2 = iN P) (h6 : P ≤ 6) (he : ∀ q, q < P → B 42 q = e q) (kx : PH → Option (Int32 × PH)) : fX12_shares_L68 45 kx FU (iN 0) (encC I E L pr ot (encR (u1 J 12 (iN 0)) B M rdv ru T)) = kx (encC I E L pr ot (encR (u1 J 12 (iN P)) B (vL M e P) rdv ru T)) := by
  exact lp_det (fun n' k (q : (Nat → Int32) × (Nat → Int64)) => fX12_shares_L68 45 kx n' (iN k) (encC I E L pr ot (encR (q.1) B (q.2) rdv ru T))) (fun q => kx (encC I E L pr ot (encR (q.1) B (q.2) rdv ru T))) (fun k => (u1 J 12 (iN k), vL M e k)) P
    (fun k hk n' => by
      have hj : u1 J 12 (iN k) 2 = iN P := (u1_o (by decide)).trans hP
      have f1 := r_tell (I := I) (E := E) (L := L) (pr := pr) (ot := ot) (J := u1 J 12 (iN k)) (B := B) (M := vL M e k) (rdv := rdv) (ru := ru) (T := T) (v := (e k).toInt64) (n := k) u1_at (by omega)
      rw [u1_u1] at f1
      have ev : vL M e (k + 1) = vp_updL (vL M e k) k (e k).toInt64 := rfl
      dsimp only
      rw [ev]
      have hk2 := he k hk
      generalize vp_updL (vL M e k) k (e k).toInt64 = V at f1 ⊢
      generalize vL M e k = V0 at f1 ⊢
      generalize e k = x at f1 hk2
      simp (disch := first | omega | assumption | (simp (disch := omega) only [iN_lit, iN_add, iN_mul, iN_pred, iN_pred', iN_lt, iN_le, iN_eq, iN_nat, nlt_t, nlt_f, nle_t, nle_f, neq_t, neq_f, List.length_nil, List.length_cons, or_false, false_or, or_self, not_false_eq_true, not_true_eq_false, ↓reduceIte, if_true, if_false, Bool.false_eq_true, Nat.reduceAdd])) only [fX12_shares_L68, ↓brK, ↓brR_42, ↓brA_42, ↓brS_42, ↓brG_2, ↓hb_some, ↓bd_some, ↓letE_eq, h_z0, h_z1, h_zi0, h_zi1, ↓hb_of f1, iN_lit, iN_add, iN_mul, iN_pred, iN_pred', iN_lt, iN_le, iN_eq, iN_nat, nlt_t, nlt_f, nle_t, nle_f, neq_t, neq_f, List.length_nil, List.length_cons, or_false, false_or, or_self, not_false_eq_true, not_true_eq_false, ↓reduceIte, if_true, if_false, Bool.false_eq_true, Nat.reduceAdd, hj, hk2])
    (fun n' => by
      have hj : u1 J 12 (iN P) 2 = iN P := (u1_o (by decide)).trans hP
      dsimp only
      simp (disch := first | omega | assumption | (simp (disch := omega) only [iN_lit, iN_add, iN_mul, iN_pred, iN_pred', iN_lt, iN_le, iN_eq, iN_nat, nlt_t, nlt_f, nle_t, nle_f, neq_t, neq_f, List.length_nil, List.length_cons, or_false, false_or, or_self, not_false_eq_true, not_true_eq_false, ↓reduceIte, if_true, if_false, Bool.false_eq_true, Nat.reduceAdd])) only [fX12_shares_L68, ↓brK, ↓brR_42, ↓brA_42, ↓brS_42, ↓brG_2, ↓hb_some, ↓bd_some, ↓letE_eq, h_z0, h_z1, h_zi0, h_zi1, iN_lit, iN_add, iN_mul, iN_pred, iN_pred', iN_lt, iN_le, iN_eq, iN_nat, nlt_t, nlt_f, nle_t, nle_f, neq_t, neq_f, List.length_nil, List.length_cons, or_false, false_or, or_self, not_false_eq_true, not_true_eq_false, ↓reduceIte, if_true, if_false, Bool.false_eq_true, Nat.reduceAdd, hj]) FU (by unfold FU; omega)
theorem sh_M (mk : MKK A (u1 J 13 (iN 0)) B G P W ru pu) (hn : n ≤ 20) :
    qM J B M rdv ru (fX12_shares 45 (iN n)) (iN (sN (woN A pu G W n) P + optR (gaN A pu G W n) G P 0 (lfN A))) (some (rL (lnS (gaN A pu G W n) G P (lfN A)) P)) := by
  intro I E L pr ot T
  have h8 := mk.1.2.2.2.1
  have h6 := mk.1.2.2.2.2.1
  have h7 := mk.1.2.2.2.2.2.1
  have hz := mk.2.2.2.1
  obtain ⟨J2, B2, rdv2, g1, g2, g3, g4, g5⟩ := sv_M (I := I) (E := E) (L := L) (pr := pr) (ot := ot) (M := M) (rdv' := rdv) (T := T) (n := n) mk hn frJ.refl frRB.refl
  have hJ1 : J2 1 = iN G := (g2.rj 1 (by omega)).trans mk.1.1
  have hJ2 : J2 2 = iN P := (g2.rj 2 (by omega)).trans mk.1.2.1
  have hJ3 : J2 3 = iN W := (g2.rj 3 (by omega)).trans mk.1.2.2.1
  have b0 : B2 0 = B 0 := g3 0 (by omega)
  have gs : GS J2 B2 (woN A pu G W n) (wiN A pu G W n) (hdB (A 28)) G P W := by
    refine ⟨hJ1, hJ2, hJ3, h8, h6, h7, fun p k hp hk => ?_, fun p g hp hg => ?_, fun p hp => ?_, fun p => wwN_le, fun p g => wiN_le⟩
    · rw [b0]; exact mk.2.2.2.2.has (show p < 6 by omega) (show k < 8 by omega)
    · rw [g4 p g hp hg]
      unfold svT wiN
      cases hdB (A 28) p g with
      | true => rw [if_pos rfl, if_pos rfl]; decide +kernel
      | false => rw [if_neg (by decide), if_neg (by decide)]; exact bc_ww h7
    · rw [g5 p hp]; exact bc_ww h7
  obtain ⟨Z, z1, z2⟩ := sh24_M (I := I) (E := E) (L := L) (pr := pr) (ot := ot) (M := M) (rdv := rdv2) (ru := ru) (T := T) (B := B2) hJ1 h8 (fun h5 => (h_pv 11 44 h5 45 (.int (-1 : Int32))).bind fun h6 => (h_ck 11 h6 45).bind fun _ => h_bd (rX12_goShares 8 45 (0 : Int32) (0 : Int32) h6) fun _ h7 => (h_pv 11 12 h7 45 (.int (0 : Int32))).bind fun h8 => fX12_shares_L68 45 (fun h9 => (h_gi 11 44 h9 45).bind fun x10 => some (x10, h9)) FU (0 : Int32) h8)
  obtain ⟨J3, B3, k1, ⟨t1, t1'⟩, t2, t3, t4, t5⟩ := go_all (rdv := rdv2) (ru := ru) (T := T) (I := I) (E := E) (L := L) (pr := pr) (ot := ot) (M := M) gs P 0 0 (lfN A) 0 (B2 42) (fun _ => 0) (u1 J2 44 (-1)) (u1 B2 43 Z) (by omega) (Nat.zero_le _) (by omega) (fun g => lf_lt hz) ⟨⟨fun x hx => u1_o hx, fun x _ _ x3 => u1_o x3⟩, fun g hg => by
    rw [u1_at, z2 g hg, b0, mk.2.2.2.2.1 g (by omega)]
    exact (lf_28 hz (by omega)).1, fun q hq => absurd hq (Nat.not_lt_zero _), u1_at, fun q hq => by rw [u1_o (by decide)]⟩
  obtain ⟨m1, m2⟩ := mbl_eq (ga := gaN A pu G W n) (wi := wiN A pu G W n) (wo := woN A pu G W n) (hd := hdB (A 28)) (st := lfN A) (G := G) (fun p g hh => ga_h hh) (fun p g hh hl => ga_n hz hh hl) P 0 (lfN A) (by omega) (fun g hg => hg)
  have ew := woR_s (wo := woN A pu G W n) P 0
  rw [Nat.zero_add] at ew
  have e44 : J3 44 = iN (sN (woN A pu G W n) P + optR (gaN A pu G W n) G P 0 (lfN A)) := by
    rw [t4]
    unfold bbN
    rw [if_pos (Nat.zero_le _), m1, Nat.zero_add, ← ew]
    rfl
  have e42 : ∀ q, q < P → B3 42 q = lnS (gaN A pu G W n) G P (lfN A) q := fun q hq => by
    rw [t5 q hq]
    unfold blN
    rw [if_pos (Nat.zero_le _), if_neg (Nat.not_lt_zero _), m2 q (Nat.zero_le _) (by omega)]
    exact lnR_S P 0 (by omega) q (Nat.zero_le _) hq
  have hP3 : J3 2 = iN P := (t1 2 (by decide)).trans hJ2
  have f68 := sh68_M (I := I) (E := E) (L := L) (pr := pr) (ot := ot) (J := J3) (B := B3) (M := M) (rdv := rdv2) (ru := ru) (T := T) hP3 h6 e42 (fun h9 => (h_gi 11 44 h9 45).bind fun x10 => some (x10, h9))
  have kg : rX12_goShares 8 45 (iN 0) (iN 0) (encC I E L pr ot (encR (u1 J2 44 (-1)) (u1 B2 43 Z) M rdv2 ru T)) = _ := k1 8 (by omega)
  refine ⟨u1 J3 12 (iN P), B3, vL M (lnS (gaN A pu G W n) G P (lfN A)) P, rdv2, ?_, ?_, ?_, ?_, ?_⟩
  · unfold fX12_shares
    rw [brW_13, hb_of (show fX12_in (iN n) (0 : Int32) (20 : Int32) (encC I E L pr ot (encR (u1 J 13 0) B M rdv ru T)) = some (1, (encC I E L pr ot (encR (u1 J 13 0) B M rdv ru T))) from in_y (Nat.zero_le n) hn (by decide)), if_1z, brK, hb_of (show fX12_layServed 45 (iN n) (encC I E L pr ot (encR (u1 J 13 0) B M rdv ru T)) = _ from g1)]
    refine z1.trans ?_
    have e3 : ((h_gi 11 44 (encC I E L pr ot (encR (u1 J3 12 (iN P)) B3 (vL M (lnS (gaN A pu G W n) G P (lfN A)) P) rdv2 ru T)) 45).bind fun x10 => some (x10, (encC I E L pr ot (encR (u1 J3 12 (iN P)) B3 (vL M (lnS (gaN A pu G W n) G P (lfN A)) P) rdv2 ru T)))) = some (iN (sN (woN A pu G W n) P + optR (gaN A pu G W n) G P 0 (lfN A)), (encC I E L pr ot (encR (u1 J3 12 (iN P)) B3 (vL M (lnS (gaN A pu G W n) G P (lfN A)) P) rdv2 ru T))) := by
      have hj : u1 J3 12 (iN P) 44 = iN (sN (woN A pu G W n) P + optR (gaN A pu G W n) G P 0 (lfN A)) := (u1_o (by decide)).trans e44
      generalize sN (woN A pu G W n) P + optR (gaN A pu G W n) G P 0 (lfN A) = x at hj ⊢
      generalize vL M (lnS (gaN A pu G W n) G P (lfN A)) P = V
      simp (disch := first | omega | assumption | (simp (disch := omega) only [iN_lit, iN_add, iN_mul, iN_pred, iN_pred', iN_lt, iN_le, iN_eq, iN_nat, nlt_t, nlt_f, nle_t, nle_f, neq_t, neq_f, List.length_nil, List.length_cons, or_false, false_or, or_self, not_false_eq_true, not_true_eq_false, ↓reduceIte, if_true, if_false, Bool.false_eq_true, Nat.reduceAdd])) only [fX12_shares, ↓brK, ↓brG_44, ↓brW_13, ↓brW_44, ↓brW_12, ↓hb_of (in_y _ _ _), ↓hb_of (in_n _), ↓hb_some, ↓bd_some, ↓letE_eq, h_z0, h_z1, h_zi0, h_zi1, iN_lit, iN_add, iN_mul, iN_pred, iN_pred', iN_lt, iN_le, iN_eq, iN_nat, nlt_t, nlt_f, nle_t, nle_f, neq_t, neq_f, List.length_nil, List.length_cons, or_false, false_or, or_self, not_false_eq_true, not_true_eq_false, ↓reduceIte, if_true, if_false, Bool.false_eq_true, Nat.reduceAdd, hj]
    rw [← e3]
    refine Eq.trans ?_ f68
    have em : ((-1 : Int32)) = -iN 1 := rfl
    rw [em] at kg
    simp (disch := first | omega | assumption | (simp (disch := omega) only [iN_lit, iN_add, iN_mul, iN_pred, iN_pred', iN_lt, iN_le, iN_eq, iN_nat, nlt_t, nlt_f, nle_t, nle_f, neq_t, neq_f, List.length_nil, List.length_cons, or_false, false_or, or_self, not_false_eq_true, not_true_eq_false, ↓reduceIte, if_true, if_false, Bool.false_eq_true, Nat.reduceAdd])) only [fX12_shares, ↓brK, ↓brG_44, ↓brW_13, ↓brW_44, ↓brW_12, ↓hb_of (in_y _ _ _), ↓hb_of (in_n _), ↓hb_some, ↓bd_some, ↓letE_eq, h_z0, h_z1, h_zi0, h_zi1, ↓hb_of kg, iN_lit, iN_add, iN_mul, iN_pred, iN_pred', iN_lt, iN_le, iN_eq, iN_nat, nlt_t, nlt_f, nle_t, nle_f, neq_t, neq_f, List.length_nil, List.length_cons, or_false, false_or, or_self, not_false_eq_true, not_true_eq_false, ↓reduceIte, if_true, if_false, Bool.false_eq_true, Nat.reduceAdd]
  · exact fun x hx => by
      rw [u1_o (by omega), t1 x (by omega), g2.rj x hx]
      exact u1_o (by omega)
  · exact fun x hx => by
      rw [t1' x (by omega) (by omega) (by omega)]
      exact g3 x hx
  · show (rL (lnS (gaN A pu G W n) G P (lfN A)) P).length ≤ 8
    rw [rL_len]; omega
  · rw [u1_at]; exact vL_C P
end GQ
