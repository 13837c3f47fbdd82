/-! SHARES: the model's search -/
def frGS (J J' : Nat → Int32) (B B' : Nat → Nat → Int32) : Prop := (∀ x, x ≠ 44 → J' x = J x) ∧ ∀ x, x ≠ 41 → x ≠ 42 → x ≠ 43 → B' x = B x
def bbN (bb sum : Nat) (m : Nat × (Nat → Int32)) : Nat := if bb ≤ sum + m.1 then sum + m.1 + 1 else bb
def blN (p : Nat) (pre bl : Nat → Int32) (bb sum : Nat) (m : Nat × (Nat → Int32)) (q : Nat) : Int32 := if bb ≤ sum + m.1 then (if q < p then pre q else m.2 q) else bl q
section GM
variable {I A E I' A' : Nat → Nat → Int32} {L L' : Nat → Int64} {pr ot s : Nat} {J J' J0 J1 : Nat → Int32} {B B' B0 B1 : Nat → Nat → Int32} {M M' : Nat → Int64} {rdv rdv' : Value} {ru : Nat} {T : PH} {wi : Nat → Nat → Nat} {wo lf : Nat → Nat} {hd : Nat → Nat → Bool} {g q v w n p r f G P W K X Y st acc j R b k t bb sum sv : Nat} {pre bl Z : Nat → Int32} {m cur : Nat × (Nat → Int32)} {o : Option Nat}
theorem eB_lt {s : Nat} (h1 : bb ≤ 1000) (h2 : s ≤ 1000) : (eB bb < iN s) = (bb ≤ s) := by
  cases bb with
  | zero =>
    have : ∀ s : Fin 1001, ((-1 : Int32) < iN s.val) := by decide +kernel
    exact propext ⟨fun _ => Nat.zero_le _, fun _ => this ⟨s, by omega⟩⟩
  | succ b =>
    show (iN b < iN s) = _
    rw [iN_lt (by omega) (by omega)]
    exact propext ⟨fun h => by omega, fun h => by omega⟩
theorem bb_cmb : bbN (bbN bb sum cur) (sum + sv) m = bbN bb sum (if cur.1 < sv + m.1 then (sv + m.1, Z) else cur) := by
  unfold bbN
  by_cases h : cur.1 < sv + m.1
  · rw [if_pos h]
    dsimp only
    split <;> split <;> split <;> omega
  · rw [if_neg h]
    split <;> split <;> omega
theorem bb_fst : bbN bb (sum + sv) m = bbN bb sum (sv + m.1, Z) := by
  unfold bbN
  dsimp only
  rw [Nat.add_assoc]
theorem bl_fst {x : Int32} : blN (p + 1) (upd pre p x) bl bb (sum + sv) m q = blN p pre bl bb sum (sv + m.1, upd m.2 p x) q := by
  unfold blN
  dsimp only
  rw [Nat.add_assoc]
  by_cases h : bb ≤ sum + (sv + m.1)
  · rw [if_pos h, if_pos h, upd_if, upd_if]
    by_cases e : q = p
    · rw [if_pos (by omega), if_pos e, if_neg (by omega), if_pos e]
    · by_cases e2 : q < p
      · rw [if_pos (by omega), if_neg e, if_pos e2]
      · rw [if_neg (by omega), if_neg e2, if_neg e]
  · rw [if_neg h, if_neg h]
theorem bl_cmb {x : Int32} : blN (p + 1) (upd pre p x) (blN p pre bl bb sum cur) (bbN bb sum cur) (sum + sv) m q = blN p pre bl bb sum (if cur.1 < sv + m.1 then (sv + m.1, upd m.2 p x) else cur) q := by
  rw [bl_fst]
  by_cases h : cur.1 < sv + m.1
  · rw [if_pos h]
    unfold blN bbN
    dsimp only
    by_cases h2 : bb ≤ sum + (sv + m.1)
    · rw [if_pos h2]
      rw [if_pos (by split <;> omega)]
    · rw [if_neg h2, if_neg (by split <;> omega), if_neg (by omega)]
  · rw [if_neg h]
    unfold blN bbN
    dsimp only
    by_cases h2 : bb ≤ sum + cur.1
    · rw [if_pos h2, if_neg (by omega), if_pos h2]
    · rw [if_neg h2, if_neg (by omega), if_neg h2]
theorem mbC_le {ok : Nat → Bool} {val : Nat → Nat} {ln : Nat → Nat → Int32} {b : Nat × (Nat → Int32)} (h1 : b.1 ≤ K) (h2 : ∀ c, val c ≤ K) : ∀ c, (mbC ok val ln b c).1 ≤ K
  | 0 => h1
  | c + 1 => by
    show (if ok c && decide ((mbC ok val ln b c).1 < val c) then (val c, ln c) else mbC ok val ln b c).1 ≤ K
    split
    · exact h2 c
    · exact mbC_le h1 h2 c
theorem mbl_le (h1 : ∀ p, wo p ≤ W) (h2 : ∀ p g, wi p g ≤ W) : ∀ r p lf, (mbl wo wi hd G r p lf).1 ≤ r * W
  | 0, _, _ => Nat.zero_le _
  | r + 1, p, lf => by
    rw [Nat.add_mul, Nat.one_mul]
    refine mbC_le (by have := mbl_le h1 h2 r (p + 1) lf; have := h1 p; show wo p + _ ≤ _; omega) (fun c => ?_) G
    have := mbl_le h1 h2 r (p + 1) (dcL lf c)
    have := h2 p c
    show wi p c + _ ≤ _
    omega
/-- what stands at the start of the search -/
def GS (J0 : Nat → Int32) (B0 : Nat → Nat → Int32) (wo : Nat → Nat) (wi : Nat → Nat → Nat) (hd : Nat → Nat → Bool) (G P W : Nat) : Prop := J0 1 = iN G ∧ J0 2 = iN P ∧ J0 3 = iN W ∧ G ≤ 8 ∧ P ≤ 6 ∧ W ≤ 6 ∧ (∀ p k, p < P → k < G → hasB (B0 0 (32 + p)) k = hd p k) ∧ (∀ p g, p < P → g < G → bc (B0 40 (9 * p + g)) = iN (wi p g)) ∧ (∀ p, p < P → bc (B0 40 (9 * p + 8)) = iN (wo p)) ∧ (∀ p, wo p ≤ W) ∧ ∀ p g, wi p g ≤ W
/-- what stands within it -/
def GT (J0 : Nat → Int32) (B0 : Nat → Nat → Int32) (G P p : Nat) (lf : Nat → Nat) (pre bl : Nat → Int32) (bb : Nat) (J : Nat → Int32) (B : Nat → Nat → Int32) : Prop := frGS J0 J B0 B ∧ (∀ g, g < G → B 43 g = iN (lf g)) ∧ (∀ q, q < p → B 41 q = pre q) ∧ J 44 = eB bb ∧ ∀ q, q < P → B 42 q = bl q
def GOr (rdv : Value) (ru : Nat) (T : PH) (I E : Nat → Nat → Int32) (L : Nat → Int64) (pr ot : Nat) (M : Nat → Int64) (J0 : Nat → Int32) (B0 : Nat → Nat → Int32) (wo : Nat → Nat) (wi : Nat → Nat → Nat) (hd : Nat → Nat → Bool) (G P W r : Nat) : Prop :=
  ∀ p sum lf bb bl pre J B, p + r = P → sum ≤ p * W → bb ≤ 1000 → (∀ g, lf g < 1000) → GT J0 B0 G P p lf pre bl bb J B → ∃ J' B', (∀ f, r < f → rX12_goShares f 45 (iN p) (iN sum) (encC I E L pr ot (encR J B M rdv ru T)) = some ((), (encC I E L pr ot (encR J' B' M rdv ru T)))) ∧ GT J0 B0 G P p lf pre (blN p pre bl bb sum (mbl wo wi hd G r p lf)) (bbN bb sum (mbl wo wi hd G r p lf)) J' B'
theorem go_end (gs : GS J0 B0 wo wi hd G P W) : GOr rdv ru T I E L pr ot M J0 B0 wo wi hd G P W 0 := by
  obtain ⟨hG, hP, hW, h8, h6, h7, hh, hwi, hwo, lwo, lwi⟩ := gs
  intro p sum lf bb bl pre J B hp hs hb hl ⟨⟨t1, t1'⟩, t2, t3, t4, t5⟩
  have ep : p = P := hp
  subst ep
  have hs2 : sum ≤ 36 := Nat.le_trans hs (by have := Nat.mul_le_mul h6 h7; omega)
  have e1 : J 1 = iN G := (t1 1 (by decide)).trans hG
  have e2 : J 2 = iN p := (t1 2 (by decide)).trans hP
  have e3 : J 3 = iN W := (t1 3 (by decide)).trans hW
  have em : (mbl wo wi hd G 0 p lf).1 = 0 := rfl
  have z1 : iN p - iN p = iN 0 := by rw [iN_sub (Nat.le_refl _), Nat.sub_self]
  have z2 : iN 0 * iN W = iN 0 := by rw [iN_mul, Nat.zero_mul]
  by_cases hc : bb ≤ sum
  · have n1 : (eB bb < iN (sum + 0)) = True := by rw [eB_lt (by omega) (by omega)]; exact eq_true hc
    have key := lp_k (fun (rG : Nat → Int32 → Int32 → PH → Option (Unit × PH)) n' k (Z : Nat → Int32) => fX12_goShares_L36 rG 45 (fun h7 => some ((), h7)) n' (iN k) (encC I E L pr ot (encR (u1 J 44 (iN sum)) (u1 B 42 Z) M rdv ru T))) (fun _ Z => some ((), (encC I E L pr ot (encR (u1 J 44 (iN sum)) (u1 B 42 Z) M rdv ru T)))) (fun k Z => ∀ q, q < k → Z q = B 41 q) p
      (fun k Z hk hi => by
        have hz : u1 B 42 Z 42 = Z := u1_at
        have h41 : u1 B 42 Z 41 = B 41 := u1_o (by decide)
        have hj : u1 J 44 (iN sum) 2 = iN p := (u1_o (by decide)).trans e2
        refine ⟨upd Z k (B 41 k), fun q hq => ?_, fun _ n' => ?_⟩
        · rw [upd_if]
          by_cases e : q = k
          · rw [if_pos e, e]
          · rw [if_neg e]; exact hi q (by omega)
        · simp (disch := first | omega | assumption | (simp (disch := omega) only [iN_lit, iN_add, iN_mul, iN_pred, iN_pred', iN_lt, iN_le, iN_eq, iN_nat, nlt_t, nlt_f, nle_t, nle_f, neq_t, neq_f, List.length_nil, List.length_cons, or_false, false_or, or_self, not_false_eq_true, not_true_eq_false, ↓reduceIte, if_true, if_false, Bool.false_eq_true, Nat.reduceAdd])) only [fX12_goShares_L36, ↓brR_42, ↓brA_42, ↓brS_42, ↓brR_41, ↓brA_41, ↓brS_41, ↓brG_2, fX12_goShares_J158_65, fX12_goShares_J128_65, ↓brK, ↓brR_43, ↓brA_43, ↓brS_43, fX12_goShares_J106_65, ↓hb_some, ↓bd_some, ↓letE_eq, h_z0, h_z1, h_zi0, h_zi1, iN_lit, iN_add, iN_mul, iN_pred, iN_pred', iN_lt, iN_le, iN_eq, iN_nat, nlt_t, nlt_f, nle_t, nle_f, neq_t, neq_f, List.length_nil, List.length_cons, or_false, false_or, or_self, not_false_eq_true, not_true_eq_false, ↓reduceIte, if_true, if_false, Bool.false_eq_true, Nat.reduceAdd, hj, hz, h41, u1_u1])
      (fun Z hi _ n' => by
        have hj : u1 J 44 (iN sum) 2 = iN p := (u1_o (by decide)).trans e2
        simp (disch := first | omega | assumption | (simp (disch := omega) only [iN_lit, iN_add, iN_mul, iN_pred, iN_pred', iN_lt, iN_le, iN_eq, iN_nat, nlt_t, nlt_f, nle_t, nle_f, neq_t, neq_f, List.length_nil, List.length_cons, or_false, false_or, or_self, not_false_eq_true, not_true_eq_false, ↓reduceIte, if_true, if_false, Bool.false_eq_true, Nat.reduceAdd])) only [fX12_goShares_L36, ↓brR_42, ↓brA_42, ↓brS_42, ↓brR_41, ↓brA_41, ↓brS_41, ↓brG_2, fX12_goShares_J158_65, fX12_goShares_J128_65, ↓brK, ↓brR_43, ↓brA_43, ↓brS_43, fX12_goShares_J106_65, ↓hb_some, ↓bd_some, ↓letE_eq, h_z0, h_z1, h_zi0, h_zi1, iN_lit, iN_add, iN_mul, iN_pred, iN_pred', iN_lt, iN_le, iN_eq, iN_nat, nlt_t, nlt_f, nle_t, nle_f, neq_t, neq_f, List.length_nil, List.length_cons, or_false, false_or, or_self, not_false_eq_true, not_true_eq_false, ↓reduceIte, if_true, if_false, Bool.false_eq_true, Nat.reduceAdd, hj]) p 0 (B 42) (by omega) (fun q hq => absurd hq (Nat.not_lt_zero _))
    obtain ⟨Z, k1, k2⟩ := key
    have k3 := fun rG => k2 rG FU (by unfold FU; omega)
    rw [u1_self] at k3
    refine ⟨u1 J 44 (iN sum), u1 B 42 Z, fun f hf => ?_, ⟨fun x hx => by rw [u1_o hx]; exact t1 x hx, fun x x1 x2 x3 => by rw [u1_o x2]; exact t1' x x1 x2 x3⟩, fun g hg => by rw [u1_o (by decide)]; exact t2 g hg, fun q hq => by rw [u1_o (by decide)]; exact t3 q hq, ?_, fun q hq => ?_⟩
    · obtain ⟨f', rfl⟩ : ∃ f', f = f' + 1 := ⟨f - 1, by omega⟩
      show fX12_goShares (rX12_goShares f') 45 (iN p) (iN sum) (encC I E L pr ot (encR J B M rdv ru T)) = _
      have k4 : fX12_goShares_L36 (rX12_goShares f') 45 (fun h7 => some ((), h7)) FU (iN 0) (encC I E L pr ot (encR (u1 J 44 (iN sum)) B M rdv ru T)) = some ((), (encC I E L pr ot (encR (u1 J 44 (iN sum)) (u1 B 42 Z) M rdv ru T))) := by
        exact k3 _
      simp (disch := first | omega | assumption | (simp (disch := omega) only [iN_lit, iN_add, iN_mul, iN_pred, iN_pred', iN_lt, iN_le, iN_eq, iN_nat, nlt_t, nlt_f, nle_t, nle_f, neq_t, neq_f, List.length_nil, List.length_cons, or_false, false_or, or_self, not_false_eq_true, not_true_eq_false, ↓reduceIte, if_true, if_false, Bool.false_eq_true, Nat.reduceAdd])) only [fX12_goShares, ↓brG_2, ↓brG_3, ↓brG_44, ↓brW_44, fX12_goShares_J158_65, fX12_goShares_J128_65, ↓brK, ↓brR_43, ↓brA_43, ↓brS_43, fX12_goShares_J106_65, ↓brR_41, ↓brA_41, ↓brS_41, ↓hb_some, ↓bd_some, ↓letE_eq, h_z0, h_z1, h_zi0, h_zi1, iN_lit, iN_add, iN_mul, iN_pred, iN_pred', iN_lt, iN_le, iN_eq, iN_nat, nlt_t, nlt_f, nle_t, nle_f, neq_t, neq_f, List.length_nil, List.length_cons, or_false, false_or, or_self, not_false_eq_true, not_true_eq_false, ↓reduceIte, if_true, if_false, Bool.false_eq_true, Nat.reduceAdd, e2, e3, t4, z1, z2, n1, k4]
    · rw [u1_at]
      unfold bbN
      rw [em, Nat.add_zero, if_pos hc]; rfl
    · rw [u1_at, k1 q hq]
      unfold blN
      rw [em, Nat.add_zero, if_pos hc, if_pos hq]
      exact t3 q hq
  · have n1 : (eB bb < iN (sum + 0)) = False := by rw [eB_lt (by omega) (by omega)]; exact eq_false hc
    refine ⟨J, B, fun f hf => ?_, ⟨t1, t1'⟩, t2, t3, ?_, fun q hq => ?_⟩
    · obtain ⟨f', rfl⟩ : ∃ f', f = f' + 1 := ⟨f - 1, by omega⟩
      show fX12_goShares (rX12_goShares f') 45 (iN p) (iN sum) (encC I E L pr ot (encR J B M rdv ru T)) = _
      simp (disch := first | omega | assumption | (simp (disch := omega) only [iN_lit, iN_add, iN_mul, iN_pred, iN_pred', iN_lt, iN_le, iN_eq, iN_nat, nlt_t, nlt_f, nle_t, nle_f, neq_t, neq_f, List.length_nil, List.length_cons, or_false, false_or, or_self, not_false_eq_true, not_true_eq_false, ↓reduceIte, if_true, if_false, Bool.false_eq_true, Nat.reduceAdd])) only [fX12_goShares, ↓brG_2, ↓brG_3, ↓brG_44, ↓brW_44, fX12_goShares_J158_65, fX12_goShares_J128_65, ↓brK, ↓brR_43, ↓brA_43, ↓brS_43, fX12_goShares_J106_65, ↓brR_41, ↓brA_41, ↓brS_41, ↓hb_some, ↓bd_some, ↓letE_eq, h_z0, h_z1, h_zi0, h_zi1, iN_lit, iN_add, iN_mul, iN_pred, iN_pred', iN_lt, iN_le, iN_eq, iN_nat, nlt_t, nlt_f, nle_t, nle_f, neq_t, neq_f, List.length_nil, List.length_cons, or_false, false_or, or_self, not_false_eq_true, not_true_eq_false, ↓reduceIte, if_true, if_false, Bool.false_eq_true, Nat.reduceAdd, e2, e3, t4, z1, z2, n1]
    · unfold bbN
      rw [em, Nat.add_zero, if_neg hc]; exact t4
    · unfold blN
      rw [em, Nat.add_zero, if_neg hc]; exact t5 q hq
end GM
