/-! CALLS: rests -/
def gS (p : Nat → Nat → Bool) (a b : Nat) (s : Nat × List Int64) : Nat × List Int64 :=
  if p a b then (s.1 + 1, if s.1 = 0 then [(iN a).toInt64, (iN b).toInt64] else s.2) else s
def gI (p : Nat → Nat → Bool) (a : Nat) (s : Nat × List Int64) : Nat → Nat × List Int64
  | 0 => s
  | k + 1 => gS p a k (gI p a s k)
def gO (p : Nat → Nat → Bool) (n : Nat) : Nat → Nat × List Int64
  | 0 => (0, [])
  | a + 1 => gI p a (gO p n a) n
theorem qOK.gs {p : Nat → Nat → Bool} {a b c : Nat} {s : Nat × List Int64} (h : qOK c s) : qOK (c + 1) (gS p a b s) := by
  obtain ⟨h1, h2, h3⟩ := h
  unfold gS
  split
  · refine ⟨by dsimp only; omega, ?_, fun e => ?_⟩
    · dsimp only
      split
      · exact Nat.le_refl 2
      · exact h2
    · dsimp only at e; omega
  · exact ⟨by omega, h2, h3⟩
theorem qOK.gi {p : Nat → Nat → Bool} {a c : Nat} {s : Nat × List Int64} (h : qOK c s) : ∀ k, qOK (c + k) (gI p a s k)
  | 0 => h
  | k + 1 => (qOK.gi h k).gs
theorem qOK.go {p : Nat → Nat → Bool} {n : Nat} : ∀ a, qOK (a * n) (gO p n a)
  | 0 => ⟨by unfold gO; omega, by unfold gO; exact Nat.zero_le _, fun _ => rfl⟩
  | a + 1 => by
    have h := (qOK.go (p := p) (n := n) a).gi (p := p) (a := a) n
    rw [Nat.add_mul, Nat.one_mul]
    exact h
def mgV (i j : Nat) (x y : Int32) : Int32 := (if j < i then 0 else x) - iN j * y
def msB (i j : Nat) (x y : Int32) : Bool := allB (fun k => decide (mgV i k x y ≤ mgV i j x y)) 10
def cgV (i j : Nat) : Nat := if j < i then 0 else i
def csB (i j : Nat) : Bool := allB (fun k => !decide (cgV i j < cgV k j)) 10
theorem csB_eq : ∀ i j : Fin 10, csB i.val j.val = (decide (j.val = 0) || decide (i.val = j.val)) := by decide +kernel
def rsB (x y : Int32) (i j : Nat) : Bool := csB i j && msB i j x y
theorem rsB_all {x y : Int32} {i j : Nat} : rsB x y i j = allB (fun k => !decide (cgV i j < cgV k j) && decide (mgV i k x y ≤ mgV i j x y)) 10 := by
  have key : ∀ (f g : Nat → Bool) n, (allB f n && allB g n) = allB (fun k => f k && g k) n := by
    intro f g n
    induction n with
    | zero => rfl
    | succ n ih =>
      show ((allB f n && f n) && (allB g n && g n)) = (allB (fun k => f k && g k) n && (f n && g n))
      rw [← ih]
      cases allB f n <;> cases allB g n <;> cases f n <;> cases g n <;> rfl
  exact key _ _ _
section RS
variable {I A E I' A' : Nat → Nat → Int32} {L L' : Nat → Int64} {pr ot s : Nat} {J J' : Nat → Int32} {B B' : Nat → Nat → Int32} {M M' : Nat → Int64} {rdv rdv' : Value} {ru : Nat} {T : PH} {G P W p q g n nr sz ro oa w t k : Nat} {Z Z' R X : Nat → Int32} {x y z i2 m : Int32} {out : Nat → Int64} {pu : (Nat → Int32) → Int32} {a b i j : Nat} {h : PH}
theorem c_clerk (hi : i < 10) (hj : j < 10) : fX11_clerkStays (iN i) (iN j) h = some ((if csB i j then 1 else 0), h) := by
  rw [csB_eq ⟨i, hi⟩ ⟨j, hj⟩]
  by_cases h1 : j = 0
  · subst h1
    simp (disch := first | omega | assumption | (simp (disch := omega) only [iN_lit, iN_add, iN_mul, iN_pred, iN_pred', iN_lt, iN_le, iN_eq, iN_nat, nlt_t, nlt_f, nle_t, nle_f, neq_t, neq_f, List.length_nil, List.length_cons, or_false, false_or, or_self, not_false_eq_true, not_true_eq_false, ↓reduceIte, if_true, if_false, Bool.false_eq_true, Nat.reduceAdd])) only [fX11_clerkStays, fX11_clerkStays_J9, ↓hb_some, ↓bd_some, ↓letE_eq, h_z0, h_z1, h_zi0, h_zi1, iN_lit, iN_add, iN_mul, iN_pred, iN_pred', iN_lt, iN_le, iN_eq, iN_nat, nlt_t, nlt_f, nle_t, nle_f, neq_t, neq_f, List.length_nil, List.length_cons, or_false, false_or, or_self, not_false_eq_true, not_true_eq_false, ↓reduceIte, if_true, if_false, Bool.false_eq_true, Nat.reduceAdd, decide_true, Bool.true_or]
  · by_cases h2 : i = j
    · subst h2
      simp (disch := first | omega | assumption | (simp (disch := omega) only [iN_lit, iN_add, iN_mul, iN_pred, iN_pred', iN_lt, iN_le, iN_eq, iN_nat, nlt_t, nlt_f, nle_t, nle_f, neq_t, neq_f, List.length_nil, List.length_cons, or_false, false_or, or_self, not_false_eq_true, not_true_eq_false, ↓reduceIte, if_true, if_false, Bool.false_eq_true, Nat.reduceAdd])) only [fX11_clerkStays, fX11_clerkStays_J9, ↓hb_some, ↓bd_some, ↓letE_eq, h_z0, h_z1, h_zi0, h_zi1, iN_lit, iN_add, iN_mul, iN_pred, iN_pred', iN_lt, iN_le, iN_eq, iN_nat, nlt_t, nlt_f, nle_t, nle_f, neq_t, neq_f, List.length_nil, List.length_cons, or_false, false_or, or_self, not_false_eq_true, not_true_eq_false, ↓reduceIte, if_true, if_false, Bool.false_eq_true, Nat.reduceAdd, h1, decide_true, Bool.or_true]
    · simp (disch := first | omega | assumption | (simp (disch := omega) only [iN_lit, iN_add, iN_mul, iN_pred, iN_pred', iN_lt, iN_le, iN_eq, iN_nat, nlt_t, nlt_f, nle_t, nle_f, neq_t, neq_f, List.length_nil, List.length_cons, or_false, false_or, or_self, not_false_eq_true, not_true_eq_false, ↓reduceIte, if_true, if_false, Bool.false_eq_true, Nat.reduceAdd])) only [fX11_clerkStays, fX11_clerkStays_J9, ↓hb_some, ↓bd_some, ↓letE_eq, h_z0, h_z1, h_zi0, h_zi1, iN_lit, iN_add, iN_mul, iN_pred, iN_pred', iN_lt, iN_le, iN_eq, iN_nat, nlt_t, nlt_f, nle_t, nle_f, neq_t, neq_f, List.length_nil, List.length_cons, or_false, false_or, or_self, not_false_eq_true, not_true_eq_false, ↓reduceIte, if_true, if_false, Bool.false_eq_true, Nat.reduceAdd, h1, h2, decide_false, Bool.or_self]
theorem c_man (hi : i < 10) (hj : j < 10) : fX11_manStays (iN i) (iN j) x y h = some ((if msB i j x y then 1 else 0), h) := by
  have hV : ∀ k, y * iN k = iN k * y := fun k => Int32.mul_comm _ _
  have loop : ∀ v, v = mgV i j x y → fX11_manStays_L19 (iN i) x y v (fun h2 => h_z (1 : Int32) (some ((1 : Int32), h2))) FU (iN 0) h = some ((if msB i j x y then 1 else 0), h) := by
    intro v hv
    have key := lp_br (fun n k (_ : Unit) => fX11_manStays_L19 (iN i) x y v (fun h2 => h_z (1 : Int32) (some ((1 : Int32), h2))) n (iN k) h) (fun k _ => allB (fun k => decide (mgV i k x y ≤ mgV i j x y)) k = true) (fun z => z = some ((if msB i j x y then 1 else 0), h)) 10 ?_ ?_ 10 0 () (by omega) rfl
    · obtain ⟨z, hz, hz2⟩ := key
      rw [← hz]; exact hz2 FU (by unfold FU; omega)
    · intro k _ hk ha
      by_cases hc : mgV i k x y ≤ mgV i j x y
      · right
        refine ⟨(), ?_, fun n => ?_⟩
        · show (allB _ k && decide (mgV i k x y ≤ mgV i j x y)) = true
          rw [ha, decide_eq_true hc]; rfl
        · unfold mgV at hc
          rw [show ((if j < i then 0 else x) - iN j * y) = v from hv.symm] at hc
          by_cases h1 : k < i
          · rw [if_pos h1, show (0 : Int32) = iN 0 from rfl] at hc
            simp (disch := first | omega | assumption | (simp (disch := omega) only [iN_lit, iN_add, iN_mul, iN_pred, iN_pred', iN_lt, iN_le, iN_eq, iN_nat, nlt_t, nlt_f, nle_t, nle_f, neq_t, neq_f, List.length_nil, List.length_cons, or_false, false_or, or_self, not_false_eq_true, not_true_eq_false, ↓reduceIte, if_true, if_false, Bool.false_eq_true, Nat.reduceAdd])) only [fX11_manStays_L19, fX11_manStays_J37_19, fX11_manStays_J10, ↓hb_some, ↓bd_some, ↓letE_eq, h_z0, h_z1, h_zi0, h_zi1, iN_lit, iN_add, iN_mul, iN_pred, iN_pred', iN_lt, iN_le, iN_eq, iN_nat, nlt_t, nlt_f, nle_t, nle_f, neq_t, neq_f, List.length_nil, List.length_cons, or_false, false_or, or_self, not_false_eq_true, not_true_eq_false, ↓reduceIte, if_true, if_false, Bool.false_eq_true, Nat.reduceAdd, h1, hV, hc]
          · rw [if_neg h1] at hc
            simp (disch := first | omega | assumption | (simp (disch := omega) only [iN_lit, iN_add, iN_mul, iN_pred, iN_pred', iN_lt, iN_le, iN_eq, iN_nat, nlt_t, nlt_f, nle_t, nle_f, neq_t, neq_f, List.length_nil, List.length_cons, or_false, false_or, or_self, not_false_eq_true, not_true_eq_false, ↓reduceIte, if_true, if_false, Bool.false_eq_true, Nat.reduceAdd])) only [fX11_manStays_L19, fX11_manStays_J37_19, fX11_manStays_J10, ↓hb_some, ↓bd_some, ↓letE_eq, h_z0, h_z1, h_zi0, h_zi1, iN_lit, iN_add, iN_mul, iN_pred, iN_pred', iN_lt, iN_le, iN_eq, iN_nat, nlt_t, nlt_f, nle_t, nle_f, neq_t, neq_f, List.length_nil, List.length_cons, or_false, false_or, or_self, not_false_eq_true, not_true_eq_false, ↓reduceIte, if_true, if_false, Bool.false_eq_true, Nat.reduceAdd, h1, hV, hc]
      · left
        refine ⟨_, rfl, fun n => ?_⟩
        have e : msB i j x y = false := allB_lt hk (decide_eq_false hc)
        rw [e]
        unfold mgV at hc
        rw [show ((if j < i then 0 else x) - iN j * y) = v from hv.symm] at hc
        by_cases h1 : k < i
        · rw [if_pos h1, show (0 : Int32) = iN 0 from rfl] at hc
          simp (disch := first | omega | assumption | (simp (disch := omega) only [iN_lit, iN_add, iN_mul, iN_pred, iN_pred', iN_lt, iN_le, iN_eq, iN_nat, nlt_t, nlt_f, nle_t, nle_f, neq_t, neq_f, List.length_nil, List.length_cons, or_false, false_or, or_self, not_false_eq_true, not_true_eq_false, ↓reduceIte, if_true, if_false, Bool.false_eq_true, Nat.reduceAdd])) only [fX11_manStays_L19, fX11_manStays_J37_19, fX11_manStays_J10, ↓hb_some, ↓bd_some, ↓letE_eq, h_z0, h_z1, h_zi0, h_zi1, iN_lit, iN_add, iN_mul, iN_pred, iN_pred', iN_lt, iN_le, iN_eq, iN_nat, nlt_t, nlt_f, nle_t, nle_f, neq_t, neq_f, List.length_nil, List.length_cons, or_false, false_or, or_self, not_false_eq_true, not_true_eq_false, ↓reduceIte, if_true, if_false, Bool.false_eq_true, Nat.reduceAdd, h1, hV, hc]
        · rw [if_neg h1] at hc
          simp (disch := first | omega | assumption | (simp (disch := omega) only [iN_lit, iN_add, iN_mul, iN_pred, iN_pred', iN_lt, iN_le, iN_eq, iN_nat, nlt_t, nlt_f, nle_t, nle_f, neq_t, neq_f, List.length_nil, List.length_cons, or_false, false_or, or_self, not_false_eq_true, not_true_eq_false, ↓reduceIte, if_true, if_false, Bool.false_eq_true, Nat.reduceAdd])) only [fX11_manStays_L19, fX11_manStays_J37_19, fX11_manStays_J10, ↓hb_some, ↓bd_some, ↓letE_eq, h_z0, h_z1, h_zi0, h_zi1, iN_lit, iN_add, iN_mul, iN_pred, iN_pred', iN_lt, iN_le, iN_eq, iN_nat, nlt_t, nlt_f, nle_t, nle_f, neq_t, neq_f, List.length_nil, List.length_cons, or_false, false_or, or_self, not_false_eq_true, not_true_eq_false, ↓reduceIte, if_true, if_false, Bool.false_eq_true, Nat.reduceAdd, h1, hV, hc]
    · intro _ ha
      refine ⟨_, rfl, fun n => ?_⟩
      have e : msB i j x y = true := ha
      rw [e]
      simp (disch := first | omega | assumption | (simp (disch := omega) only [iN_lit, iN_add, iN_mul, iN_pred, iN_pred', iN_lt, iN_le, iN_eq, iN_nat, nlt_t, nlt_f, nle_t, nle_f, neq_t, neq_f, List.length_nil, List.length_cons, or_false, false_or, or_self, not_false_eq_true, not_true_eq_false, ↓reduceIte, if_true, if_false, Bool.false_eq_true, Nat.reduceAdd])) only [fX11_manStays_L19, fX11_manStays_J37_19, fX11_manStays_J10, ↓hb_some, ↓bd_some, ↓letE_eq, h_z0, h_z1, h_zi0, h_zi1, iN_lit, iN_add, iN_mul, iN_pred, iN_pred', iN_lt, iN_le, iN_eq, iN_nat, nlt_t, nlt_f, nle_t, nle_f, neq_t, neq_f, List.length_nil, List.length_cons, or_false, false_or, or_self, not_false_eq_true, not_true_eq_false, ↓reduceIte, if_true, if_false, Bool.false_eq_true, Nat.reduceAdd]
  by_cases h1 : j < i
  · have := loop (iN 0 - iN j * y) (by unfold mgV; rw [if_pos h1]; rfl)
    simp (disch := first | omega | assumption | (simp (disch := omega) only [iN_lit, iN_add, iN_mul, iN_pred, iN_pred', iN_lt, iN_le, iN_eq, iN_nat, nlt_t, nlt_f, nle_t, nle_f, neq_t, neq_f, List.length_nil, List.length_cons, or_false, false_or, or_self, not_false_eq_true, not_true_eq_false, ↓reduceIte, if_true, if_false, Bool.false_eq_true, Nat.reduceAdd])) only [fX11_manStays, fX11_manStays_J37_19, fX11_manStays_J10, ↓hb_some, ↓bd_some, ↓letE_eq, h_z0, h_z1, h_zi0, h_zi1, iN_lit, iN_add, iN_mul, iN_pred, iN_pred', iN_lt, iN_le, iN_eq, iN_nat, nlt_t, nlt_f, nle_t, nle_f, neq_t, neq_f, List.length_nil, List.length_cons, or_false, false_or, or_self, not_false_eq_true, not_true_eq_false, ↓reduceIte, if_true, if_false, Bool.false_eq_true, Nat.reduceAdd, h1, hV]
    exact (show _ = _ from by simp only [h_z1, iN_lit] at this; exact this)
  · have := loop (x - iN j * y) (by unfold mgV; rw [if_neg h1])
    simp (disch := first | omega | assumption | (simp (disch := omega) only [iN_lit, iN_add, iN_mul, iN_pred, iN_pred', iN_lt, iN_le, iN_eq, iN_nat, nlt_t, nlt_f, nle_t, nle_f, neq_t, neq_f, List.length_nil, List.length_cons, or_false, false_or, or_self, not_false_eq_true, not_true_eq_false, ↓reduceIte, if_true, if_false, Bool.false_eq_true, Nat.reduceAdd])) only [fX11_manStays, fX11_manStays_J37_19, fX11_manStays_J10, ↓hb_some, ↓bd_some, ↓letE_eq, h_z0, h_z1, h_zi0, h_zi1, iN_lit, iN_add, iN_mul, iN_pred, iN_pred', iN_lt, iN_le, iN_eq, iN_nat, nlt_t, nlt_f, nle_t, nle_f, neq_t, neq_f, List.length_nil, List.length_cons, or_false, false_or, or_self, not_false_eq_true, not_true_eq_false, ↓reduceIte, if_true, if_false, Bool.false_eq_true, Nat.reduceAdd, h1, hV]
    exact (show _ = _ from by simp only [h_z1, iN_lit] at this; exact this)
theorem r_cg (hi : i < 10) (hj : j < 10) : fX12_clerkGets (iN i) (iN j) h = some (iN (cgV i j), h) := by
  unfold cgV
  by_cases h1 : j < i
  · simp (disch := first | omega | assumption | (simp (disch := omega) only [iN_lit, iN_add, iN_mul, iN_pred, iN_pred', iN_lt, iN_le, iN_eq, iN_nat, nlt_t, nlt_f, nle_t, nle_f, neq_t, neq_f, List.length_nil, List.length_cons, or_false, false_or, or_self, not_false_eq_true, not_true_eq_false, ↓reduceIte, if_true, if_false, Bool.false_eq_true, Nat.reduceAdd])) only [fX12_clerkGets, ↓hb_some, ↓bd_some, ↓letE_eq, h_z0, h_z1, h_zi0, h_zi1, iN_lit, iN_add, iN_mul, iN_pred, iN_pred', iN_lt, iN_le, iN_eq, iN_nat, nlt_t, nlt_f, nle_t, nle_f, neq_t, neq_f, List.length_nil, List.length_cons, or_false, false_or, or_self, not_false_eq_true, not_true_eq_false, ↓reduceIte, if_true, if_false, Bool.false_eq_true, Nat.reduceAdd, h1]
  · simp (disch := first | omega | assumption | (simp (disch := omega) only [iN_lit, iN_add, iN_mul, iN_pred, iN_pred', iN_lt, iN_le, iN_eq, iN_nat, nlt_t, nlt_f, nle_t, nle_f, neq_t, neq_f, List.length_nil, List.length_cons, or_false, false_or, or_self, not_false_eq_true, not_true_eq_false, ↓reduceIte, if_true, if_false, Bool.false_eq_true, Nat.reduceAdd])) only [fX12_clerkGets, ↓hb_some, ↓bd_some, ↓letE_eq, h_z0, h_z1, h_zi0, h_zi1, iN_lit, iN_add, iN_mul, iN_pred, iN_pred', iN_lt, iN_le, iN_eq, iN_nat, nlt_t, nlt_f, nle_t, nle_f, neq_t, neq_f, List.length_nil, List.length_cons, or_false, false_or, or_self, not_false_eq_true, not_true_eq_false, ↓reduceIte, if_true, if_false, Bool.false_eq_true, Nat.reduceAdd, h1]
theorem r_mg (hi : i < 10) (hj : j < 10) : fX12_manGets (iN i) (iN j) x y h = some (mgV i j x y, h) := by
  unfold mgV
  by_cases h1 : j < i
  · simp (disch := first | omega | assumption | (simp (disch := omega) only [iN_lit, iN_add, iN_mul, iN_pred, iN_pred', iN_lt, iN_le, iN_eq, iN_nat, nlt_t, nlt_f, nle_t, nle_f, neq_t, neq_f, List.length_nil, List.length_cons, or_false, false_or, or_self, not_false_eq_true, not_true_eq_false, ↓reduceIte, if_true, if_false, Bool.false_eq_true, Nat.reduceAdd])) only [fX12_manGets, ↓hb_some, ↓bd_some, ↓letE_eq, h_z0, h_z1, h_zi0, h_zi1, iN_lit, iN_add, iN_mul, iN_pred, iN_pred', iN_lt, iN_le, iN_eq, iN_nat, nlt_t, nlt_f, nle_t, nle_f, neq_t, neq_f, List.length_nil, List.length_cons, or_false, false_or, or_self, not_false_eq_true, not_true_eq_false, ↓reduceIte, if_true, if_false, Bool.false_eq_true, Nat.reduceAdd, h1]
  · simp (disch := first | omega | assumption | (simp (disch := omega) only [iN_lit, iN_add, iN_mul, iN_pred, iN_pred', iN_lt, iN_le, iN_eq, iN_nat, nlt_t, nlt_f, nle_t, nle_f, neq_t, neq_f, List.length_nil, List.length_cons, or_false, false_or, or_self, not_false_eq_true, not_true_eq_false, ↓reduceIte, if_true, if_false, Bool.false_eq_true, Nat.reduceAdd])) only [fX12_manGets, ↓hb_some, ↓bd_some, ↓letE_eq, h_z0, h_z1, h_zi0, h_zi1, iN_lit, iN_add, iN_mul, iN_pred, iN_pred', iN_lt, iN_le, iN_eq, iN_nat, nlt_t, nlt_f, nle_t, nle_f, neq_t, neq_f, List.length_nil, List.length_cons, or_false, false_or, or_self, not_false_eq_true, not_true_eq_false, ↓reduceIte, if_true, if_false, Bool.false_eq_true, Nat.reduceAdd, h1]
theorem r_isRest (hi : i < 10) (hj : j < 10) : fX12_isRest (iN i) (iN j) x y h = some ((if rsB x y i j then 1 else 0), h) := by
  have hcg : ∀ a b, a < 10 → cgV a b < 10 := fun a b h => by unfold cgV; split <;> omega
  have key := lp_br (fun n k (_ : Unit) => fX12_isRest_L3 (iN i) (iN j) x y (fun h1 => h_z (1 : Int32) (some ((1 : Int32), h1))) n (iN k) h) (fun k _ => allB (fun k => !decide (cgV i j < cgV k j) && decide (mgV i k x y ≤ mgV i j x y)) k = true) (fun z => z = some ((if rsB x y i j then 1 else 0), h)) 10 ?_ ?_ 10 0 () (by omega) rfl
  · obtain ⟨z, hz, hz2⟩ := key
    rw [← hz]; exact hz2 FU (by unfold FU; omega)
  · intro k _ hk ha
    have f1 := r_cg (h := h) hk hj
    have f2 := r_cg (h := h) hi hj
    have f3 := r_mg (h := h) (x := x) (y := y) hi hk
    have f4 := r_mg (h := h) (x := x) (y := y) hi hj
    have b1 := hcg i j hi
    have b2 := hcg k j hk
    by_cases c1 : cgV i j < cgV k j
    · left
      refine ⟨_, rfl, fun n => ?_⟩
      have e : rsB x y i j = false := by
        rw [rsB_all]; exact allB_lt hk (by rw [decide_eq_true c1]; rfl)
      rw [e]
      simp (disch := first | omega | assumption | (simp (disch := omega) only [iN_lit, iN_add, iN_mul, iN_pred, iN_pred', iN_lt, iN_le, iN_eq, iN_nat, nlt_t, nlt_f, nle_t, nle_f, neq_t, neq_f, List.length_nil, List.length_cons, or_false, false_or, or_self, not_false_eq_true, not_true_eq_false, ↓reduceIte, if_true, if_false, Bool.false_eq_true, Nat.reduceAdd])) only [fX12_isRest_L3, ↓hb_some, ↓bd_some, ↓letE_eq, h_z0, h_z1, h_zi0, h_zi1, ↓hb_of f1, ↓hb_of f2, ↓hb_of f3, ↓hb_of f4, iN_lit, iN_add, iN_mul, iN_pred, iN_pred', iN_lt, iN_le, iN_eq, iN_nat, nlt_t, nlt_f, nle_t, nle_f, neq_t, neq_f, List.length_nil, List.length_cons, or_false, false_or, or_self, not_false_eq_true, not_true_eq_false, ↓reduceIte, if_true, if_false, Bool.false_eq_true, Nat.reduceAdd, c1]
    · by_cases c2 : mgV i k x y ≤ mgV i j x y
      · right
        refine ⟨(), ?_, fun n => ?_⟩
        · show (allB _ k && (!decide (cgV i j < cgV k j) && decide (mgV i k x y ≤ mgV i j x y))) = true
          rw [ha, decide_eq_true c2, decide_eq_false c1]; rfl
        · simp (disch := first | omega | assumption | (simp (disch := omega) only [iN_lit, iN_add, iN_mul, iN_pred, iN_pred', iN_lt, iN_le, iN_eq, iN_nat, nlt_t, nlt_f, nle_t, nle_f, neq_t, neq_f, List.length_nil, List.length_cons, or_false, false_or, or_self, not_false_eq_true, not_true_eq_false, ↓reduceIte, if_true, if_false, Bool.false_eq_true, Nat.reduceAdd])) only [fX12_isRest_L3, ↓hb_some, ↓bd_some, ↓letE_eq, h_z0, h_z1, h_zi0, h_zi1, ↓hb_of f1, ↓hb_of f2, ↓hb_of f3, ↓hb_of f4, iN_lit, iN_add, iN_mul, iN_pred, iN_pred', iN_lt, iN_le, iN_eq, iN_nat, nlt_t, nlt_f, nle_t, nle_f, neq_t, neq_f, List.length_nil, List.length_cons, or_false, false_or, or_self, not_false_eq_true, not_true_eq_false, ↓reduceIte, if_true, if_false, Bool.false_eq_true, Nat.reduceAdd, c1, c2]
      · left
        refine ⟨_, rfl, fun n => ?_⟩
        have e : rsB x y i j = false := by
          rw [rsB_all]; exact allB_lt hk (by rw [decide_eq_false c1, decide_eq_false c2]; rfl)
        rw [e]
        simp (disch := first | omega | assumption | (simp (disch := omega) only [iN_lit, iN_add, iN_mul, iN_pred, iN_pred', iN_lt, iN_le, iN_eq, iN_nat, nlt_t, nlt_f, nle_t, nle_f, neq_t, neq_f, List.length_nil, List.length_cons, or_false, false_or, or_self, not_false_eq_true, not_true_eq_false, ↓reduceIte, if_true, if_false, Bool.false_eq_true, Nat.reduceAdd])) only [fX12_isRest_L3, ↓hb_some, ↓bd_some, ↓letE_eq, h_z0, h_z1, h_zi0, h_zi1, ↓hb_of f1, ↓hb_of f2, ↓hb_of f3, ↓hb_of f4, iN_lit, iN_add, iN_mul, iN_pred, iN_pred', iN_lt, iN_le, iN_eq, iN_nat, nlt_t, nlt_f, nle_t, nle_f, neq_t, neq_f, List.length_nil, List.length_cons, or_false, false_or, or_self, not_false_eq_true, not_true_eq_false, ↓reduceIte, if_true, if_false, Bool.false_eq_true, Nat.reduceAdd, c1, c2]
  · intro _ ha
    refine ⟨_, rfl, fun n => ?_⟩
    have e : rsB x y i j = true := by rw [rsB_all]; exact ha
    rw [e]
    simp (disch := first | omega | assumption | (simp (disch := omega) only [iN_lit, iN_add, iN_mul, iN_pred, iN_pred', iN_lt, iN_le, iN_eq, iN_nat, nlt_t, nlt_f, nle_t, nle_f, neq_t, neq_f, List.length_nil, List.length_cons, or_false, false_or, or_self, not_false_eq_true, not_true_eq_false, ↓reduceIte, if_true, if_false, Bool.false_eq_true, Nat.reduceAdd])) only [fX12_isRest_L3, ↓hb_of (r_cg _ _), ↓hb_of (r_mg _ _), ↓hb_some, ↓bd_some, ↓letE_eq, h_z0, h_z1, h_zi0, h_zi1, iN_lit, iN_add, iN_mul, iN_pred, iN_pred', iN_lt, iN_le, iN_eq, iN_nat, nlt_t, nlt_f, nle_t, nle_f, neq_t, neq_f, List.length_nil, List.length_cons, or_false, false_or, or_self, not_false_eq_true, not_true_eq_false, ↓reduceIte, if_true, if_false, Bool.false_eq_true, Nat.reduceAdd]
theorem c_rest43 (ha : a < 10) {st : Nat × List Int64} {c : Nat} (hc : c ≤ 200) (hq : qOK c st) (hL : rowC (iN st.2.length) L st.2) :
    ∃ L', (∀ kx : Int32 → PH → Option (Int32 × PH), fX11_rests_L43 0 x y (iN a) kx FU (iN st.1) (iN 0) (encC (u2 I 9 1 (iN st.2.length)) A L pr ot T) = kx (iN (gI (rsB x y) a st 10).1) (encC (u2 I 9 1 (iN (gI (rsB x y) a st 10).2.length)) A L' pr ot T)) ∧ rowC (iN (gI (rsB x y) a st 10).2.length) L' (gI (rsB x y) a st 10).2 := by
  have key := lp_k (fun (kx : Int32 → PH → Option (Int32 × PH)) n k (L' : Nat → Int64) => fX11_rests_L43 0 x y (iN a) kx n (iN (gI (rsB x y) a st k).1) (iN k) (encC (u2 I 9 1 (iN (gI (rsB x y) a st k).2.length)) A L' pr ot T)) (fun kx L' => kx (iN (gI (rsB x y) a st 10).1) (encC (u2 I 9 1 (iN (gI (rsB x y) a st 10).2.length)) A L' pr ot T)) (fun k L' => rowC (iN (gI (rsB x y) a st k).2.length) L' (gI (rsB x y) a st k).2) 10
    (fun k L' hk hi => by
      obtain ⟨q1, q2, q3⟩ := hq.gi (p := rsB x y) (a := a) k
      have f1 := c_clerk (h := (encC (u2 I 9 1 (iN (gI (rsB x y) a st k).2.length)) A L' pr ot T)) ha hk
      have f2 := c_man (h := (encC (u2 I 9 1 (iN (gI (rsB x y) a st k).2.length)) A L' pr ot T)) (x := x) (y := y) ha hk
      have e1 : gI (rsB x y) a st (k + 1) = gS (rsB x y) a k (gI (rsB x y) a st k) := rfl
      unfold gS rsB at e1
      cases ho : csB a k with
      | false =>
        rw [ho] at f1 e1
        rw [Bool.false_and, if_neg (by decide)] at e1
        refine ⟨L', by unfold rsB at hi ⊢; rw [e1]; exact hi, fun kx n => ?_⟩
        unfold rsB at f1 ⊢
        rw [e1]
        simp only [iN_lit, Bool.false_eq_true, if_false] at f1
        simp (disch := first | omega | assumption | (simp (disch := omega) only [iN_lit, iN_add, iN_mul, iN_pred, iN_pred', iN_lt, iN_le, iN_eq, iN_nat, nlt_t, nlt_f, nle_t, nle_f, neq_t, neq_f, List.length_nil, List.length_cons, or_false, false_or, or_self, not_false_eq_true, not_true_eq_false, ↓reduceIte, if_true, if_false, Bool.false_eq_true, Nat.reduceAdd])) only [fX11_rests_L43, ↓bK_0, fX11_rests_J84_43, ↓hb_some, ↓bd_some, ↓letE_eq, h_z0, h_z1, h_zi0, h_zi1, ↓hb_of f1, iN_lit, iN_add, iN_mul, iN_pred, iN_pred', iN_lt, iN_le, iN_eq, iN_nat, nlt_t, nlt_f, nle_t, nle_f, neq_t, neq_f, List.length_nil, List.length_cons, or_false, false_or, or_self, not_false_eq_true, not_true_eq_false, ↓reduceIte, if_true, if_false, Bool.false_eq_true, Nat.reduceAdd]
      | true =>
        rw [ho] at f1 e1
        rw [Bool.true_and] at e1
        simp only [iN_lit, if_true] at f1
        cases ho2 : msB a k x y with
        | false =>
          rw [ho2] at f2 e1
          rw [if_neg (by decide)] at e1
          refine ⟨L', by unfold rsB at hi ⊢; rw [e1]; exact hi, fun kx n => ?_⟩
          unfold rsB at f1 f2 ⊢
          rw [e1]
          simp only [iN_lit, Bool.false_eq_true, if_false] at f2
          simp (disch := first | omega | assumption | (simp (disch := omega) only [iN_lit, iN_add, iN_mul, iN_pred, iN_pred', iN_lt, iN_le, iN_eq, iN_nat, nlt_t, nlt_f, nle_t, nle_f, neq_t, neq_f, List.length_nil, List.length_cons, or_false, false_or, or_self, not_false_eq_true, not_true_eq_false, ↓reduceIte, if_true, if_false, Bool.false_eq_true, Nat.reduceAdd])) only [fX11_rests_L43, ↓bK_0, fX11_rests_J84_43, ↓hb_some, ↓bd_some, ↓letE_eq, h_z0, h_z1, h_zi0, h_zi1, ↓hb_of f1, ↓hb_of f2, iN_lit, iN_add, iN_mul, iN_pred, iN_pred', iN_lt, iN_le, iN_eq, iN_nat, nlt_t, nlt_f, nle_t, nle_f, neq_t, neq_f, List.length_nil, List.length_cons, or_false, false_or, or_self, not_false_eq_true, not_true_eq_false, ↓reduceIte, if_true, if_false, Bool.false_eq_true, Nat.reduceAdd]
        | true =>
          rw [ho2] at f2 e1
          rw [if_pos rfl] at e1
          simp only [iN_lit, if_true] at f2
          unfold rsB at q1 q3 f1 f2 hi ⊢
          by_cases h0 : (gI (fun i j => csB i j && msB i j x y) a st k).1 = 0
          · have h2 := q3 h0
            rw [if_pos h0] at e1
            have a1 := c_add (I := I) (A := A) (L := L') (pr := pr) (ot := ot) (T := T) (v := (iN a).toInt64) (n := 0) (by decide)
            have a2 := c_add (I := I) (A := A) (L := vp_updL L' 0 (iN a).toInt64) (pr := pr) (ot := ot) (T := T) (v := (iN k).toInt64) (n := 1) (by decide)
            refine ⟨vp_updL (vp_updL L' 0 (iN a).toInt64) 1 (iN k).toInt64, by rw [e1]; exact row_first, fun kx n => ?_⟩
            rw [e1]
            rw [h0, h2] at ⊢
            rw [h2] at f1 f2
            dsimp only [List.length_nil] at f1 f2 ⊢
            simp (disch := first | omega | assumption | (simp (disch := omega) only [iN_lit, iN_add, iN_mul, iN_pred, iN_pred', iN_lt, iN_le, iN_eq, iN_nat, nlt_t, nlt_f, nle_t, nle_f, neq_t, neq_f, List.length_nil, List.length_cons, or_false, false_or, or_self, not_false_eq_true, not_true_eq_false, ↓reduceIte, if_true, if_false, Bool.false_eq_true, Nat.reduceAdd])) only [fX11_rests_L43, ↓bK_0, fX11_rests_J84_43, fX11_tellFirstPair, ↓bK_9, ↓bR_0_6, ↓hb_some, ↓bd_some, ↓letE_eq, h_z0, h_z1, h_zi0, h_zi1, ↓hb_of f1, ↓hb_of f2, ↓hb_of a1, ↓hb_of a2, iN_lit, iN_add, iN_mul, iN_pred, iN_pred', iN_lt, iN_le, iN_eq, iN_nat, nlt_t, nlt_f, nle_t, nle_f, neq_t, neq_f, List.length_nil, List.length_cons, or_false, false_or, or_self, not_false_eq_true, not_true_eq_false, ↓reduceIte, if_true, if_false, Bool.false_eq_true, Nat.reduceAdd]
          · rw [if_neg h0] at e1
            refine ⟨L', by rw [e1]; exact hi, fun kx n => ?_⟩
            rw [e1]
            simp (disch := first | omega | assumption | (simp (disch := omega) only [iN_lit, iN_add, iN_mul, iN_pred, iN_pred', iN_lt, iN_le, iN_eq, iN_nat, nlt_t, nlt_f, nle_t, nle_f, neq_t, neq_f, List.length_nil, List.length_cons, or_false, false_or, or_self, not_false_eq_true, not_true_eq_false, ↓reduceIte, if_true, if_false, Bool.false_eq_true, Nat.reduceAdd])) only [fX11_rests_L43, ↓bK_0, fX11_rests_J84_43, fX11_tellFirstPair, ↓bK_9, ↓bR_0_6, ↓hb_some, ↓bd_some, ↓letE_eq, h_z0, h_z1, h_zi0, h_zi1, ↓hb_of f1, ↓hb_of f2, iN_lit, iN_add, iN_mul, iN_pred, iN_pred', iN_lt, iN_le, iN_eq, iN_nat, nlt_t, nlt_f, nle_t, nle_f, neq_t, neq_f, List.length_nil, List.length_cons, or_false, false_or, or_self, not_false_eq_true, not_true_eq_false, ↓reduceIte, if_true, if_false, Bool.false_eq_true, Nat.reduceAdd, h0])
    (fun L' hi kx n => by
      simp (disch := first | omega | assumption | (simp (disch := omega) only [iN_lit, iN_add, iN_mul, iN_pred, iN_pred', iN_lt, iN_le, iN_eq, iN_nat, nlt_t, nlt_f, nle_t, nle_f, neq_t, neq_f, List.length_nil, List.length_cons, or_false, false_or, or_self, not_false_eq_true, not_true_eq_false, ↓reduceIte, if_true, if_false, Bool.false_eq_true, Nat.reduceAdd])) only [fX11_rests_L43, ↓bK_0, fX11_rests_J84_43, ↓hb_of (c_clerk _ _), ↓hb_of (c_man _ _), ↓hb_some, ↓bd_some, ↓letE_eq, h_z0, h_z1, h_zi0, h_zi1, iN_lit, iN_add, iN_mul, iN_pred, iN_pred', iN_lt, iN_le, iN_eq, iN_nat, nlt_t, nlt_f, nle_t, nle_f, neq_t, neq_f, List.length_nil, List.length_cons, or_false, false_or, or_self, not_false_eq_true, not_true_eq_false, ↓reduceIte, if_true, if_false, Bool.false_eq_true, Nat.reduceAdd]) 10 0 L (by omega) hL
  obtain ⟨L', k1, k2⟩ := key
  exact ⟨L', fun kx => k2 kx FU (by unfold FU; omega), k1⟩
theorem rest_C (hx : fX11_within x (0 : Int32) (20 : Int32) (encC I A L pr ot T) = some (1, (encC I A L pr ot T))) (hy : fX11_within y (0 : Int32) (5 : Int32) (encC I A L pr ot T) = some (1, (encC I A L pr ot T))) : qC I A L pr ot T (fX11_rests 0 x y) (iN (gO (rsB x y) 10 10).1) (some (gO (rsB x y) 10 10).2) := by
  have key := lp_k (fun (_ : Unit) n k (L' : Nat → Int64) => fX11_rests_L33 0 x y (fun x5 h6 => some (x5, h6)) n (iN (gO (rsB x y) 10 k).1) (iN k) (encC (u2 I 9 1 (iN (gO (rsB x y) 10 k).2.length)) A L' pr ot T)) (fun _ L' => some (iN (gO (rsB x y) 10 10).1, (encC (u2 I 9 1 (iN (gO (rsB x y) 10 10).2.length)) A L' pr ot T))) (fun k L' => rowC (iN (gO (rsB x y) 10 k).2.length) L' (gO (rsB x y) 10 k).2) 10
    (fun k L' hk hi => by
      obtain ⟨L2, f1, f2⟩ := c_rest43 (I := I) (A := A) (L := L') (pr := pr) (ot := ot) (T := T) (x := x) (y := y) hk (show k * 10 ≤ 200 by omega) (qOK.go k) hi
      refine ⟨L2, f2, fun _ n => ?_⟩
      have e1 : gO (rsB x y) 10 (k + 1) = gI (rsB x y) k (gO (rsB x y) 10 k) 10 := rfl
      rw [e1]
      simp (disch := first | omega | assumption | (simp (disch := omega) only [iN_lit, iN_add, iN_mul, iN_pred, iN_pred', iN_lt, iN_le, iN_eq, iN_nat, nlt_t, nlt_f, nle_t, nle_f, neq_t, neq_f, List.length_nil, List.length_cons, or_false, false_or, or_self, not_false_eq_true, not_true_eq_false, ↓reduceIte, if_true, if_false, Bool.false_eq_true, Nat.reduceAdd])) only [fX11_rests_L33, fX11_rests_J84_43, ↓hb_some, ↓bd_some, ↓letE_eq, h_z0, h_z1, h_zi0, h_zi1, iN_lit, iN_add, iN_mul, iN_pred, iN_pred', iN_lt, iN_le, iN_eq, iN_nat, nlt_t, nlt_f, nle_t, nle_f, neq_t, neq_f, List.length_nil, List.length_cons, or_false, false_or, or_self, not_false_eq_true, not_true_eq_false, ↓reduceIte, if_true, if_false, Bool.false_eq_true, Nat.reduceAdd, f1])
    (fun L' hi _ n => by
      simp (disch := first | omega | assumption | (simp (disch := omega) only [iN_lit, iN_add, iN_mul, iN_pred, iN_pred', iN_lt, iN_le, iN_eq, iN_nat, nlt_t, nlt_f, nle_t, nle_f, neq_t, neq_f, List.length_nil, List.length_cons, or_false, false_or, or_self, not_false_eq_true, not_true_eq_false, ↓reduceIte, if_true, if_false, Bool.false_eq_true, Nat.reduceAdd])) only [fX11_rests_L33, fX11_rests_J84_43, ↓hb_some, ↓bd_some, ↓letE_eq, h_z0, h_z1, h_zi0, h_zi1, iN_lit, iN_add, iN_mul, iN_pred, iN_pred', iN_lt, iN_le, iN_eq, iN_nat, nlt_t, nlt_f, nle_t, nle_f, neq_t, neq_f, List.length_nil, List.length_cons, or_false, false_or, or_self, not_false_eq_true, not_true_eq_false, ↓reduceIte, if_true, if_false, Bool.false_eq_true, Nat.reduceAdd]) 10 0 L (by omega) row_0
  obtain ⟨L', k1, k2⟩ := key
  have k3 := k2 () FU (by unfold FU; omega)
  have hq := qOK.go (p := rsB x y) (n := 10) 10
  refine ⟨u2 I 9 1 (iN (gO (rsB x y) 10 10).2.length), A, L', ?_, frI.u, frQ.refl, by have := hq.2.1; omega, k1⟩
  unfold fX11_rests
  rw [hb_of hx, if_1z, hb_of hy, if_1z, bR_0_6, bK_9, hb_of c_start]
  exact k3
theorem r_rest46 (ha : a < 10) {st : Nat × List Int64} {c : Nat} (hc : c ≤ 200) (hq : qOK c st) (hL : rowC (iN st.2.length) M st.2) :
    ∃ M', (∀ kx : Int32 → PH → Option (Int32 × PH), fX12_rests_L46 45 x y (iN a) kx FU (iN st.1) (iN 0) (encC I E L pr ot (encR (u1 J 12 (iN st.2.length)) B M rdv ru T)) = kx (iN (gI (rsB x y) a st 10).1) (encC I E L pr ot (encR (u1 J 12 (iN (gI (rsB x y) a st 10).2.length)) B M' rdv ru T))) ∧ rowC (iN (gI (rsB x y) a st 10).2.length) M' (gI (rsB x y) a st 10).2 := by
  have key := lp_k (fun (kx : Int32 → PH → Option (Int32 × PH)) n k (M' : Nat → Int64) => fX12_rests_L46 45 x y (iN a) kx n (iN (gI (rsB x y) a st k).1) (iN k) (encC I E L pr ot (encR (u1 J 12 (iN (gI (rsB x y) a st k).2.length)) B M' rdv ru T))) (fun kx M' => kx (iN (gI (rsB x y) a st 10).1) (encC I E L pr ot (encR (u1 J 12 (iN (gI (rsB x y) a st 10).2.length)) B M' rdv ru T))) (fun k M' => rowC (iN (gI (rsB x y) a st k).2.length) M' (gI (rsB x y) a st k).2) 10
    (fun k M' hk hi => by
      obtain ⟨q1, q2, q3⟩ := hq.gi (p := rsB x y) (a := a) k
      have f1 := r_isRest (h := (encC I E L pr ot (encR (u1 J 12 (iN (gI (rsB x y) a st k).2.length)) B M' rdv ru T))) (x := x) (y := y) ha hk
      have e1 : gI (rsB x y) a st (k + 1) = gS (rsB x y) a k (gI (rsB x y) a st k) := rfl
      unfold gS at e1
      cases ho : rsB x y a k with
      | false =>
        rw [ho] at f1 e1
        rw [if_neg (by decide)] at e1
        refine ⟨M', by rw [e1]; exact hi, fun kx n => ?_⟩
        rw [e1]
        simp only [iN_lit, Bool.false_eq_true, if_false] at f1
        simp (disch := first | omega | assumption | (simp (disch := omega) only [iN_lit, iN_add, iN_mul, iN_pred, iN_pred', iN_lt, iN_le, iN_eq, iN_nat, nlt_t, nlt_f, nle_t, nle_f, neq_t, neq_f, List.length_nil, List.length_cons, or_false, false_or, or_self, not_false_eq_true, not_true_eq_false, ↓reduceIte, if_true, if_false, Bool.false_eq_true, Nat.reduceAdd])) only [fX12_rests_L46, ↓brK, fX12_rests_J89_46, fX12_rests_J86_46, ↓hb_some, ↓bd_some, ↓letE_eq, h_z0, h_z1, h_zi0, h_zi1, ↓hb_of f1, iN_lit, iN_add, iN_mul, iN_pred, iN_pred', iN_lt, iN_le, iN_eq, iN_nat, nlt_t, nlt_f, nle_t, nle_f, neq_t, neq_f, List.length_nil, List.length_cons, or_false, false_or, or_self, not_false_eq_true, not_true_eq_false, ↓reduceIte, if_true, if_false, Bool.false_eq_true, Nat.reduceAdd]
      | true =>
        rw [ho] at f1 e1
        rw [if_pos rfl] at e1
        simp only [iN_lit, if_true] at f1
        by_cases h0 : (gI (rsB x y) a st k).1 = 0
        · have h2 := q3 h0
          rw [if_pos h0] at e1
          have a1 := r_tell (I := I) (E := E) (L := L) (pr := pr) (ot := ot) (J := u1 J 12 (iN 0)) (B := B) (M := M') (rdv := rdv) (ru := ru) (T := T) (v := (iN a).toInt64) (n := 0) (by rw [u1_eq, if_pos rfl]) (by decide)
          have a2 := r_tell (I := I) (E := E) (L := L) (pr := pr) (ot := ot) (J := u1 J 12 (iN 1)) (B := B) (M := vp_updL M' 0 (iN a).toInt64) (rdv := rdv) (ru := ru) (T := T) (v := (iN k).toInt64) (n := 1) (by rw [u1_eq, if_pos rfl]) (by decide)
          rw [u1_u1] at a1 a2
          refine ⟨vp_updL (vp_updL M' 0 (iN a).toInt64) 1 (iN k).toInt64, by rw [e1]; exact row_first, fun kx n => ?_⟩
          rw [e1]
          rw [h0, h2] at ⊢
          rw [h2] at f1
          dsimp only [List.length_nil] at f1 ⊢
          simp (disch := first | omega | assumption | (simp (disch := omega) only [iN_lit, iN_add, iN_mul, iN_pred, iN_pred', iN_lt, iN_le, iN_eq, iN_nat, nlt_t, nlt_f, nle_t, nle_f, neq_t, neq_f, List.length_nil, List.length_cons, or_false, false_or, or_self, not_false_eq_true, not_true_eq_false, ↓reduceIte, if_true, if_false, Bool.false_eq_true, Nat.reduceAdd])) only [fX12_rests_L46, ↓brK, fX12_rests_J89_46, fX12_rests_J86_46, ↓hb_some, ↓bd_some, ↓letE_eq, h_z0, h_z1, h_zi0, h_zi1, ↓hb_of f1, ↓hb_of a1, ↓hb_of a2, iN_lit, iN_add, iN_mul, iN_pred, iN_pred', iN_lt, iN_le, iN_eq, iN_nat, nlt_t, nlt_f, nle_t, nle_f, neq_t, neq_f, List.length_nil, List.length_cons, or_false, false_or, or_self, not_false_eq_true, not_true_eq_false, ↓reduceIte, if_true, if_false, Bool.false_eq_true, Nat.reduceAdd]
        · rw [if_neg h0] at e1
          refine ⟨M', by rw [e1]; exact hi, fun kx n => ?_⟩
          rw [e1]
          simp (disch := first | omega | assumption | (simp (disch := omega) only [iN_lit, iN_add, iN_mul, iN_pred, iN_pred', iN_lt, iN_le, iN_eq, iN_nat, nlt_t, nlt_f, nle_t, nle_f, neq_t, neq_f, List.length_nil, List.length_cons, or_false, false_or, or_self, not_false_eq_true, not_true_eq_false, ↓reduceIte, if_true, if_false, Bool.false_eq_true, Nat.reduceAdd])) only [fX12_rests_L46, ↓brK, fX12_rests_J89_46, fX12_rests_J86_46, ↓hb_some, ↓bd_some, ↓letE_eq, h_z0, h_z1, h_zi0, h_zi1, ↓hb_of f1, iN_lit, iN_add, iN_mul, iN_pred, iN_pred', iN_lt, iN_le, iN_eq, iN_nat, nlt_t, nlt_f, nle_t, nle_f, neq_t, neq_f, List.length_nil, List.length_cons, or_false, false_or, or_self, not_false_eq_true, not_true_eq_false, ↓reduceIte, if_true, if_false, Bool.false_eq_true, Nat.reduceAdd, h0])
    (fun M' hi kx n => by
      simp (disch := first | omega | assumption | (simp (disch := omega) only [iN_lit, iN_add, iN_mul, iN_pred, iN_pred', iN_lt, iN_le, iN_eq, iN_nat, nlt_t, nlt_f, nle_t, nle_f, neq_t, neq_f, List.length_nil, List.length_cons, or_false, false_or, or_self, not_false_eq_true, not_true_eq_false, ↓reduceIte, if_true, if_false, Bool.false_eq_true, Nat.reduceAdd])) only [fX12_rests_L46, ↓brK, fX12_rests_J89_46, fX12_rests_J86_46, ↓hb_of (r_isRest _ _), ↓hb_of (r_tell _ _), ↓hb_some, ↓bd_some, ↓letE_eq, h_z0, h_z1, h_zi0, h_zi1, iN_lit, iN_add, iN_mul, iN_pred, iN_pred', iN_lt, iN_le, iN_eq, iN_nat, nlt_t, nlt_f, nle_t, nle_f, neq_t, neq_f, List.length_nil, List.length_cons, or_false, false_or, or_self, not_false_eq_true, not_true_eq_false, ↓reduceIte, if_true, if_false, Bool.false_eq_true, Nat.reduceAdd]) 10 0 M (by omega) hL
  obtain ⟨M', k1, k2⟩ := key
  exact ⟨M', fun kx => k2 kx FU (by unfold FU; omega), k1⟩
theorem rest_M (hx : ∀ (I E : Nat → Nat → Int32) (L : Nat → Int64) (pr ot : Nat) (T : PH), fX12_in x (0 : Int32) (20 : Int32) (encC I E L pr ot (encR (u1 J 13 0) B M rdv ru T)) = some (1, (encC I E L pr ot (encR (u1 J 13 0) B M rdv ru T)))) (hy : ∀ (I E : Nat → Nat → Int32) (L : Nat → Int64) (pr ot : Nat) (T : PH), fX12_in y (0 : Int32) (5 : Int32) (encC I E L pr ot (encR (u1 J 13 0) B M rdv ru T)) = some (1, (encC I E L pr ot (encR (u1 J 13 0) B M rdv ru T)))) : qM J B M rdv ru (fX12_rests 45 x y) (iN (gO (rsB x y) 10 10).1) (some (gO (rsB x y) 10 10).2) := by
  intro I E L pr ot T
  have key := lp_k (fun (_ : Unit) n k (M' : Nat → Int64) => fX12_rests_L36 45 x y (fun x5 h6 => some (x5, h6)) n (iN (gO (rsB x y) 10 k).1) (iN k) (encC I E L pr ot (encR (u1 (u1 J 13 0) 12 (iN (gO (rsB x y) 10 k).2.length)) B M' rdv ru T))) (fun _ M' => some (iN (gO (rsB x y) 10 10).1, (encC I E L pr ot (encR (u1 (u1 J 13 0) 12 (iN (gO (rsB x y) 10 10).2.length)) B M' rdv ru T)))) (fun k M' => rowC (iN (gO (rsB x y) 10 k).2.length) M' (gO (rsB x y) 10 k).2) 10
    (fun k M' hk hi => by
      obtain ⟨M2, f1, f2⟩ := r_rest46 (I := I) (E := E) (L := L) (pr := pr) (ot := ot) (J := u1 J 13 0) (M := M') (rdv := rdv) (ru := ru) (T := T) (B := B) (x := x) (y := y) hk (show k * 10 ≤ 200 by omega) (qOK.go k) hi
      refine ⟨M2, f2, fun _ n => ?_⟩
      have e1 : gO (rsB x y) 10 (k + 1) = gI (rsB x y) k (gO (rsB x y) 10 k) 10 := rfl
      rw [e1]
      simp only [iN_lit] at f1
      simp (disch := first | omega | assumption | (simp (disch := omega) only [iN_lit, iN_add, iN_mul, iN_pred, iN_pred', iN_lt, iN_le, iN_eq, iN_nat, nlt_t, nlt_f, nle_t, nle_f, neq_t, neq_f, List.length_nil, List.length_cons, or_false, false_or, or_self, not_false_eq_true, not_true_eq_false, ↓reduceIte, if_true, if_false, Bool.false_eq_true, Nat.reduceAdd])) only [fX12_rests_L36, fX12_rests_J89_46, fX12_rests_J86_46, ↓hb_some, ↓bd_some, ↓letE_eq, h_z0, h_z1, h_zi0, h_zi1, iN_lit, iN_add, iN_mul, iN_pred, iN_pred', iN_lt, iN_le, iN_eq, iN_nat, nlt_t, nlt_f, nle_t, nle_f, neq_t, neq_f, List.length_nil, List.length_cons, or_false, false_or, or_self, not_false_eq_true, not_true_eq_false, ↓reduceIte, if_true, if_false, Bool.false_eq_true, Nat.reduceAdd, f1])
    (fun M' hi _ n => by
      simp (disch := first | omega | assumption | (simp (disch := omega) only [iN_lit, iN_add, iN_mul, iN_pred, iN_pred', iN_lt, iN_le, iN_eq, iN_nat, nlt_t, nlt_f, nle_t, nle_f, neq_t, neq_f, List.length_nil, List.length_cons, or_false, false_or, or_self, not_false_eq_true, not_true_eq_false, ↓reduceIte, if_true, if_false, Bool.false_eq_true, Nat.reduceAdd])) only [fX12_rests_L36, fX12_rests_J89_46, fX12_rests_J86_46, ↓hb_some, ↓bd_some, ↓letE_eq, h_z0, h_z1, h_zi0, h_zi1, iN_lit, iN_add, iN_mul, iN_pred, iN_pred', iN_lt, iN_le, iN_eq, iN_nat, nlt_t, nlt_f, nle_t, nle_f, neq_t, neq_f, List.length_nil, List.length_cons, or_false, false_or, or_self, not_false_eq_true, not_true_eq_false, ↓reduceIte, if_true, if_false, Bool.false_eq_true, Nat.reduceAdd]) 10 0 M (by omega) row_0
  obtain ⟨M', k1, k2⟩ := key
  have k3 := k2 () FU (by unfold FU; omega)
  have hq := qOK.go (p := rsB x y) (n := 10) 10
  refine ⟨u1 (u1 J 13 0) 12 (iN (gO (rsB x y) 10 10).2.length), B, M', rdv, ?_, (frRJ.u (by decide)).trans (frRJ.u (by decide)), frRB.refl, by have := hq.2.1; omega, by rw [u1_eq, if_pos rfl]; exact k1⟩
  unfold fX12_rests
  rw [brW_13, hb_of (hx I E L pr ot T), if_1z, hb_of (hy I E L pr ot T), if_1z, brW_12]
  exact k3
theorem p_rests (h : INV s I A L pr ot J B M ru G P W) (x y : Int32) : pairG s I A L pr ot J B M rdv ru out (fX11_rests 0 x y) (fX12_rests 45 x y) := by
  rcases arg_le 20 (by decide) x with ⟨kx, hkx, rfl⟩ | hx
  · rcases arg_le 5 (by decide) y with ⟨ky, hky, rfl⟩ | hy
    · exact pairG_q h (fun T => rest_C (within_y (Nat.zero_le kx) hkx (by decide)) (within_y (Nat.zero_le ky) hky (by decide))) (rest_M (fun I E L pr ot T => in_y (Nat.zero_le kx) hkx (by decide)) (fun I E L pr ot T => in_y (Nat.zero_le ky) hky (by decide)))
    · refine pairG_q (ans := -1) h (fun T => qC_no ?_) (qM_no (fun I E L pr ot T => ?_))
      · unfold fX11_rests
        simp only [iN_lit]
        rw [hb_of (within_y (Nat.zero_le kx) hkx (by decide)), if_10, hb_of (within_n (show ¬ (iN 0 ≤ y ∧ y ≤ iN 5) from hy)), if_00]
      · unfold fX12_rests
        simp only [iN_lit]
        rw [brW_13, hb_of (in_y (Nat.zero_le kx) hkx (by decide)), if_10, hb_of (in_n (show ¬ (iN 0 ≤ y ∧ y ≤ iN 5) from hy)), if_00]
  · refine pairG_q (ans := -1) h (fun T => qC_no ?_) (qM_no (fun I E L pr ot T => ?_))
    · unfold fX11_rests
      simp only [iN_lit]
      rw [hb_of (within_n (show ¬ (iN 0 ≤ x ∧ x ≤ iN 20) from hx)), if_00]
    · unfold fX12_rests
      simp only [iN_lit]
      rw [brW_13, hb_of (in_n (show ¬ (iN 0 ≤ x ∧ x ≤ iN 20) from hx)), if_00]
end RS
