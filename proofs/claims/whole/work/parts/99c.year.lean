/-! YEAR: the model's acts read -/
/-- where act k begins -/
def psY (c : Nat → Nat) : Nat → Nat
  | 0 => 0
  | k + 1 => psY c k + (if c (psY c k) = 100 then 2 else 3)
def kdY (ch : Nat) : Prop := ch = 100 ∨ ch = 103 ∨ ch = 109 ∨ ch = 116
/-- the signs of an act from a on, and what was read of it -/
def ALc (c : Nat → Nat) (a : Nat) : Prop := kdY (c a) ∧ (48 ≤ c (a + 1) ∧ c (a + 1) < 58) ∧ (c a ≠ 100 → 48 ≤ c (a + 2) ∧ c (a + 2) < 58) ∧ (c a = 109 → 49 ≤ c (a + 2))
def ALv (c : Nat → Nat) (a i : Nat) (X : Nat → Int32) : Prop := X i = iN (c a) ∧ X (i + 1) = iN (c (a + 1) - 48) ∧ (c a ≠ 100 → X (i + 2) = iN (c (a + 2) - 48))
def dgY (ch : Nat) : Nat := if ch = 100 then 1 else if ch = 103 ∨ ch = 109 ∨ ch = 116 then 2 else 0
/-- digits left, making -/
def tkY (s : Nat × Bool) (ch : Nat) : Option (Nat × Bool) :=
  if s.1 = 0 then (if 0 < dgY ch then some (dgY ch, decide (ch = 109)) else none)
  else (if (48 ≤ ch ∧ ch < 58) ∧ ¬ (s.2 = true ∧ s.1 = 1 ∧ ch = 48) then some (s.1 - 1, s.2) else none)
def mayY (s : Nat × Bool) : Bool := decide (s.1 = 0)
/-- what stands behind the letter -/
def rdA (n top : Nat) (c : Nat → Nat) (i : Nat) (st : RSt) (X : Nat → Int32) : RSt × (Nat → Int32) :=
  if c st.1 = 100 then ((oneP n top c 48 10 (st.1 + 1, st.2)).2, upd (upd X i (iN (c st.1))) (i + 1) (iN (oneP n top c 48 10 (st.1 + 1, st.2)).1))
  else if c st.1 = 109 then ((oneP n top c 49 9 (oneP n top c 48 10 (st.1 + 1, st.2)).2).2, upd (upd (upd X i (iN (c st.1))) (i + 1) (iN (oneP n top c 48 10 (st.1 + 1, st.2)).1)) (i + 2) (iN ((oneP n top c 49 9 (oneP n top c 48 10 (st.1 + 1, st.2)).2).1 + 1)))
  else ((oneP n top c 48 10 (oneP n top c 48 10 (st.1 + 1, st.2)).2).2, upd (upd (upd X i (iN (c st.1))) (i + 1) (iN (oneP n top c 48 10 (st.1 + 1, st.2)).1)) (i + 2) (iN (oneP n top c 48 10 (oneP n top c 48 10 (st.1 + 1, st.2)).2).1))
section YP
variable {n top fi mn ch N i k t : Nat} {c : Nat → Nat} {st : RSt} {X Y : Nat → Int32} {s0 : Nat × Bool} {b : Bool}
theorem tkY_0 : tkY (0, b) ch = if 0 < dgY ch then some (dgY ch, decide (ch = 109)) else none := if_pos rfl
theorem tkY_s : tkY (t + 1, b) ch = if (48 ≤ ch ∧ ch < 58) ∧ ¬ (b = true ∧ t + 1 = 1 ∧ ch = 48) then some (t, b) else none := by
  unfold tkY
  dsimp only
  rw [if_neg (by omega), Nat.add_sub_cancel]
theorem dgY_pos : 0 < dgY ch ↔ kdY ch := by
  unfold dgY kdY
  by_cases d : ch = 100
  · rw [if_pos d]; exact ⟨fun _ => Or.inl d, fun _ => by decide⟩
  · rw [if_neg d]
    by_cases e : ch = 103 ∨ ch = 109 ∨ ch = 116
    · rw [if_pos e]; exact ⟨fun _ => Or.inr e, fun _ => by decide⟩
    · rw [if_neg e]
      exact ⟨fun h => absurd h (by decide), fun h => by rcases h with h | h; exact absurd h d; exact absurd h e⟩
theorem rdA_100 (h : c st.1 = 100) : rdA n top c i st X = ((oneP n top c 48 10 (st.1 + 1, st.2)).2, upd (upd X i (iN (c st.1))) (i + 1) (iN (oneP n top c 48 10 (st.1 + 1, st.2)).1)) := if_pos h
theorem rdA_109 (h : c st.1 = 109) : rdA n top c i st X = ((oneP n top c 49 9 (oneP n top c 48 10 (st.1 + 1, st.2)).2).2, upd (upd (upd X i (iN (c st.1))) (i + 1) (iN (oneP n top c 48 10 (st.1 + 1, st.2)).1)) (i + 2) (iN ((oneP n top c 49 9 (oneP n top c 48 10 (st.1 + 1, st.2)).2).1 + 1))) := (if_neg (by omega)).trans (if_pos h)
theorem rdA_o (h : c st.1 ≠ 100) (h2 : c st.1 ≠ 109) : rdA n top c i st X = ((oneP n top c 48 10 (oneP n top c 48 10 (st.1 + 1, st.2)).2).2, upd (upd (upd X i (iN (c st.1))) (i + 1) (iN (oneP n top c 48 10 (st.1 + 1, st.2)).1)) (i + 2) (iN (oneP n top c 48 10 (oneP n top c 48 10 (st.1 + 1, st.2)).2).1)) := (if_neg h).trans (if_neg h2)
theorem rdA_out {j : Nat} (h : ¬ (i ≤ j ∧ j < i + 3)) : (rdA n top c i st X).2 j = X j := by
  by_cases d : c st.1 = 100
  · rw [rdA_100 d]
    show upd (upd X i _) (i + 1) _ j = _
    rw [upd_ne (by omega), upd_ne (by omega)]
  · by_cases e : c st.1 = 109
    · rw [rdA_109 e]
      show upd (upd (upd X i _) (i + 1) _) (i + 2) _ j = _
      rw [upd_ne (by omega), upd_ne (by omega), upd_ne (by omega)]
    · rw [rdA_o d e]
      show upd (upd (upd X i _) (i + 1) _) (i + 2) _ j = _
      rw [upd_ne (by omega), upd_ne (by omega), upd_ne (by omega)]
theorem RB.rdA (h : RB N (st.1 + 1, st.2)) (hn : n ≤ N) (hN : N < 1000) : RB N (rdA n top c i st X).1 := by
  by_cases d : c st.1 = 100
  · rw [rdA_100 d]; exact h.one hn hN
  · by_cases e : c st.1 = 109
    · rw [rdA_109 e]; exact (h.one hn hN).one hn hN
    · rw [rdA_o d e]; exact (h.one hn hN).one hn hN
theorem rdA_none (hk : kdY (c st.1)) (h : (rdA n top c i st X).1.2 = none) : st.2 = none ∧ (rdA n top c i st X).1.1 = st.1 + (if c st.1 = 100 then 2 else 3) ∧ (rdA n top c i st X).1.1 ≤ n ∧ (rdA n top c i st X).1.1 ≤ top ∧ ALc c st.1 ∧ ALv c st.1 i (rdA n top c i st X).2 := by
  by_cases d : c st.1 = 100
  · rw [rdA_100 d] at h ⊢
    rw [if_pos d]
    obtain ⟨e1, e2, e3, e4, e5, e6, e7⟩ := oneP_none h
    refine ⟨e1, e6, by rw [e6]; exact e2, by rw [e6]; exact e3, ⟨hk, ⟨e4, by dsimp only at e5; omega⟩, fun f => absurd d f, fun f => absurd d (by omega)⟩, ?_, ?_, fun f => absurd d f⟩
    · show upd (upd X i _) (i + 1) _ i = _
      rw [upd_ne (by omega), upd_eq]
    · show upd (upd X i _) (i + 1) _ (i + 1) = _
      rw [upd_eq, e7]
  · by_cases e : c st.1 = 109
    · rw [rdA_109 e] at h ⊢
      rw [if_neg d]
      obtain ⟨e1, e2, e3, e4, e5, e6, e7⟩ := oneP_none h
      obtain ⟨f1, f2, f3, f4, f5, f6, f7⟩ := oneP_none e1
      rw [f6] at e2 e3 e4 e5 e6 e7
      dsimp only at *
      have q4 : 49 ≤ c (st.1 + 2) := e4
      have q5 : c (st.1 + 2) < 49 + 9 := e5
      have q7 : (oneP n top c 49 9 (oneP n top c 48 10 (st.1 + 1, st.2)).2).1 = c (st.1 + 2) - 49 := e7
      refine ⟨f1, e6, by rw [e6]; exact e2, by rw [e6]; exact e3, ⟨hk, ⟨f4, by omega⟩, fun _ => ⟨by omega, by omega⟩, fun _ => e4⟩, ?_, ?_, fun _ => ?_⟩
      · show upd (upd (upd X i _) (i + 1) _) (i + 2) _ i = _
        rw [upd_ne (by omega), upd_ne (by omega), upd_eq]
      · show upd (upd (upd X i _) (i + 1) _) (i + 2) _ (i + 1) = _
        rw [upd_ne (by omega), upd_eq, f7]
      · show upd (upd (upd X i _) (i + 1) _) (i + 2) _ (i + 2) = _
        rw [upd_eq, q7]
        congr 1
        omega
    · rw [rdA_o d e] at h ⊢
      rw [if_neg d]
      obtain ⟨e1, e2, e3, e4, e5, e6, e7⟩ := oneP_none h
      obtain ⟨f1, f2, f3, f4, f5, f6, f7⟩ := oneP_none e1
      rw [f6] at e2 e3 e4 e5 e6 e7
      dsimp only at *
      refine ⟨f1, e6, by rw [e6]; exact e2, by rw [e6]; exact e3, ⟨hk, ⟨f4, by omega⟩, fun _ => ⟨e4, by omega⟩, fun f => absurd f e⟩, ?_, ?_, fun _ => ?_⟩
      · show upd (upd (upd X i _) (i + 1) _) (i + 2) _ i = _
        rw [upd_ne (by omega), upd_ne (by omega), upd_eq]
      · show upd (upd (upd X i _) (i + 1) _) (i + 2) _ (i + 1) = _
        rw [upd_ne (by omega), upd_eq, f7]
      · show upd (upd (upd X i _) (i + 1) _) (i + 2) _ (i + 2) = _
        rw [upd_eq, e7]
theorem Sim.rdA (h : Sim tkY mayY n top c s0 (0, b) st) (e : st.2 = none) (hl : st.1 < n ∧ st.1 < top) (hk : kdY (c st.1)) : ∃ b', Sim tkY mayY n top c s0 (0, b') (rdA n top c i st X).1 := by
  have h1 : Sim tkY mayY n top c s0 (dgY (c st.1), decide (c st.1 = 109)) (st.1 + 1, st.2) := by
    rw [e]
    exact h.ok e hl (by rw [tkY_0, if_pos (dgY_pos.mpr hk)])
  by_cases d : c st.1 = 100
  · rw [rdA_100 d]
    rw [show dgY (c st.1) = 0 + 1 by rw [d]; rfl, show decide (c st.1 = 109) = false from decide_eq_false (by omega)] at h1
    exact ⟨false, h1.one (fun ch => by rw [tkY_s]; by_cases f : 48 ≤ ch ∧ ch < 48 + 10; rw [if_pos ⟨by omega, fun g => by cases g.1⟩, if_pos f]; rw [if_neg (fun g => f ⟨g.1.1, by omega⟩), if_neg f]) (decide_eq_false (by dsimp only; omega))⟩
  · by_cases f : c st.1 = 109
    · rw [rdA_109 f]
      rw [show dgY (c st.1) = 1 + 1 by rw [f]; rfl, show decide (c st.1 = 109) = true from decide_eq_true f] at h1
      have h2 : Sim tkY mayY n top c s0 (0 + 1, true) (oneP n top c 48 10 (st.1 + 1, st.2)).2 := h1.one (fun ch => by rw [tkY_s]; by_cases f : 48 ≤ ch ∧ ch < 48 + 10; rw [if_pos ⟨by omega, fun g => absurd g.2.1 (by decide)⟩, if_pos f]; rw [if_neg (fun g => f ⟨g.1.1, by omega⟩), if_neg f]) (decide_eq_false (by dsimp only; omega))
      exact ⟨true, h2.one (fun ch => by
        rw [tkY_s]
        by_cases f : 49 ≤ ch ∧ ch < 49 + 9
        · rw [if_pos ⟨by omega, fun g => by have := g.2.2; omega⟩, if_pos f]
        · rw [if_neg (fun g => by
            have : ¬ ch = 48 := fun q => g.2 ⟨rfl, rfl, q⟩
            omega), if_neg f]) (decide_eq_false (by dsimp only; omega))⟩
    · rw [rdA_o d f]
      rw [show dgY (c st.1) = 1 + 1 by unfold dgY; unfold kdY at hk; rw [if_neg d, if_pos (by omega)], show decide (c st.1 = 109) = false from decide_eq_false f] at h1
      have h2 : Sim tkY mayY n top c s0 (0 + 1, false) (oneP n top c 48 10 (st.1 + 1, st.2)).2 := h1.one (fun ch => by rw [tkY_s]; by_cases f : 48 ≤ ch ∧ ch < 48 + 10; rw [if_pos ⟨by omega, fun g => by cases g.1⟩, if_pos f]; rw [if_neg (fun g => f ⟨g.1.1, by omega⟩), if_neg f]) (decide_eq_false (by dsimp only; omega))
      exact ⟨false, h2.one (fun ch => by rw [tkY_s]; by_cases f : 48 ≤ ch ∧ ch < 48 + 10; rw [if_pos ⟨by omega, fun g => by cases g.1⟩, if_pos f]; rw [if_neg (fun g => f ⟨g.1.1, by omega⟩), if_neg f]) (decide_eq_false (by dsimp only; omega))⟩
theorem ALv.congr {a : Nat} (h : ALv c a i X) (e : ∀ j, i ≤ j → j < i + 3 → Y j = X j) : ALv c a i Y := ⟨(e i (by omega) (by omega)).trans h.1, (e (i + 1) (by omega) (by omega)).trans h.2.1, fun d => (e (i + 2) (by omega) (by omega)).trans (h.2.2 d)⟩
theorem psY_ge : ∀ k, 2 * k ≤ psY c k
  | 0 => Nat.le_refl _
  | k + 1 => by
    show _ ≤ psY c k + _
    have := psY_ge k
    split <;> omega
end YP
