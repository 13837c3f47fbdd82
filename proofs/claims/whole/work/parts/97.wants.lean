/-! WANTS: the model's lines -/
/-- where line k begins -/
def psW (tt : Nat → Nat) : Nat → Nat
  | 0 => 0
  | k + 1 => psW tt k + 3 * tt k + 1
theorem psW_congr {f g : Nat → Nat} : ∀ k, (∀ j, j < k → f j = g j) → psW f k = psW g k
  | 0, _ => rfl
  | k + 1, h => by
    show psW f k + 3 * f k + 1 = psW g k + 3 * g k + 1
    rw [psW_congr k (fun j hj => h j (by omega)), h k (by omega)]
theorem psW_mono {f : Nat → Nat} {j : Nat} : ∀ k, j < k → psW f j + 3 * f j + 1 ≤ psW f k
  | 0, h => absurd h (Nat.not_lt_zero _)
  | k + 1, h => by
    show _ ≤ psW f k + 3 * f k + 1
    by_cases e : j = k
    · subst e; exact Nat.le_refl _
    · have := psW_mono (f := f) (j := j) k (by omega)
      omega
/-- a line of m terms from a on, read into X from i on -/
def WL2 (c : Nat → Nat) (a i m : Nat) (X : Nat → Int32) : Prop := ∀ j, j < m → TLc c (a + 3 * j) ∧ TLv c (a + 3 * j) (i + 3 * j) X
section WR
variable {I A E I' A' : Nat → Nat → Int32} {L L' : Nat → Int64} {pr ot s : Nat} {J J' : Nat → Int32} {B B' : Nat → Nat → Int32} {M M' : Nat → Int64} {rdv rdv' : Value} {ru : Nat} {T : PH} {G P W n top fi mn w da room most o k N i t a : Nat} {c : Nat → Nat} {st : RSt} {X Y : Nat → Int32} {s0 : Nat × Nat × Nat}
theorem TLv.congr (h : TLv c a i X) (e : ∀ j, i ≤ j → j < i + 3 → Y j = X j) : TLv c a i Y := ⟨(e i (by omega) (by omega)).trans h.1, (e (i + 1) (by omega) (by omega)).trans h.2.1, (e (i + 2) (by omega) (by omega)).trans h.2.2⟩
theorem WL2.congr {m : Nat} (h : WL2 c a i m X) (e : ∀ j, i ≤ j → j < i + 3 * m → Y j = X j) : WL2 c a i m Y := fun j hj => ⟨(h j hj).1, (h j hj).2.congr (fun q h1 h2 => e q (by omega) (by omega))⟩
theorem r_readWant (hR : ∀ X, RD J (u1 B 19 X) rdv n top c) (hk : k < room) (hi : i + 9 ≤ 64) (hn : n ≤ 80) (kx : Int32 → PH → Option (Int32 × PH)) : ∀ d t st X, t + d = 3 → Sim (tkW room) mayW n top c s0 (wtS k t) st → RB 82 st → (st.2 = none → RB 80 st ∧ st.1 = a + 3 * t ∧ WL2 c a i t X) → (t = 0 → st.2 = none) →
    ∃ t' st' X', (∀ m, d + 2 < m → fX12_readWant_L2 45 (iN i) kx m (iN t) (encC I E L pr ot (encR (pj J st) (u1 B 19 X) M rdv ru T)) = kx (iN t') (encC I E L pr ot (encR (pj J st') (u1 B 19 X') M rdv ru T))) ∧ RB 82 st' ∧ Sim (tkW room) mayW n top c s0 (k + 1, t', 0) st' ∧ (∀ j, ¬ (i ≤ j ∧ j < i + 9) → X' j = X j) ∧ (st'.2 = none → RB 80 st' ∧ 1 ≤ t' ∧ t' ≤ 3 ∧ st'.1 = a + 3 * t' ∧ WL2 c a i t' X' ∧ ¬ (st'.1 < n ∧ st'.1 < top ∧ 97 ≤ c st'.1 ∧ c st'.1 < 101)) := by
  intro d
  induction d with
  | zero =>
    intro t st X ht hS hb hx h0
    cases (show t = 3 by omega)
    have hS' : Sim (tkW room) mayW n top c s0 (k + 1, 3, 0) st := hS
    cases e : st.2 with
    | some q =>
      refine ⟨3, st, X, fun m hm => ?_, hb, hS', fun _ _ => rfl, fun f => by rw [e] at f; cases f⟩
      obtain ⟨m, rfl⟩ : ∃ m', m = m' + 1 := ⟨m - 1, by omega⟩
      rw [fX12_readWant_L2, brK, hb_of (r_fine1 e (hb.2 q e)), if_pos rfl]
    | none =>
      obtain ⟨b1, b2, b3⟩ := hx e
      have hh := r_here (I := I) (E := E) (L := L) (pr := pr) (ot := ot) (M := M) (ru := ru) (T := T) (st := st) (hR X) (show st.1 < 1000 by have := hb.1; omega)
      by_cases dd : st.1 < n ∧ st.1 < top ∧ 97 ≤ c st.1 ∧ c st.1 < 101
      · have e1 := r_fault (I := I) (E := E) (L := L) (pr := pr) (ot := ot) (J := J) (B := u1 B 19 X) (M := M) (rdv := rdv) (ru := ru) (T := T) (st := st) hb.2
        have ef : (fltP st).2 = some st.1 := by unfold fltP; rw [if_pos e]
        refine ⟨4, fltP st, X, fun m hm => ?_, ⟨hb.1, fun q f => by rw [ef] at f; cases f; have := hb.1; omega⟩, hS'.flt e (fun _ _ => by rw [tkW_t (by decide), if_neg (by omega), if_neg (by omega)]) (fun f _ => absurd dd.1 (by omega)), fun _ _ => rfl, fun f => by rw [ef] at f; cases f⟩
        obtain ⟨m, rfl⟩ : ∃ m', m = m' + 2 := ⟨m - 2, by omega⟩
        rw [fX12_readWant_L2, brK, hb_of (r_fine0 e), if_neg (by decide), if_neg (show ¬ iN 3 = 0 by decide), brK, hb_of hh, hb_of (r_isHum (hR X).2.2.2.2.1), if_pos dd, if_neg (by decide)]
        unfold fX12_readWant_J23_2 fX12_readWant_J145_2
        rw [if_pos (show iN 3 = 3 from rfl), brG_17, pj_17, brK, hb_of e1, letE_eq, show iN 3 + (1 : Int32) = iN 4 from rfl, fX12_readWant_L2, brK, hb_of (r_fine1 ef (by have := hb.1; omega)), if_pos rfl]
      · refine ⟨3, st, X, fun m hm => ?_, hb, hS', fun _ _ => rfl, fun _ => ⟨b1, by decide, by decide, b2, b3, dd⟩⟩
        obtain ⟨m, rfl⟩ : ∃ m', m = m' + 1 := ⟨m - 1, by omega⟩
        rw [fX12_readWant_L2, brK, hb_of (r_fine0 e), if_neg (by decide), if_neg (show ¬ iN 3 = 0 by decide), brK, hb_of hh, hb_of (r_isHum (hR X).2.2.2.2.1), if_neg dd, if_pos rfl]
  | succ d ih =>
    intro t st X ht hS hb hx h0
    cases e : st.2 with
    | some q =>
      have t0 : t ≠ 0 := fun f => by rw [h0 f] at e; cases e
      have hS' : Sim (tkW room) mayW n top c s0 (k + 1, t, 0) st := by
        have : wtS k t = (k + 1, t, 0) := if_neg t0
        rw [← this]; exact hS
      refine ⟨t, st, X, fun m hm => ?_, hb, hS', fun _ _ => rfl, fun f => by rw [e] at f; cases f⟩
      obtain ⟨m, rfl⟩ : ∃ m', m = m' + 1 := ⟨m - 1, by omega⟩
      rw [fX12_readWant_L2, brK, hb_of (r_fine1 e (hb.2 q e)), if_pos rfl]
    | none =>
      obtain ⟨b1, b2, b3⟩ := hx e
      have hh := r_here (I := I) (E := E) (L := L) (pr := pr) (ot := ot) (M := M) (ru := ru) (T := T) (st := st) (hR X) (show st.1 < 1000 by have := hb.1; omega)
      have go : (t ≠ 0 → st.1 < n ∧ st.1 < top ∧ 97 ≤ c st.1 ∧ c st.1 < 101) → ∃ t' st' X', (∀ m, d + 2 < m → fX12_readWant_J23_2 (fX12_readWant_L2 45 (iN i) kx m) kx 45 (iN i) (iN t) (encC I E L pr ot (encR (pj J st) (u1 B 19 X) M rdv ru T)) = kx (iN t') (encC I E L pr ot (encR (pj J st') (u1 B 19 X') M rdv ru T))) ∧ RB 82 st' ∧ Sim (tkW room) mayW n top c s0 (k + 1, t', 0) st' ∧ (∀ j, ¬ (i ≤ j ∧ j < i + 9) → X' j = X j) ∧ (st'.2 = none → RB 80 st' ∧ 1 ≤ t' ∧ t' ≤ 3 ∧ st'.1 = a + 3 * t' ∧ WL2 c a i t' X' ∧ ¬ (st'.1 < n ∧ st'.1 < top ∧ 97 ≤ c st'.1 ∧ c st'.1 < 101)) := by
        intro hl
        have hS1 := hS.rdT (i := i + 3 * t) (X := X) hk (by omega) e hl
        have hb1 : RB 81 (rdT n top c (i + 3 * t) st X).1 := b1.rdT hn (by decide)
        obtain ⟨t', st', X', g1, g2, g3, g4, g5⟩ := ih (t + 1) (rdT n top c (i + 3 * t) st X).1 (rdT n top c (i + 3 * t) st X).2 (by omega) (by rw [wtS_s]; exact hS1) (hb1.mono (by decide)) (fun f => by
          obtain ⟨f1, f2, f3, f4, f5⟩ := rdT_none f
          refine ⟨⟨by rw [f2]; omega, hb1.2⟩, by rw [f2, b2]; omega, fun j hj => ?_⟩
          by_cases ej : j = t
          · subst ej
            rw [← b2]
            exact ⟨f4, f5⟩
          · exact ⟨(b3 j (by omega)).1, (b3 j (by omega)).2.congr (fun q h1 h2 => rdT_out (by omega))⟩) (fun f => by cases f)
        refine ⟨t', st', X', fun m hm => ?_, g2, g3, fun j hj => (g4 j hj).trans (rdT_out (by omega)), g5⟩
        exact (r_J23 (hR X) (b1.mono (by decide)) hi (by omega) _ _).trans (g1 m hm)
      by_cases t0 : t = 0
      · obtain ⟨t', st', X', g1, g2⟩ := go (fun f => absurd t0 f)
        refine ⟨t', st', X', fun m hm => ?_, g2⟩
        obtain ⟨m, rfl⟩ : ∃ m', m = m' + 1 := ⟨m - 1, by omega⟩
        rw [fX12_readWant_L2, brK, hb_of (r_fine0 e), if_neg (by decide), if_pos (show iN t = 0 by rw [t0]; rfl)]
        exact g1 m (by omega)
      · have tn : ¬ iN t = 0 := by rw [show (0 : Int32) = iN 0 from rfl, iN_eq (by omega) (by omega)]; exact t0
        by_cases dd : st.1 < n ∧ st.1 < top ∧ 97 ≤ c st.1 ∧ c st.1 < 101
        · obtain ⟨t', st', X', g1, g2⟩ := go (fun _ => dd)
          refine ⟨t', st', X', fun m hm => ?_, g2⟩
          obtain ⟨m, rfl⟩ : ∃ m', m = m' + 1 := ⟨m - 1, by omega⟩
          rw [fX12_readWant_L2, brK, hb_of (r_fine0 e), if_neg (by decide), if_neg tn, brK, hb_of hh, hb_of (r_isHum (hR X).2.2.2.2.1), if_pos dd, if_neg (by decide)]
          exact g1 m (by omega)
        · have hS' : Sim (tkW room) mayW n top c s0 (k + 1, t, 0) st := by
            have : wtS k t = (k + 1, t, 0) := if_neg t0
            rw [← this]; exact hS
          refine ⟨t, st, X, fun m hm => ?_, hb, hS', fun _ _ => rfl, fun _ => ⟨b1, by omega, by omega, b2, b3, dd⟩⟩
          obtain ⟨m, rfl⟩ : ∃ m', m = m' + 1 := ⟨m - 1, by omega⟩
          rw [fX12_readWant_L2, brK, hb_of (r_fine0 e), if_neg (by decide), if_neg tn, brK, hb_of hh, hb_of (r_isHum (hR X).2.2.2.2.1), if_neg dd, if_pos rfl]
end WR
