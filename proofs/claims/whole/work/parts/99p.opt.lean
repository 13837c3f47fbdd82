/-! SHARES: the most that can be gained -/
def cnT (T : Nat → Bool) : Nat → Nat
  | 0 => 0
  | k + 1 => cnT T k + (if T k then 1 else 0)
def swT (ga : Nat → Nat → Nat) (T : Nat → Bool) (g : Nat) : Nat → Nat
  | 0 => 0
  | k + 1 => swT ga T g k + (if T k then ga k g else 0)
def dcL (lf : Nat → Nat) (g : Nat) : Nat → Nat := fun x => if x = g then lf x - 1 else lf x
/-- so much can be gained by the grounds below g, by what is left, by people of S -/
def Ach (ga : Nat → Nat → Nat) : Nat → (Nat → Nat) → (Nat → Bool) → Nat → Prop
  | 0, _, _, v => v = 0
  | g + 1, lf, S, v => ∃ T : Nat → Bool, (∀ q, T q = true → S q = true) ∧ cnT T 6 ≤ lf g ∧ ∃ v', Ach ga g lf (fun q => S q && !T q) v' ∧ v = v' + swT ga T g 6
def IsMx (v : Nat) (Q : Nat → Prop) : Prop := Q v ∧ ∀ w, Q w → w ≤ v
def woS (S : Nat → Bool) (q : Nat) : Nat → Bool := fun x => S x && !(x == q)
section OP
variable {ga : Nat → Nat → Nat} {g g' q v w n p r : Nat} {lf lf' : Nat → Nat} {S S' T : Nat → Bool}
theorem Ach.mono : ∀ {g : Nat} {S S' : Nat → Bool} {v : Nat}, (∀ q, S q = true → S' q = true) → Ach ga g lf S v → Ach ga g lf S' v
  | 0, _, _, _, _, h => h
  | g + 1, S, S', v, hs, ⟨T, h1, h2, v', h3, h4⟩ => by
    refine ⟨T, fun q hq => hs q (h1 q hq), h2, v', Ach.mono (fun q hq => ?_) h3, h4⟩
    cases e : T q with
    | true => rw [e] at hq; simp at hq
    | false => rw [e] at hq; simp at hq; rw [hs q hq]; rfl
theorem Ach.cong : ∀ {g : Nat} {S : Nat → Bool} {v : Nat}, (∀ x, x < g → lf' x = lf x) → Ach ga g lf S v → Ach ga g lf' S v
  | 0, _, _, _, h => h
  | g + 1, S, v, hl, ⟨T, h1, h2, v', h3, h4⟩ => ⟨T, h1, by rw [hl g (by omega)]; exact h2, v', Ach.cong (fun x hx => hl x (by omega)) h3, h4⟩
theorem cnT_wo (hT : T q = true) : ∀ n, q < n → cnT T n = cnT (woS T q) n + 1
  | 0, h => absurd h (Nat.not_lt_zero _)
  | n + 1, h => by
    show cnT T n + (if T n then 1 else 0) = cnT (woS T q) n + (if woS T q n then 1 else 0) + 1
    by_cases e : q = n
    · subst e
      have : ∀ k, k ≤ q → cnT (woS T q) k = cnT T k := by
        intro k
        induction k with
        | zero => intro _; rfl
        | succ k ih =>
          intro hk
          show cnT (woS T q) k + (if woS T q k then 1 else 0) = cnT T k + (if T k then 1 else 0)
          rw [ih (by omega), show woS T q k = T k by unfold woS; rw [show (k == q) = false by simp; omega]; simp]
      rw [this q (Nat.le_refl q), hT, show woS T q q = false by unfold woS; simp]
      rfl
    · rw [cnT_wo hT n (by omega), show woS T q n = T n by unfold woS; rw [show (n == q) = false by simp; omega]; simp]
      omega
theorem swT_wo (hT : T q = true) : ∀ n, q < n → swT ga T g n = swT ga (woS T q) g n + ga q g
  | 0, h => absurd h (Nat.not_lt_zero _)
  | n + 1, h => by
    show swT ga T g n + (if T n then ga n g else 0) = swT ga (woS T q) g n + (if woS T q n then ga n g else 0) + ga q g
    by_cases e : q = n
    · subst e
      have : ∀ k, k ≤ q → swT ga (woS T q) g k = swT ga T g k := by
        intro k
        induction k with
        | zero => intro _; rfl
        | succ k ih =>
          intro hk
          show swT ga (woS T q) g k + (if woS T q k then ga k g else 0) = swT ga T g k + (if T k then ga k g else 0)
          rw [ih (by omega), show woS T q k = T k by unfold woS; rw [show (k == q) = false by simp; omega]; simp]
      rw [this q (Nat.le_refl q), hT, show woS T q q = false by unfold woS; simp]
      simp
    · rw [swT_wo hT n (by omega), show woS T q n = T n by unfold woS; rw [show (n == q) = false by simp; omega]; simp]
      omega
/-- one of S goes without, or one ground goes to it -/
theorem Ach.rem (hq : q < 6) : ∀ {g : Nat} {S : Nat → Bool} {v : Nat}, S q = true → Ach ga g lf S v → Ach ga g lf (woS S q) v ∨ ∃ g', g' < g ∧ 0 < lf g' ∧ ∃ v', Ach ga g (dcL lf g') (woS S q) v' ∧ v = v' + ga q g'
  | 0, S, v, _, h => Or.inl h
  | g + 1, S, v, hS, ⟨T, h1, h2, v', h3, h4⟩ => by
    cases e : T q with
    | true =>
      have c1 := cnT_wo e 6 hq
      have c2 := swT_wo (ga := ga) (g := g) e 6 hq
      refine Or.inr ⟨g, by omega, by omega, v' + swT ga (woS T q) g 6, ⟨woS T q, fun x hx => ?_, ?_, v', ?_, rfl⟩, by omega⟩
      · unfold woS at hx ⊢
        simp at hx ⊢
        exact ⟨h1 x hx.1, hx.2⟩
      · show cnT (woS T q) 6 ≤ dcL lf g g
        unfold dcL
        rw [if_pos rfl]
        omega
      · refine Ach.cong (lf := lf) (fun x hx => by unfold dcL; rw [if_neg (by omega)]) ?_
        have ef : (fun x => woS S q x && !woS T q x) = (fun x => S x && !T x) := by
          funext x
          unfold woS
          by_cases ex : x = q
          · subst ex; simp [e]
          · rw [show (x == q) = false by simp; exact ex]; simp
        rw [ef]
        exact h3
    | false =>
      have hS2 : (fun x => S x && !T x) q = true := by show (S q && !T q) = true; rw [hS, e]; rfl
      have ef : woS (fun x => S x && !T x) q = (fun x => woS S q x && !T x) := by
        funext x
        unfold woS
        dsimp only
        generalize S x = a0
        generalize T x = a1
        generalize (x == q) = a2
        revert a0 a1 a2
        decide
      have tsub : ∀ x, T x = true → woS S q x = true := fun x hx => by
        unfold woS
        rw [h1 x hx, show (x == q) = false by simp; intro f; subst f; rw [e] at hx; cases hx]
        rfl
      rcases Ach.rem hq hS2 h3 with a | ⟨g', a1, a2, v'', a3, a4⟩
      · rw [ef] at a
        exact Or.inl ⟨T, tsub, h2, v', a, h4⟩
      · rw [ef] at a3
        refine Or.inr ⟨g', by omega, a2, v'' + swT ga T g 6, ⟨T, tsub, ?_, v'', a3, rfl⟩, by omega⟩
        show cnT T 6 ≤ dcL lf g' g
        unfold dcL
        rw [if_neg (by omega)]
        exact h2
theorem cnT_add (hT : T q = false) (n : Nat) (h : q < n) : cnT (fun x => T x || x == q) n = cnT T n + 1 := by
  have := cnT_wo (T := fun x => T x || x == q) (q := q) (by simp) n h
  rw [this]
  have ef : woS (fun x => T x || x == q) q = T := by
    funext x
    unfold woS
    by_cases ex : x = q
    · subst ex; simp [hT]
    · rw [show (x == q) = false by simp; exact ex]; simp; intro f; exact absurd f ex
  rw [ef]
theorem swT_add (hT : T q = false) (n : Nat) (h : q < n) : swT ga (fun x => T x || x == q) g n = swT ga T g n + ga q g := by
  have := swT_wo (ga := ga) (g := g) (T := fun x => T x || x == q) (q := q) (by simp) n h
  rw [this]
  have ef : woS (fun x => T x || x == q) q = T := by
    funext x
    unfold woS
    by_cases ex : x = q
    · subst ex; simp [hT]
    · rw [show (x == q) = false by simp; exact ex]; simp; intro f; exact absurd f ex
  rw [ef]
theorem Ach.add (hq : q < 6) : ∀ {g : Nat} {S : Nat → Bool} {v : Nat}, S q = true → g' < g → 0 < lf g' → Ach ga g (dcL lf g') (woS S q) v → Ach ga g lf S (v + ga q g')
  | 0, S, v, _, h, _, _ => absurd h (Nat.not_lt_zero _)
  | g + 1, S, v, hS, hg, hl, ⟨T, h1, h2, v', h3, h4⟩ => by
    have tq : T q = false := by
      cases e : T q with
      | false => rfl
      | true =>
        have := h1 q e
        unfold woS at this
        simp at this
    have tS : ∀ x, T x = true → S x = true := fun x hx => by
      have := h1 x hx
      unfold woS at this
      simp at this
      exact this.1
    by_cases eg : g' = g
    · subst eg
      have h2' : cnT T 6 ≤ lf g' - 1 := by
        have : dcL lf g' g' = lf g' - 1 := if_pos rfl
        omega
      refine ⟨fun x => T x || x == q, fun x hx => ?_, by rw [cnT_add tq 6 hq]; omega, v', ?_, by rw [swT_add tq 6 hq]; omega⟩
      · simp at hx
        rcases hx with e | e
        · exact tS x e
        · rw [e]; exact hS
      · have h5 := Ach.cong (lf' := lf) (fun x hx => (if_neg (show ¬ x = g' by omega)).symm) h3
        have ef : (fun x => S x && !(T x || x == q)) = (fun x => woS S q x && !T x) := by
          funext x
          unfold woS
          generalize S x = a0
          generalize T x = a1
          generalize (x == q) = a2
          revert a0 a1 a2
          decide
        show Ach ga g' lf (fun x => S x && !(T x || x == q)) v'
        rw [ef]
        exact h5
    · have ef : woS (fun x => S x && !T x) q = (fun x => woS S q x && !T x) := by
        funext x
        unfold woS
        dsimp only
        generalize S x = a0
        generalize T x = a1
        generalize (x == q) = a2
        revert a0 a1 a2
        decide
      have h2' : cnT T 6 ≤ lf g := by
        have : dcL lf g' g = lf g := if_neg (by omega)
        omega
      rw [← ef] at h3
      exact ⟨T, tS, h2', v' + ga q g', Ach.add hq (by show (S q && !T q) = true; rw [hS, tq]; rfl) (by omega) hl h3, by omega⟩
/-- the greatest of b and what is below n -/
def mxQ (f : Nat → Nat) (b : Nat) : Nat → Nat
  | 0 => b
  | n + 1 => max (mxQ f b n) (f n)
theorem mxQ_b {f : Nat → Nat} {b : Nat} : ∀ n, b ≤ mxQ f b n
  | 0 => Nat.le_refl _
  | n + 1 => Nat.le_trans (mxQ_b n) (Nat.le_max_left _ _)
theorem mxQ_f {f : Nat → Nat} {b k : Nat} : ∀ n, k < n → f k ≤ mxQ f b n
  | 0, h => absurd h (Nat.not_lt_zero _)
  | n + 1, h => by
    by_cases e : k = n
    · subst e; exact Nat.le_max_right _ _
    · exact Nat.le_trans (mxQ_f n (by omega)) (Nat.le_max_left _ _)
theorem mxQ_or {f : Nat → Nat} {b : Nat} : ∀ n, mxQ f b n = b ∨ ∃ k, k < n ∧ mxQ f b n = f k
  | 0 => Or.inl rfl
  | n + 1 => by
    show max (mxQ f b n) (f n) = b ∨ ∃ k, k < n + 1 ∧ max (mxQ f b n) (f n) = f k
    rcases Nat.le_total (mxQ f b n) (f n) with h | h
    · exact Or.inr ⟨n, by omega, Nat.max_eq_right h⟩
    · rw [Nat.max_eq_left h]
      rcases mxQ_or n with e | ⟨k, h1, h2⟩
      · exact Or.inl e
      · exact Or.inr ⟨k, by omega, h2⟩
/-- the most that r people from p on gain -/
def optR (ga : Nat → Nat → Nat) (G : Nat) : Nat → Nat → (Nat → Nat) → Nat
  | 0, _, _ => 0
  | r + 1, p, lf => mxQ (fun g => if 0 < lf g then ga p g + optR ga G r (p + 1) (dcL lf g) else 0) (optR ga G r (p + 1) lf) G
def ppl (p r : Nat) : Nat → Bool := fun q => decide (p ≤ q ∧ q < p + r)
theorem ppl_wo : woS (ppl p (r + 1)) p = ppl (p + 1) r := by
  funext x
  unfold woS ppl
  by_cases e : x = p
  · subst e
    rw [decide_eq_false (show ¬ (x + 1 ≤ x ∧ x < x + 1 + r) by omega)]
    simp
  · rw [show (x == p) = false by simp; exact e]
    by_cases d : p ≤ x ∧ x < p + (r + 1)
    · rw [decide_eq_true d, decide_eq_true (show p + 1 ≤ x ∧ x < p + 1 + r by omega)]; rfl
    · rw [decide_eq_false d, decide_eq_false (show ¬ (p + 1 ≤ x ∧ x < p + 1 + r) by omega)]; rfl
theorem Ach_none : ∀ {g : Nat} {S : Nat → Bool} {v : Nat}, (∀ q, S q = false) → Ach ga g lf S v → v = 0
  | 0, _, _, _, h => h
  | g + 1, S, v, hs, ⟨T, h1, h2, v', h3, h4⟩ => by
    have t0 : ∀ q, T q = false := fun q => by
      cases e : T q with
      | false => rfl
      | true => have := h1 q e; rw [hs q] at this; cases this
    have s0 : ∀ n, swT ga T g n = 0 := by
      intro n
      induction n with
      | zero => rfl
      | succ n ih => show swT ga T g n + (if T n then ga n g else 0) = 0; rw [ih, t0 n]; rfl
    have := Ach_none (fun q => by show (S q && !T q) = false; rw [hs q]; rfl) h3
    rw [h4, s0, this]
theorem Ach_zero : ∀ {g : Nat} {S : Nat → Bool}, Ach ga g lf S 0
  | 0, _ => rfl
  | g + 1, S => by
    have z : ∀ n, cnT (fun _ => false) n = 0 ∧ swT ga (fun _ => false) g n = 0 := by
      intro n
      induction n with
      | zero => exact ⟨rfl, rfl⟩
      | succ n ih => exact ⟨by show cnT _ n + (if false then 1 else 0) = 0; rw [ih.1]; rfl, by show swT ga _ g n + (if false then ga n g else 0) = 0; rw [ih.2]; rfl⟩
    refine ⟨fun _ => false, fun q h => ?_, ?_, 0, Ach_zero, ?_⟩
    · cases h
    · rw [(z 6).1]; exact Nat.zero_le _
    · rw [(z 6).2]
theorem opt_max {G : Nat} : ∀ r p lf, p + r ≤ 6 → IsMx (optR ga G r p lf) (Ach ga G lf (ppl p r))
  | 0, p, lf, _ => ⟨Ach_zero, fun w hw => by
    have : w = 0 := Ach_none (fun q => decide_eq_false (by omega)) hw
    rw [this]; exact Nat.zero_le _⟩
  | r + 1, p, lf, h => by
    have hp : ppl p (r + 1) p = true := decide_eq_true (by omega)
    obtain ⟨a1, a2⟩ := opt_max (G := G) r (p + 1) lf (by omega)
    refine ⟨?_, fun w hw => ?_⟩
    · show Ach ga G lf (ppl p (r + 1)) (mxQ _ _ G)
      rcases mxQ_or (f := fun g => if 0 < lf g then ga p g + optR ga G r (p + 1) (dcL lf g) else 0) (b := optR ga G r (p + 1) lf) G with e | ⟨g, hg, e⟩
      · rw [e]
        exact Ach.mono (fun q hq => decide_eq_true (by have := of_decide_eq_true hq; omega)) a1
      · rw [e]
        by_cases hl : 0 < lf g
        · rw [if_pos hl, Nat.add_comm (ga p g)]
          refine Ach.add (by omega) hp hg hl ?_
          rw [ppl_wo]
          exact (opt_max (G := G) r (p + 1) (dcL lf g) (by omega)).1
        · rw [if_neg hl]
          exact Ach_zero
    · show w ≤ mxQ _ _ G
      rcases Ach.rem (show p < 6 by omega) hp hw with a | ⟨g, h1, h2, v', h3, h4⟩
      · rw [ppl_wo] at a
        exact Nat.le_trans (a2 w a) (mxQ_b G)
      · rw [ppl_wo] at h3
        have h5 := (opt_max (G := G) r (p + 1) (dcL lf g) (by omega)).2 v' h3
        refine Nat.le_trans ?_ (mxQ_f (f := fun g => if 0 < lf g then ga p g + optR ga G r (p + 1) (dcL lf g) else 0) (b := optR ga G r (p + 1) lf) G h1)
        rw [if_pos h2]
        omega
theorem IsMx.uniq {Q : Nat → Prop} (h1 : IsMx v Q) (h2 : IsMx w Q) : v = w := Nat.le_antisymm (h2.2 v h1.1) (h1.2 w h2.1)
end OP
