/-! SHARES: the line of greatest gain, and the model's greatest sum -/
def eO : Option Nat → Int32
  | none => -1
  | some g => iN g
def eB : Nat → Int32
  | 0 => -1
  | k + 1 => iN k
def clC (f : Nat → Nat) (b : Nat) : Nat → Option Nat
  | 0 => none
  | c + 1 => if mxQ f b c < f c then some c else clC f b c
def gF (ga : Nat → Nat → Nat) (G r p : Nat) (lf : Nat → Nat) : Nat → Nat := fun g => if 0 < lf g then ga p g + optR ga G r (p + 1) (dcL lf g) else 0
def dcO (lf : Nat → Nat) : Option Nat → Nat → Nat
  | none => lf
  | some g => dcL lf g
def chO (ga : Nat → Nat → Nat) (G r p : Nat) (lf : Nat → Nat) : Option Nat := clC (gF ga G r p lf) (optR ga G r (p + 1) lf) G
def lnR (ga : Nat → Nat → Nat) (G : Nat) : Nat → Nat → (Nat → Nat) → Nat → Int32
  | 0, _, _, _ => 0
  | r + 1, p, lf, q => if q = p then eO (chO ga G r p lf) else lnR ga G r (p + 1) (dcO lf (chO ga G r p lf)) q
def mbC (ok : Nat → Bool) (val : Nat → Nat) (ln : Nat → Nat → Int32) (b : Nat × (Nat → Int32)) : Nat → Nat × (Nat → Int32)
  | 0 => b
  | c + 1 => if ok c && decide ((mbC ok val ln b c).1 < val c) then (val c, ln c) else mbC ok val ln b c
def mbl (wo : Nat → Nat) (wi : Nat → Nat → Nat) (hd : Nat → Nat → Bool) (G : Nat) : Nat → Nat → (Nat → Nat) → Nat × (Nat → Int32)
  | 0, _, _ => (0, fun _ => 0)
  | r + 1, p, lf => mbC (fun c => decide (0 < lf c) && !hd p c) (fun c => wi p c + (mbl wo wi hd G r (p + 1) (dcL lf c)).1) (fun c => upd (mbl wo wi hd G r (p + 1) (dcL lf c)).2 p (iN c)) (wo p + (mbl wo wi hd G r (p + 1) lf).1, upd (mbl wo wi hd G r (p + 1) lf).2 p (-1)) G
def woR (wo : Nat → Nat) : Nat → Nat → Nat
  | 0, _ => 0
  | r + 1, p => wo p + woR wo r (p + 1)
section UL
variable {ga wi : Nat → Nat → Nat} {wo st : Nat → Nat} {hd : Nat → Nat → Bool} {g q v w n p r f G K X Y b c k t W : Nat} {lf lf' : Nat → Nat} {S T : Nat → Bool} {F : Nat → Nat}
theorem Ach.lfm : ∀ {g : Nat} {S : Nat → Bool} {v : Nat}, (∀ x, lf x ≤ lf' x) → Ach ga g lf S v → Ach ga g lf' S v
  | 0, _, _, _, h => h
  | g + 1, S, v, hl, ⟨T, h1, h2, v', h3, h4⟩ => ⟨T, h1, Nat.le_trans h2 (hl g), v', Ach.lfm hl h3, h4⟩
theorem dcL_le {x : Nat} : dcL lf g x ≤ lf x := by unfold dcL; split <;> omega
theorem opt_dc (h : p + r ≤ 6) : optR ga G r p (dcL lf g) ≤ optR ga G r p lf :=
  (opt_max (ga := ga) (G := G) r p lf h).2 _ (Ach.lfm (fun _ => dcL_le) (opt_max (ga := ga) (G := G) r p (dcL lf g) h).1)
theorem mxQ_mono : ∀ {k n : Nat}, k ≤ n → mxQ F b k ≤ mxQ F b n
  | k, 0, h => by rw [Nat.le_zero.mp h]; exact Nat.le_refl _
  | k, n + 1, h => by
    by_cases e : k = n + 1
    · rw [e]; exact Nat.le_refl _
    · exact Nat.le_trans (mxQ_mono (show k ≤ n by omega)) (Nat.le_max_left _ _)
theorem cl_none (h : mxQ F b G = b) : ∀ c, c ≤ G → clC F b c = none
  | 0, _ => rfl
  | c + 1, hc => by
    have h1 := mxQ_mono (F := F) (b := b) hc
    have h2 : max (mxQ F b c) (F c) ≤ mxQ F b G := h1
    have h3 := mxQ_b (f := F) (b := b) c
    show (if mxQ F b c < F c then some c else clC F b c) = none
    rw [if_neg (by omega)]
    exact cl_none h c (by omega)
theorem mxQ_lt (hb : b < t) : ∀ k, (∀ x, x < k → F x < t) → mxQ F b k < t
  | 0, _ => hb
  | k + 1, h => by
    show max (mxQ F b k) (F k) < t
    have h1 := mxQ_lt hb k (fun x hx => h x (by omega))
    have h2 := h k (by omega)
    omega
theorem cl_some (hb : b < mxQ F b G) (hk : k < G) (h1 : ∀ x, x < k → F x < mxQ F b G) (h2 : F k = mxQ F b G) : ∀ c, k < c → c ≤ G → clC F b c = some k
  | 0, h, _ => absurd h (Nat.not_lt_zero _)
  | c + 1, hc, hG => by
    show (if mxQ F b c < F c then some c else clC F b c) = some k
    by_cases e : k = c
    · subst e
      rw [if_pos (by rw [h2]; exact mxQ_lt hb k h1)]
    · have h3 := mxQ_f (f := F) (b := b) c (show k < c by omega)
      have h4 : max (mxQ F b c) (F c) ≤ mxQ F b G := mxQ_mono hG
      rw [if_neg (by omega)]
      exact cl_some hb hk h1 h2 c (by omega) (by omega)
theorem cl_or : ∀ c, (clC F b c = none ∧ mxQ F b c = b) ∨ ∃ g, g < c ∧ clC F b c = some g ∧ mxQ F b c = F g
  | 0 => Or.inl ⟨rfl, rfl⟩
  | c + 1 => by
    show ((if mxQ F b c < F c then some c else clC F b c) = none ∧ max (mxQ F b c) (F c) = b) ∨ ∃ g, g < c + 1 ∧ (if mxQ F b c < F c then some c else clC F b c) = some g ∧ max (mxQ F b c) (F c) = F g
    by_cases h : mxQ F b c < F c
    · rw [if_pos h]
      exact Or.inr ⟨c, by omega, rfl, Nat.max_eq_right (by omega)⟩
    · rw [if_neg h, Nat.max_eq_left (by omega)]
      rcases cl_or c with e | ⟨g, e1, e2⟩
      · exact Or.inl e
      · exact Or.inr ⟨g, by omega, e2⟩
theorem mbl_eq (h1 : ∀ p g, hd p g = true → ga p g = 0) (h2 : ∀ p g, hd p g = false → 0 < st g → ga p g = wi p g - wo p) :
    ∀ r p lf, p + r ≤ 6 → (∀ g, 0 < lf g → 0 < st g) → (mbl wo wi hd G r p lf).1 = woR wo r p + optR ga G r p lf ∧ ∀ q, p ≤ q → q < p + r → (mbl wo wi hd G r p lf).2 q = lnR ga G r p lf q
  | 0, p, lf, _, _ => ⟨rfl, fun q a b => absurd b (by omega)⟩
  | r + 1, p, lf, h6, hl => by
    obtain ⟨a1, a2⟩ := mbl_eq h1 h2 r (p + 1) lf (by omega) hl
    have ih := fun c => mbl_eq h1 h2 r (p + 1) (dcL lf c) (by omega) (fun g hg => hl g (Nat.lt_of_lt_of_le hg dcL_le))
    have key : ∀ c, (mbC (fun c => decide (0 < lf c) && !hd p c) (fun c => wi p c + (mbl wo wi hd G r (p + 1) (dcL lf c)).1) (fun c => upd (mbl wo wi hd G r (p + 1) (dcL lf c)).2 p (iN c)) (wo p + (mbl wo wi hd G r (p + 1) lf).1, upd (mbl wo wi hd G r (p + 1) lf).2 p (-1)) c).1 = wo p + woR wo r (p + 1) + mxQ (gF ga G r p lf) (optR ga G r (p + 1) lf) c ∧ (mbC (fun c => decide (0 < lf c) && !hd p c) (fun c => wi p c + (mbl wo wi hd G r (p + 1) (dcL lf c)).1) (fun c => upd (mbl wo wi hd G r (p + 1) (dcL lf c)).2 p (iN c)) (wo p + (mbl wo wi hd G r (p + 1) lf).1, upd (mbl wo wi hd G r (p + 1) lf).2 p (-1)) c).2 = upd (mbl wo wi hd G r (p + 1) (dcO lf (clC (gF ga G r p lf) (optR ga G r (p + 1) lf) c))).2 p (eO (clC (gF ga G r p lf) (optR ga G r (p + 1) lf) c)) := by
      intro c
      induction c with
      | zero => exact ⟨by show wo p + (mbl wo wi hd G r (p + 1) lf).1 = _ + optR ga G r (p + 1) lf; rw [a1]; omega, rfl⟩
      | succ c ihc =>
        generalize hcur : mbC (fun c => decide (0 < lf c) && !hd p c) (fun c => wi p c + (mbl wo wi hd G r (p + 1) (dcL lf c)).1) (fun c => upd (mbl wo wi hd G r (p + 1) (dcL lf c)).2 p (iN c)) (wo p + (mbl wo wi hd G r (p + 1) lf).1, upd (mbl wo wi hd G r (p + 1) lf).2 p (-1)) c = cur at ihc
        obtain ⟨i1, i2⟩ := ihc
        have e1 : mbC (fun c => decide (0 < lf c) && !hd p c) (fun c => wi p c + (mbl wo wi hd G r (p + 1) (dcL lf c)).1) (fun c => upd (mbl wo wi hd G r (p + 1) (dcL lf c)).2 p (iN c)) (wo p + (mbl wo wi hd G r (p + 1) lf).1, upd (mbl wo wi hd G r (p + 1) lf).2 p (-1)) (c + 1) = if (decide (0 < lf c) && !hd p c) && decide (cur.1 < wi p c + (mbl wo wi hd G r (p + 1) (dcL lf c)).1) then (wi p c + (mbl wo wi hd G r (p + 1) (dcL lf c)).1, upd (mbl wo wi hd G r (p + 1) (dcL lf c)).2 p (iN c)) else cur := by rw [← hcur]; rfl
        rw [e1, (ih c).1, i1]
        have e2 : clC (gF ga G r p lf) (optR ga G r (p + 1) lf) (c + 1) = if mxQ (gF ga G r p lf) (optR ga G r (p + 1) lf) c < gF ga G r p lf c then some c else clC (gF ga G r p lf) (optR ga G r (p + 1) lf) c := rfl
        have e3 : mxQ (gF ga G r p lf) (optR ga G r (p + 1) lf) (c + 1) = max (mxQ (gF ga G r p lf) (optR ga G r (p + 1) lf) c) (gF ga G r p lf c) := rfl
        have hb := mxQ_b (f := gF ga G r p lf) (b := optR ga G r (p + 1) lf) c
        have hd' := opt_dc (ga := ga) (G := G) (r := r) (p := p + 1) (lf := lf) (g := c) (by omega)
        rw [e2, e3]
        by_cases l0 : 0 < lf c
        · have eg : gF ga G r p lf c = ga p c + optR ga G r (p + 1) (dcL lf c) := if_pos l0
          cases hh : hd p c with
          | true =>
            have g0 := h1 p c hh
            have s2 : ((decide (0 < lf c) && !true) && decide (wo p + woR wo r (p + 1) + mxQ (gF ga G r p lf) (optR ga G r (p + 1) lf) c < wi p c + (woR wo r (p + 1) + optR ga G r (p + 1) (dcL lf c)))) = false := by
              rw [decide_eq_true l0]; rfl
            rw [if_neg (show ¬ mxQ (gF ga G r p lf) (optR ga G r (p + 1) lf) c < gF ga G r p lf c by omega), Nat.max_eq_left (by omega), if_neg (by rw [s2]; decide)]
            exact ⟨i1, i2⟩
          | false =>
            have g0 := h2 p c hh (hl c l0)
            by_cases hc : mxQ (gF ga G r p lf) (optR ga G r (p + 1) lf) c < gF ga G r p lf c
            · rw [if_pos hc, Nat.max_eq_right (by omega), decide_eq_true l0, decide_eq_true (by omega)]
              exact ⟨by show wi p c + (woR wo r (p + 1) + optR ga G r (p + 1) (dcL lf c)) = _; omega, rfl⟩
            · have s2 : ((decide (0 < lf c) && !false) && decide (wo p + woR wo r (p + 1) + mxQ (gF ga G r p lf) (optR ga G r (p + 1) lf) c < wi p c + (woR wo r (p + 1) + optR ga G r (p + 1) (dcL lf c)))) = false := by
                rw [decide_eq_false (show ¬ (wo p + woR wo r (p + 1) + mxQ (gF ga G r p lf) (optR ga G r (p + 1) lf) c < wi p c + (woR wo r (p + 1) + optR ga G r (p + 1) (dcL lf c))) by omega), Bool.and_false]
              rw [if_neg (show ¬ mxQ (gF ga G r p lf) (optR ga G r (p + 1) lf) c < gF ga G r p lf c by omega), Nat.max_eq_left (by omega), if_neg (by rw [s2]; decide)]
              exact ⟨i1, i2⟩
        · have eg : gF ga G r p lf c = 0 := if_neg l0
          have s2 : ((decide (0 < lf c) && !hd p c) && decide (wo p + woR wo r (p + 1) + mxQ (gF ga G r p lf) (optR ga G r (p + 1) lf) c < wi p c + (woR wo r (p + 1) + optR ga G r (p + 1) (dcL lf c)))) = false := by
            rw [decide_eq_false l0]; rfl
          rw [if_neg (show ¬ mxQ (gF ga G r p lf) (optR ga G r (p + 1) lf) c < gF ga G r p lf c by omega), Nat.max_eq_left (by omega), if_neg (by rw [s2]; decide)]
          exact ⟨i1, i2⟩
    obtain ⟨k1, k2⟩ := key G
    refine ⟨k1.trans (by show _ = wo p + woR wo r (p + 1) + mxQ _ _ G; rfl), fun q q1 q2 => ?_⟩
    refine (congrFun k2 q).trans ?_
    show _ = if q = p then eO (chO ga G r p lf) else lnR ga G r (p + 1) (dcO lf (chO ga G r p lf)) q
    rw [upd_if]
    by_cases e : q = p
    · rw [if_pos e, if_pos e]; rfl
    · rw [if_neg e, if_neg e]
      show (mbl wo wi hd G r (p + 1) (dcO lf (chO ga G r p lf))).2 q = _
      cases chO ga G r p lf with
      | none => exact a2 q (by omega) (by omega)
      | some g => exact (ih g).2 q (by omega) (by omega)
end UL
