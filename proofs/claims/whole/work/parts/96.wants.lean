/-! WANTS: the model's terms -/
/-- < or >, and on -/
def ltP (n top : Nat) (c : Nat → Nat) (st : RSt) : RSt :=
  (st.1 + 1, if st.2 = none then (if st.1 < n ∧ st.1 < top ∧ (c st.1 = 60 ∨ c st.1 = 62) then none else some st.1) else st.2)
def rdT (n top : Nat) (c : Nat → Nat) (i : Nat) (st : RSt) (X : Nat → Int32) : RSt × (Nat → Int32) :=
  ((oneP n top c 48 10 (ltP n top c (oneP n top c 97 4 st).2)).2, upd (upd (upd X i (iN (oneP n top c 97 4 st).1)) (i + 1) (if hrV n top c (oneP n top c 97 4 st).2.1 = 62 then 1 else 0)) (i + 2) (iN (oneP n top c 48 10 (ltP n top c (oneP n top c 97 4 st).2)).1))
/-- the signs of a term from a on; what was read of it -/
def TLc (c : Nat → Nat) (a : Nat) : Prop := (97 ≤ c a ∧ c a < 101) ∧ (c (a + 1) = 60 ∨ c (a + 1) = 62) ∧ (48 ≤ c (a + 2) ∧ c (a + 2) < 58)
def TLv (c : Nat → Nat) (a i : Nat) (X : Nat → Int32) : Prop := X i = iN (c a - 97) ∧ X (i + 1) = (if c (a + 1) = 62 then 1 else 0) ∧ X (i + 2) = iN (c (a + 2) - 48)
def tkW (room : Nat) (s : Nat × Nat × Nat) (ch : Nat) : Option (Nat × Nat × Nat) :=
  if s.2.2 = 0 then (if 0 < s.2.1 ∧ ch = 59 then some (s.1, 0, 0) else if (if s.2.1 = 0 then s.1 + 1 else s.1) ≤ room ∧ s.2.1 + 1 ≤ 3 ∧ 97 ≤ ch ∧ ch < 101 then some ((if s.2.1 = 0 then s.1 + 1 else s.1), s.2.1 + 1, 1) else none)
  else if s.2.2 = 1 then (if ch = 60 ∨ ch = 62 then some (s.1, s.2.1, 2) else none)
  else (if 48 ≤ ch ∧ ch < 58 then some (s.1, s.2.1, 0) else none)
def mayW (s : Nat × Nat × Nat) : Bool := decide (s.2.2 = 0 ∧ 0 < s.2.1)
section WP
variable {n top fi mn ch N i room k t : Nat} {c : Nat → Nat} {st : RSt} {X : Nat → Int32} {s0 : Nat × Nat × Nat}
theorem RB.lt (h : RB N st) (hN : N < 999) : RB (N + 1) (ltP n top c st) := by
  refine ⟨Nat.succ_le_succ h.1, fun q e => ?_⟩
  unfold ltP at e
  dsimp only at e
  split at e
  · split at e
    · cases e
    · cases e; have := h.1; omega
  · exact h.2 q e
theorem RB.mono {N' : Nat} (h : RB N st) (hN : N ≤ N') : RB N' st := ⟨Nat.le_trans h.1 hN, h.2⟩
theorem RB.rdT (h : RB N st) (hn : n ≤ N) (hN : N < 900) : RB (N + 1) (rdT n top c i st X).1 := ((h.one hn (by omega)).lt (by omega)).one (by omega) (by omega)
theorem rdT_out {j : Nat} (h : ¬ (i ≤ j ∧ j < i + 3)) : (rdT n top c i st X).2 j = X j := by
  show upd (upd (upd X i _) (i + 1) _) (i + 2) _ j = _
  rw [upd_ne (by omega), upd_ne (by omega), upd_ne (by omega)]
theorem ltP_none (h : (ltP n top c st).2 = none) : st.2 = none ∧ st.1 < n ∧ st.1 < top ∧ (c st.1 = 60 ∨ c st.1 = 62) := by
  unfold ltP at h
  dsimp only at h
  split at h
  · rename_i e
    split at h
    · rename_i d; exact ⟨e, d⟩
    · cases h
  · rename_i e; exact absurd h e
theorem rdT_none (h : (rdT n top c i st X).1.2 = none) : st.2 = none ∧ (rdT n top c i st X).1.1 = st.1 + 3 ∧ st.1 + 2 < n ∧ TLc c st.1 ∧ TLv c st.1 i (rdT n top c i st X).2 := by
  obtain ⟨e1, e2, e3, e4, e5, e6, e7⟩ := oneP_none h
  obtain ⟨f1, f2, f3, f4⟩ := ltP_none e1
  obtain ⟨g1, g2, g3, g4, g5, g6, g7⟩ := oneP_none f1
  have a1 : (ltP n top c (oneP n top c 97 4 st).2).1 = st.1 + 2 := by show (oneP n top c 97 4 st).2.1 + 1 = _; rw [g6]
  rw [g6] at f4 f2 f3
  rw [a1] at e2 e4 e5 e6 e7
  have hv : hrV n top c (oneP n top c 97 4 st).2.1 = iN (c (st.1 + 1)) := by rw [g6]; exact if_pos ⟨f2, f3⟩
  refine ⟨g1, e6, e2, ⟨⟨g4, by omega⟩, f4, ⟨e4, by omega⟩⟩, ?_, ?_, ?_⟩
  · show upd (upd (upd X i _) (i + 1) _) (i + 2) _ i = _
    rw [upd_ne (by omega), upd_ne (by omega), upd_eq, g7]
  · show upd (upd (upd X i _) (i + 1) _) (i + 2) _ (i + 1) = _
    rw [upd_ne (by omega), upd_eq, hv]
    rcases f4 with d | d
    · rw [d]; rfl
    · rw [d]; rfl
  · show upd (upd (upd X i _) (i + 1) _) (i + 2) _ (i + 2) = _
    rw [upd_eq, e7]
theorem tkW_0 : tkW room (k, 0, 0) ch = if k + 1 ≤ room ∧ 97 ≤ ch ∧ ch < 101 then some (k + 1, 1, 1) else none := by
  unfold tkW
  dsimp only
  rw [if_pos rfl, if_neg (by omega), if_pos rfl]
  by_cases d : k + 1 ≤ room ∧ 97 ≤ ch ∧ ch < 101
  · rw [if_pos d, if_pos (by omega)]
  · rw [if_neg d, if_neg (by omega)]
theorem tkW_t (ht : 0 < t) : tkW room (k, t, 0) ch = if ch = 59 then some (k, 0, 0) else if k ≤ room ∧ t + 1 ≤ 3 ∧ 97 ≤ ch ∧ ch < 101 then some (k, t + 1, 1) else none := by
  unfold tkW
  dsimp only
  rw [if_pos rfl, if_neg (show ¬ t = 0 by omega)]
  by_cases d : ch = 59
  · rw [if_pos ⟨ht, d⟩, if_pos d]
  · rw [if_neg (fun e => d e.2), if_neg d]
theorem tkW_1 : tkW room (k, t, 1) ch = if ch = 60 ∨ ch = 62 then some (k, t, 2) else none := by
  unfold tkW
  dsimp only
  rw [if_neg (by decide), if_pos rfl]
theorem tkW_2 : tkW room (k, t, 2) ch = if 48 ≤ ch ∧ ch < 58 then some (k, t, 0) else none := by
  unfold tkW
  dsimp only
  rw [if_neg (by decide), if_neg (by decide)]
/-- where the class stands ahead of term t of line k -/
def wtS (k t : Nat) : Nat × Nat × Nat := if t = 0 then (k, 0, 0) else (k + 1, t, 0)
theorem wtS_s : wtS k (t + 1) = (k + 1, t + 1, 0) := if_neg (by omega)
theorem Sim.mv {σ : Type} {tk : σ → Nat → Option σ} {may : σ → Bool} {most : Nat} {x0 x x' : σ} {st st' : RSt} (h : Sim tk may n most c x0 x st) (e : st'.2 = st.2) (he : st.2 ≠ none) : Sim tk may n most c x0 x' st' := ⟨fun d => absurd (e.symm.trans d) he, fun q d => h.2 q (e.symm.trans d)⟩
theorem Sim.lt (h : Sim (tkW room) mayW n top c s0 (k, t, 1) st) : Sim (tkW room) mayW n top c s0 (k, t, 2) (ltP n top c st) := by
  by_cases e : st.2 = none
  · by_cases d : st.1 < n ∧ st.1 < top ∧ (c st.1 = 60 ∨ c st.1 = 62)
    · rw [show ltP n top c st = (st.1 + 1, none) by unfold ltP; rw [if_pos e, if_pos d]]
      exact h.ok e ⟨d.1, d.2.1⟩ (by rw [tkW_1, if_pos d.2.2])
    · rw [show ltP n top c st = (st.1 + 1, some st.1) by unfold ltP; rw [if_pos e, if_neg d]]
      have := h.flt (s' := (k, t, 2)) e (fun a b => by rw [tkW_1, if_neg (fun f => d ⟨a, b, f⟩)]) (fun _ _ => decide_eq_false (by dsimp only; omega))
      exact this.mv (by unfold fltP; rw [if_pos e]) (by unfold fltP; rw [if_pos e]; intro f; cases f)
  · exact h.mv (by unfold ltP; rw [if_neg e]) e
theorem Sim.rdT (h : Sim (tkW room) mayW n top c s0 (wtS k t) st) (hk : k < room) (ht : t < 3) (e : st.2 = none) (hl : t ≠ 0 → st.1 < n ∧ st.1 < top ∧ 97 ≤ c st.1 ∧ c st.1 < 101) : Sim (tkW room) mayW n top c s0 (k + 1, t + 1, 0) (rdT n top c i st X).1 := by
  have h1 : Sim (tkW room) mayW n top c s0 (k + 1, t + 1, 1) (oneP n top c 97 4 st).2 := by
    unfold oneP
    rw [if_pos e]
    by_cases c1 : st.1 < n ∧ st.1 < top ∧ 97 ≤ c st.1 ∧ c st.1 < 97 + 4
    · rw [if_pos c1]
      refine h.ok e ⟨c1.1, c1.2.1⟩ ?_
      unfold wtS
      by_cases e0 : t = 0
      · rw [if_pos e0, tkW_0, if_pos (by omega), e0]
      · rw [if_neg e0, tkW_t (by omega), if_neg (by omega), if_pos (by omega)]
    · rw [if_neg c1]
      by_cases e0 : t = 0
      · subst e0
        have := h.flt (s' := (k + 1, 0 + 1, 1)) e (fun a b => by unfold wtS; rw [if_pos rfl, tkW_0, if_neg (by omega)]) (fun _ _ => decide_eq_false (by unfold wtS; rw [if_pos rfl]; dsimp only; omega))
        unfold fltP at this
        rw [if_pos e] at this
        exact this
      · have := hl e0
        exact absurd ⟨this.1, this.2.1, this.2.2.1, by omega⟩ c1
  exact h1.lt.one (fun ch => by rw [tkW_2]) (decide_eq_false (by dsimp only; omega))
end WP
section WR
variable {I A E I' A' : Nat → Nat → Int32} {L L' : Nat → Int64} {pr ot s : Nat} {J J' : Nat → Int32} {B B' : Nat → Nat → Int32} {M M' : Nat → Int64} {rdv rdv' : Value} {ru : Nat} {T : PH} {G P W n top fi mn w da room most o k N i t a : Nat} {c : Nat → Nat} {st : RSt} {X : Nat → Int32} {s0 : Nat × Nat × Nat}
theorem pj_at {a : Nat} : u1 (pj J st) 17 (iN a) = pj J (a, st.2) := pj_w17
theorem fault_id (e : st.2 ≠ none) : fltP st = st := by unfold fltP; rw [if_neg e]
theorem r_J115 (h : RD J (u1 B 19 X) rdv n top c) (ha : st.1 < 900) (hq : ∀ q, st.2 = some q → q < 1000) (hi : i + 3 * t + 2 < 64) (rc : Int32 → PH → Option (Int32 × PH)) (kx : Int32 → PH → Option (Int32 × PH)) : fX12_readWant_J115_2 rc kx 45 (iN i) (iN t) (encC I E L pr ot (encR (pj J st) (u1 B 19 X) M rdv ru T)) = rc (iN (t + 1)) (encC I E L pr ot (encR (pj J (oneP n top c 48 10 (st.1 + 1, st.2)).2) (u1 B 19 (upd X (i + 3 * t + 2) (iN (oneP n top c 48 10 (st.1 + 1, st.2)).1))) M rdv ru T)) := by
  have e2 := r_oneOf (I := I) (E := E) (L := L) (pr := pr) (ot := ot) (M := M) (ru := ru) (T := T) (fi := 48) (mn := 10) (st := (st.1 + 1, st.2)) h (show st.1 + 1 < 1000 by omega) hq (by decide) (by decide)
  unfold fX12_readWant_J115_2 fX12_readWant_J145_2
  rw [brG_17, pj_17, show iN st.1 + (1 : Int32) = iN (st.1 + 1) from iN_add, brW_17, pj_w17, brR_19, brK, hb_of (show fX12_oneOf 45 (48 : Int32) (10 : Int32) _ = _ from e2), show iN i + (3 : Int32) * iN t + (2 : Int32) = iN (i + 3 * t + 2) by rw [show (3 : Int32) = iN 3 from rfl, show (2 : Int32) = iN 2 from rfl, iN_mul, iN_add, iN_add], brS_19 (in_arr (show i + 3 * t + 2 < 64 by omega) (by decide) rfl), iN_nat (by omega), letE_eq, show iN t + (1 : Int32) = iN (t + 1) from iN_add, u1_u1, u1_at]
theorem hrV_i {ch : Nat} (hc : ∀ k, k < n → k < top → c k < 256) (h2 : ch < 256) : hrV n top c st.1 = iN ch ↔ (st.1 < n ∧ st.1 < top ∧ c st.1 = ch) := by rw [hrV_eq hc h2]
theorem r_J81 (h : RD J (u1 B 19 X) rdv n top c) (ha : st.1 < 900) (hq : ∀ q, st.2 = some q → q < 1000) (hi : i + 3 * t + 2 < 64) (v : Int32) (rc : Int32 → PH → Option (Int32 × PH)) (kx : Int32 → PH → Option (Int32 × PH)) : fX12_readWant_J81_2 rc kx 45 (iN i) (iN t) v (iN (i + 3 * t + 1)) 54 (encC I E L pr ot (encR (pj J st) (u1 B 19 X) M rdv ru T)) = rc (iN (t + 1)) (encC I E L pr ot (encR (pj J (oneP n top c 48 10 (ltP n top c st)).2) (u1 B 19 (upd (upd X (i + 3 * t + 1) v) (i + 3 * t + 2) (iN (oneP n top c 48 10 (ltP n top c st)).1))) M rdv ru T)) := by
  have hg : RD J (u1 B 19 (upd X (i + 3 * t + 1) v)) rdv n top c := h.fr rfl rfl (fun x hx => by rw [u1_eq, if_neg (by omega), u1_eq, if_neg (by omega)])
  unfold fX12_readWant_J81_2
  rw [brS_19 (in_arr (show i + 3 * t + 1 < 64 by omega) (by decide) rfl), iN_nat (by omega), u1_u1, u1_at, brK]
  cases e : st.2 with
  | some q =>
    rw [hb_of (r_fine1 e (hq q e)), if_pos rfl]
    refine Eq.trans (r_J115 hg ha hq hi rc kx) ?_
    rw [show ltP n top c st = (st.1 + 1, st.2) by unfold ltP; rw [if_neg (by rw [e]; intro d; cases d)]]
  | none =>
    have h62 := hrV_i (st := st) h.2.2.2.2.1 (show 62 < 256 by decide)
    have h60 := hrV_i (st := st) h.2.2.2.2.1 (show 60 < 256 by decide)
    rw [hb_of (r_fine0 e), if_neg (by decide), brK, hb_of (r_here hg (by omega))]
    by_cases d : st.1 < n ∧ st.1 < top ∧ (c st.1 = 60 ∨ c st.1 = 62)
    · have el : ltP n top c st = (st.1 + 1, st.2) := by unfold ltP; rw [if_pos e, if_pos d, e]
      rw [el]
      by_cases d2 : c st.1 = 62
      · rw [if_pos (show hrV n top c st.1 = 62 from h62.mpr ⟨d.1, d.2.1, d2⟩)]
        exact r_J115 hg ha hq hi rc kx
      · rw [if_neg (show ¬ hrV n top c st.1 = 62 from fun f => d2 (h62.mp f).2.2), brK, hb_of (r_here hg (by omega)), if_pos (show hrV n top c st.1 = 60 from h60.mpr ⟨d.1, d.2.1, by omega⟩)]
        exact r_J115 hg ha hq hi rc kx
    · have el : ltP n top c st = (st.1 + 1, (fltP st).2) := by unfold ltP fltP; rw [if_pos e, if_neg d, if_pos e]
      rw [el, if_neg (show ¬ hrV n top c st.1 = 62 from fun f => d ⟨(h62.mp f).1, (h62.mp f).2.1, Or.inr (h62.mp f).2.2⟩), brK, hb_of (r_here hg (by omega)), if_neg (show ¬ hrV n top c st.1 = 60 from fun f => d ⟨(h60.mp f).1, (h60.mp f).2.1, Or.inl (h60.mp f).2.2⟩), brG_17, pj_17, brK, hb_of (r_fault hq)]
      exact r_J115 (st := fltP st) hg ha (fun q f => by unfold fltP at f; rw [if_pos e] at f; cases f; omega) hi rc kx
theorem r_J23 (h : RD J (u1 B 19 X) rdv n top c) (hb : RB 89 st) (hi : i + 9 ≤ 64) (ht : t < 3) (rc : Int32 → PH → Option (Int32 × PH)) (kx : Int32 → PH → Option (Int32 × PH)) : fX12_readWant_J23_2 rc kx 45 (iN i) (iN t) (encC I E L pr ot (encR (pj J st) (u1 B 19 X) M rdv ru T)) = rc (iN (t + 1)) (encC I E L pr ot (encR (pj J (rdT n top c (i + 3 * t) st X).1) (u1 B 19 (rdT n top c (i + 3 * t) st X).2) M rdv ru T)) := by
  have hn := h.2.2.1
  have hg : ∀ Y, RD J (u1 B 19 Y) rdv n top c := fun Y => h.fr rfl rfl (fun x hx => by rw [u1_eq, if_neg (by omega), u1_eq, if_neg (by omega)])
  have hb1 : RB 89 (oneP n top c 97 4 st).2 := hb.one (by omega) (by decide)
  have e1 := r_oneOf (I := I) (E := E) (L := L) (pr := pr) (ot := ot) (M := M) (ru := ru) (T := T) (fi := 97) (mn := 4) h (show st.1 < 1000 by have := hb.1; omega) hb.2 (by decide) (by decide)
  have h62 := hrV_i (st := (oneP n top c 97 4 st).2) h.2.2.2.2.1 (show 62 < 256 by decide)
  have ix : iN i + (3 : Int32) * iN t = iN (i + 3 * t) := by rw [show (3 : Int32) = iN 3 from rfl, iN_mul, iN_add]
  have a1 : (oneP n top c 97 4 st).2.1 < 900 := by have := hb1.1; omega
  unfold fX12_readWant_J23_2
  rw [if_neg (show ¬ iN t = 3 by rw [show (3 : Int32) = iN 3 from rfl, iN_eq (by omega) (by omega)]; omega), brR_19, brK, hb_of (show fX12_oneOf 45 (97 : Int32) (4 : Int32) _ = _ from e1), ix, brS_19 (in_arr (show i + 3 * t < 64 by omega) (by decide) rfl), iN_nat (by omega), u1_u1, u1_at, brR_19, brK, hb_of (r_here (hg _) (by omega)), show iN (i + 3 * t) + (1 : Int32) = iN (i + 3 * t + 1) from iN_add]
  unfold rdT
  by_cases d : hrV n top c (oneP n top c 97 4 st).2.1 = 62
  · rw [if_pos d, if_pos d]
    exact r_J81 (hg _) a1 hb1.2 (by omega) 1 rc kx
  · rw [if_neg d, if_neg d]
    exact r_J81 (hg _) a1 hb1.2 (by omega) 0 rc kx
theorem r_isHum (hc : ∀ k, k < n → k < top → c k < 256) {h : PH} : fX12_isHumour (hrV n top c st.1) h = some ((if st.1 < n ∧ st.1 < top ∧ 97 ≤ c st.1 ∧ c st.1 < 101 then 1 else 0), h) := by
  unfold fX12_isHumour
  by_cases d : st.1 < n ∧ st.1 < top ∧ 97 ≤ c st.1 ∧ c st.1 < 101
  · rw [hrV_in ⟨d.1, d.2.1⟩, hb_of (show fX12_in (iN (c st.1)) (97 : Int32) (100 : Int32) h = _ from in_y d.2.2.1 (show c st.1 ≤ 100 by omega) (by decide)), h_z1, if_pos d]
  · have e : fX12_in (hrV n top c st.1) (97 : Int32) (100 : Int32) h = some (0, h) := by
      refine in_n (fun f => ?_)
      by_cases c2 : st.1 < n ∧ st.1 < top
      · rw [hrV_in c2] at f
        have := hc st.1 c2.1 c2.2
        rw [show (97 : Int32) = iN 97 from rfl, show (100 : Int32) = iN 100 from rfl, iN_le (by omega) (by omega), iN_le (by omega) (by omega)] at f
        exact d ⟨c2.1, c2.2, by omega, by omega⟩
      · have d1 := f.1
        unfold hrV at d1
        rw [if_neg c2] at d1
        exact absurd d1 (by decide)
    rw [hb_of e, h_z0, if_neg d]
end WR
