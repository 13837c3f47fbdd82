/-! LINES of GROUNDS: the model's reader -/
def bj (J : Nat → Int32) (n top : Nat) : Nat → Int32 := u1 (u1 (u1 J 15 (iN n)) 16 (iN top)) 10 0
def RB (N : Nat) (st : RSt) : Prop := st.1 ≤ N ∧ ∀ q, st.2 = some q → q < 1000
def dshP (n top : Nat) (c : Nat → Nat) (st : RSt) : Int32 × RSt :=
  if (pasP n top c 45 st).1 = true then (-1, (pasP n top c 45 st).2) else (iN (oneP n top c 48 10 (pasP n top c 45 st).2).1, (oneP n top c 48 10 (pasP n top c 45 st).2).2)
def dsN (n top : Nat) (c : Nat → Nat) (i : Nat) (q : RSt × (Nat → Int32)) : Nat → RSt × (Nat → Int32)
  | 0 => q
  | h + 1 => ((dshP n top c (dsN n top c i q h).1).2, upd (dsN n top c i q h).2 (i + 2 + h) (dshP n top c (dsN n top c i q h).1).1)
def rdG (n top : Nat) (c : Nat → Nat) (i : Nat) (st : RSt) (X : Nat → Int32) : RSt × (Nat → Int32) :=
  dsN n top c i ((oneP n top c 48 10 (oneP n top c 49 9 st).2).2, upd (upd X i (iN ((oneP n top c 49 9 st).1 + 1))) (i + 1) (iN (oneP n top c 48 10 (oneP n top c 49 9 st).2).1)) 4
/-- a line of a GROUND from a on, and what was read of it -/
def GL (c : Nat → Nat) (a i : Nat) (X : Nat → Int32) : Prop :=
  (49 ≤ c a ∧ c a < 58) ∧ (48 ≤ c (a + 1) ∧ c (a + 1) < 58) ∧ X i = iN (c a - 48) ∧ X (i + 1) = iN (c (a + 1) - 48) ∧ ∀ h, h < 4 → (c (a + 2 + h) = 45 ∨ 48 ≤ c (a + 2 + h) ∧ c (a + 2 + h) < 58) ∧ X (i + 2 + h) = if c (a + 2 + h) = 45 then -1 else iN (c (a + 2 + h) - 48)
section RP
variable {n top fi mn ch N i : Nat} {c : Nat → Nat} {st : RSt} {X : Nat → Int32}
theorem oneP_none (h : (oneP n top c fi mn st).2.2 = none) : st.2 = none ∧ st.1 < n ∧ st.1 < top ∧ fi ≤ c st.1 ∧ c st.1 < fi + mn ∧ (oneP n top c fi mn st).2.1 = st.1 + 1 ∧ (oneP n top c fi mn st).1 = c st.1 - fi := by
  unfold oneP at h ⊢
  by_cases e : st.2 = none
  · rw [if_pos e] at h ⊢
    by_cases d : st.1 < n ∧ st.1 < top ∧ fi ≤ c st.1 ∧ c st.1 < fi + mn
    · rw [if_pos d]
      exact ⟨e, d.1, d.2.1, d.2.2.1, d.2.2.2, rfl, rfl⟩
    · rw [if_neg d] at h
      cases h
  · rw [if_neg e] at h
    exact absurd h e
theorem RB.one (h : RB N st) (hn : n ≤ N) (hN : N < 1000) : RB N (oneP n top c fi mn st).2 := by
  unfold oneP
  split
  · split
    · exact ⟨by dsimp only; omega, fun q e => by cases e⟩
    · exact ⟨h.1, fun q e => by cases e; have := h.1; omega⟩
  · exact h
theorem RB.pas (h : RB N st) (hn : n ≤ N) : RB N (pasP n top c ch st).2 := by
  unfold pasP
  split
  · exact ⟨by dsimp only; omega, fun q e => by cases e⟩
  · exact h
theorem RB.flt (h : RB N st) (hN : N < 1000) : RB N (fltP st) := by
  refine ⟨h.1, fun q e => ?_⟩
  unfold fltP at e
  dsimp only at e
  split at e
  · cases e; have := h.1; omega
  · exact h.2 q e
theorem pasP_t (h : (pasP n top c ch st).1 = true) : st.2 = none ∧ st.1 < n ∧ st.1 < top ∧ c st.1 = ch ∧ (pasP n top c ch st).2 = (st.1 + 1, none) := by
  unfold pasP at h ⊢
  by_cases d : st.2 = none ∧ st.1 < n ∧ st.1 < top ∧ c st.1 = ch
  · rw [if_pos d]
    exact ⟨d.1, d.2.1, d.2.2.1, d.2.2.2, rfl⟩
  · rw [if_neg d] at h; cases h
theorem pasP_f (h : ¬ (pasP n top c ch st).1 = true) : ¬ (st.2 = none ∧ st.1 < n ∧ st.1 < top ∧ c st.1 = ch) ∧ (pasP n top c ch st).2 = st := by
  unfold pasP at h ⊢
  by_cases d : st.2 = none ∧ st.1 < n ∧ st.1 < top ∧ c st.1 = ch
  · rw [if_pos d] at h; exact absurd rfl h
  · rw [if_neg d]; exact ⟨d, rfl⟩
theorem dshP_none (h : (dshP n top c st).2.2 = none) : st.2 = none ∧ st.1 < n ∧ st.1 < top ∧ (c st.1 = 45 ∨ 48 ≤ c st.1 ∧ c st.1 < 58) ∧ (dshP n top c st).2.1 = st.1 + 1 ∧ (dshP n top c st).1 = if c st.1 = 45 then -1 else iN (c st.1 - 48) := by
  unfold dshP at h ⊢
  by_cases d : (pasP n top c 45 st).1 = true
  · rw [if_pos d] at h ⊢
    obtain ⟨e1, e2, e3, e4, e5⟩ := pasP_t d
    refine ⟨e1, e2, e3, Or.inl e4, by rw [e5], by rw [if_pos e4]⟩
  · rw [if_neg d] at h ⊢
    obtain ⟨e1, e2⟩ := pasP_f d
    rw [e2] at h ⊢
    obtain ⟨f1, f2, f3, f4, f5, f6, f7⟩ := oneP_none h
    exact ⟨f1, f2, f3, Or.inr ⟨f4, by omega⟩, f6, by rw [if_neg (by omega)]; show iN _ = _; rw [f7]⟩
theorem RB.dsh (h : RB N st) (hn : n ≤ N) (hN : N < 1000) : RB N (dshP n top c st).2 := by
  unfold dshP
  split
  · exact h.pas hn
  · exact (h.pas hn).one hn hN
theorem RB.ds {q : RSt × (Nat → Int32)} (h : RB N q.1) (hn : n ≤ N) (hN : N < 1000) : ∀ k, RB N (dsN n top c i q k).1
  | 0 => h
  | k + 1 => (RB.ds h hn hN k).dsh hn hN
theorem dsN_out {q : RSt × (Nat → Int32)} {j : Nat} : ∀ k, ¬ (i + 2 ≤ j ∧ j < i + 2 + k) → (dsN n top c i q k).2 j = q.2 j
  | 0, _ => rfl
  | k + 1, h => by
    show upd (dsN n top c i q k).2 (i + 2 + k) _ j = _
    rw [upd_ne (by omega)]
    exact dsN_out k (by omega)
theorem dsN_none {q : RSt × (Nat → Int32)} : ∀ k, (dsN n top c i q k).1.2 = none → q.1.2 = none ∧ (dsN n top c i q k).1.1 = q.1.1 + k ∧ ∀ h, h < k → (q.1.1 + h < n ∧ q.1.1 + h < top) ∧ (c (q.1.1 + h) = 45 ∨ 48 ≤ c (q.1.1 + h) ∧ c (q.1.1 + h) < 58) ∧ (dsN n top c i q k).2 (i + 2 + h) = if c (q.1.1 + h) = 45 then -1 else iN (c (q.1.1 + h) - 48)
  | 0, h => ⟨h, rfl, fun h hh => absurd hh (Nat.not_lt_zero _)⟩
  | k + 1, h => by
    obtain ⟨e1, e2, e3, e4, e5, e6⟩ := dshP_none (st := (dsN n top c i q k).1) h
    obtain ⟨f1, f2, f3⟩ := dsN_none k e1
    refine ⟨f1, by show (dshP n top c (dsN n top c i q k).1).2.1 = _; rw [e5, f2]; omega, fun j hj => ?_⟩
    rw [f2] at e2 e3 e4 e6
    by_cases d : j = k
    · subst d
      refine ⟨⟨e2, e3⟩, e4, ?_⟩
      show upd (dsN n top c i q j).2 (i + 2 + j) _ (i + 2 + j) = _
      rw [upd_eq, e6]
    · obtain ⟨g1, g2, g3⟩ := f3 j (by omega)
      refine ⟨g1, g2, ?_⟩
      show upd (dsN n top c i q k).2 (i + 2 + k) _ (i + 2 + j) = _
      rw [upd_ne (by omega), g3]
theorem RB.rdG (h : RB N st) (hn : n ≤ N) (hN : N < 1000) : RB N (rdG n top c i st X).1 := RB.ds ((h.one hn hN).one hn hN) hn hN 4
theorem rdG_out {j : Nat} (h : ¬ (i ≤ j ∧ j < i + 6)) : (rdG n top c i st X).2 j = X j := by
  unfold rdG
  rw [dsN_out 4 (by omega)]
  show upd (upd X i _) (i + 1) _ j = _
  rw [upd_ne (by omega), upd_ne (by omega)]
theorem rdG_none (h : (rdG n top c i st X).1.2 = none) : st.2 = none ∧ (rdG n top c i st X).1.1 = st.1 + 6 ∧ GL c st.1 i (rdG n top c i st X).2 := by
  obtain ⟨e1, e2, e3⟩ := dsN_none 4 h
  obtain ⟨f1, f2, f3, f4, f5, f6, f7⟩ := oneP_none e1
  obtain ⟨g1, g2, g3, g4, g5, g6, g7⟩ := oneP_none f1
  rw [g6] at f4 f5 f7 f6
  dsimp only at e2 e3
  rw [f6] at e2 e3
  refine ⟨g1, by unfold rdG; rw [e2], ⟨g4, by omega⟩, ⟨f4, by omega⟩, ?_, ?_, fun j hj => ?_⟩
  · unfold rdG
    rw [dsN_out 4 (by omega)]
    show upd (upd X i _) (i + 1) _ i = _
    rw [upd_ne (by omega), upd_eq, g7]
    congr 1
    omega
  · unfold rdG
    rw [dsN_out 4 (by omega)]
    show upd (upd X i _) (i + 1) _ (i + 1) = _
    rw [upd_eq, f7]
  · obtain ⟨k1, k2, k3⟩ := e3 j hj
    rw [show st.1 + 1 + 1 = st.1 + 2 by omega] at k2 k3
    exact ⟨k2, k3⟩
theorem Sim.dsh {room k col : Nat} {s0 : Nat × Nat} (h : Sim (tkL 6 2 room) (mayL 6) n top c s0 (k, col) st) (h2 : 2 ≤ col) (h6 : col < 6) : Sim (tkL 6 2 room) (mayL 6) n top c s0 (k, col + 1) (dshP n top c st).2 := by
  have ht : ∀ ch, tkL 6 2 room (k, col) ch = if (48 ≤ ch ∧ ch < 58) ∨ ch = 45 then some (k, col + 1) else none := by
    intro ch
    unfold tkL
    dsimp only
    rw [if_neg (by omega), if_neg (by omega)]
    by_cases d : (48 ≤ ch ∧ ch < 58) ∨ ch = 45
    · rw [if_pos d, if_pos (by omega)]
    · rw [if_neg d, if_neg (by omega)]
  have hm : mayL 6 (k, col) = false := decide_eq_false (by dsimp only; omega)
  unfold dshP
  by_cases d : (pasP n top c 45 st).1 = true
  · rw [if_pos d]
    obtain ⟨e1, e2, e3, e4, e5⟩ := pasP_t d
    rw [e5]
    exact h.ok e1 ⟨e2, e3⟩ (by rw [ht, if_pos (Or.inr e4)])
  · rw [if_neg d]
    obtain ⟨e1, e2⟩ := pasP_f d
    rw [e2]
    unfold oneP
    by_cases e : st.2 = none
    · rw [if_pos e]
      by_cases c1 : st.1 < n ∧ st.1 < top ∧ 48 ≤ c st.1 ∧ c st.1 < 48 + 10
      · rw [if_pos c1]
        exact h.ok e ⟨c1.1, c1.2.1⟩ (by rw [ht, if_pos (Or.inl (by omega))])
      · rw [if_neg c1]
        have := h.flt (s' := (k, col + 1)) e (fun a b => by
          rw [ht, if_neg]
          rintro (d1 | d1)
          · exact c1 ⟨a, b, by omega⟩
          · exact e1 ⟨e, a, b, d1⟩) (fun _ _ => hm)
        unfold fltP at this
        rw [if_pos e] at this
        exact this
    · rw [if_neg e]
      exact h.any e
theorem Sim.ds {room k : Nat} {s0 : Nat × Nat} {q : RSt × (Nat → Int32)} (h : Sim (tkL 6 2 room) (mayL 6) n top c s0 (k, 2) q.1) : ∀ j, j ≤ 4 → Sim (tkL 6 2 room) (mayL 6) n top c s0 (k, 2 + j) (dsN n top c i q j).1
  | 0, _ => h
  | j + 1, hj => (Sim.ds h j (by omega)).dsh (by omega) (by omega)
theorem Sim.rdG {room k : Nat} {s0 : Nat × Nat} (h : Sim (tkL 6 2 room) (mayL 6) n top c s0 (k, 0) st) (hk : k < room) : Sim (tkL 6 2 room) (mayL 6) n top c s0 (k + 1, 6) (rdG n top c i st X).1 := by
  have h1 : Sim (tkL 6 2 room) (mayL 6) n top c s0 (k + 1, 1) (oneP n top c 49 9 st).2 := h.one (fun ch => by
    unfold tkL
    dsimp only
    rw [if_neg (by omega), if_pos rfl]
    by_cases d : 49 ≤ ch ∧ ch < 49 + 9
    · rw [if_pos d, if_pos (by omega)]
    · rw [if_neg d, if_neg (by omega)]) (decide_eq_false (by dsimp only; omega))
  have h2 : Sim (tkL 6 2 room) (mayL 6) n top c s0 (k + 1, 2) (oneP n top c 48 10 (oneP n top c 49 9 st).2).2 := h1.one (fun ch => by
    unfold tkL
    dsimp only
    rw [if_neg (by omega), if_neg (by omega)]
    by_cases d : 48 ≤ ch ∧ ch < 48 + 10
    · rw [if_pos d, if_pos (by omega)]
    · rw [if_neg d, if_neg (by omega)]) (decide_eq_false (by dsimp only; decide))
  exact Sim.ds (q := ((oneP n top c 48 10 (oneP n top c 49 9 st).2).2, upd (upd X i (iN ((oneP n top c 49 9 st).1 + 1))) (i + 1) (iN (oneP n top c 48 10 (oneP n top c 49 9 st).2).1))) h2 4 (Nat.le_refl 4)
end RP
section RG
variable {I A E I' A' : Nat → Nat → Int32} {L L' : Nat → Int64} {pr ot s : Nat} {J J' : Nat → Int32} {B B' : Nat → Nat → Int32} {M M' : Nat → Int64} {rdv rdv' : Value} {ru : Nat} {T : PH} {G P W n top fi mn w da room most o k N i : Nat} {c : Nat → Nat} {st : RSt} {X : Nat → Int32}
theorem r_beginText (hJ : J 10 = iN n) : fX12_beginText 45 (iN top) (encC I E L pr ot (encR J B M rdv ru T)) = some ((), (encC I E L pr ot (encR (pj (bj J n top) (0, none)) B M (.ref 52) ru T))) := by
  unfold fX12_beginText fX12_begin
  rw [brR_9, brG_10, brK, brV_14, brW_15, brW_16, brW_17, brW_18, hb_some, brW_10, hJ]
  have e : u1 (u1 (u1 (u1 (u1 J 15 (iN n)) 16 (iN top)) 17 0) 18 (-1)) 10 0 = pj (bj J n top) (0, none) := by
    funext x
    unfold pj bj wQ
    simp only [u1_eq]
    by_cases h10 : x = 10
    · subst h10; rfl
    · rw [if_neg h10]
      by_cases h18 : x = 18
      · subst h18; rfl
      · rw [if_neg h18, if_neg h18]
        by_cases h17 : x = 17
        · subst h17; rfl
        · rw [if_neg h17, if_neg h17, if_neg h10]
  rw [e]
theorem RD.begin (hn : n ≤ 80) (ht : top ≤ 80) (hc : ∀ k, k < n → c k < 256 ∧ B 9 k &&& 255 = iN (c k) ∧ (c k < 128 → B 9 k = iN (c k))) : RD (bj J n top) B (.ref 52) n top c := by
  refine ⟨?_, ?_, hn, ht, fun k hk _ => (hc k hk).1, 9, 52, rfl, Or.inl ⟨rfl, rfl⟩, fun k hk _ => (hc k hk).2⟩
  · unfold bj
    rw [u1_eq, if_neg (by decide), u1_eq, if_neg (by decide), u1_eq, if_pos rfl]
  · unfold bj
    rw [u1_eq, if_neg (by decide), u1_eq, if_pos rfl]
theorem RD.c19 (h : RD J B rdv n top c) : RD J (u1 B 19 X) rdv n top c := h.fr rfl rfl (fun x hx => by rw [u1_eq, if_neg (by omega)])
theorem r_dsh (h : RD J (u1 B 19 X) rdv n top c) (hb : RB 90 st) (hi : i + 2 + k < 64) (hk : k < 4) (kx : PH → Option (Unit × PH)) (m : Nat) : fX12_readGround_L34 45 (iN i) kx (m + 1) (iN k) (encC I E L pr ot (encR (pj J st) (u1 B 19 X) M rdv ru T)) = fX12_readGround_L34 45 (iN i) kx m (iN (k + 1)) (encC I E L pr ot (encR (pj J (dshP n top c st).2) (u1 B 19 (upd X (i + 2 + k) (dshP n top c st).1)) M rdv ru T)) := by
  have hn := h.2.2.1
  have e1 := r_passes (I := I) (E := E) (L := L) (pr := pr) (ot := ot) (M := M) (ru := ru) (T := T) (ch := 45) h (show st.1 < 1000 by have := hb.1; omega) hb.2 (by decide)
  have hb2 : RB 90 (pasP n top c 45 st).2 := hb.pas (by omega)
  have e2 := r_oneOf (I := I) (E := E) (L := L) (pr := pr) (ot := ot) (M := M) (ru := ru) (T := T) (fi := 48) (mn := 10) h (show (pasP n top c 45 st).2.1 < 1000 by have := hb2.1; omega) hb2.2 (by decide) (by decide)
  have ia : iN i + (2 : Int32) + iN k = iN (i + 2 + k) := by rw [show (2 : Int32) = iN 2 from rfl, iN_add, iN_add]
  rw [fX12_readGround_L34, if_neg (by rw [show (4 : Int32) = iN 4 from rfl, iN_le (by omega) (by omega)]; omega), brR_19, brK, hb_of (show fX12_passes 45 (45 : Int32) (encC I E L pr ot (encR (pj J st) (u1 B 19 X) M rdv ru T)) = _ from e1)]
  unfold dshP
  by_cases d : (pasP n top c 45 st).1 = true
  · rw [if_pos d, if_neg (by decide), if_pos d]
    unfold fX12_readGround_J69_34
    rw [ia, brS_19 (in_arr (show i + 2 + k < 64 by omega) (by decide) rfl), iN_nat (by omega), letE_eq, show iN k + (1 : Int32) = iN (k + 1) from iN_add, u1_u1, u1_eq, if_pos rfl]
  · rw [if_neg d, if_pos rfl, if_neg d, brK, hb_of (show fX12_oneOf 45 (48 : Int32) (10 : Int32) (encC I E L pr ot (encR (pj J (pasP n top c 45 st).2) (u1 B 19 X) M rdv ru T)) = _ from e2)]
    unfold fX12_readGround_J69_34
    rw [ia, brS_19 (in_arr (show i + 2 + k < 64 by omega) (by decide) rfl), iN_nat (by omega), letE_eq, show iN k + (1 : Int32) = iN (k + 1) from iN_add, u1_u1, u1_eq, if_pos rfl]
theorem r_readGround (h : RD J (u1 B 19 X) rdv n top c) (hb : RB 90 st) (hi : i + 6 ≤ 64) : fX12_readGround 45 (iN i) (encC I E L pr ot (encR (pj J st) (u1 B 19 X) M rdv ru T)) = some ((), (encC I E L pr ot (encR (pj J (rdG n top c i st X).1) (u1 B 19 (rdG n top c i st X).2) M rdv ru T))) := by
  have hn := h.2.2.1
  have hg : ∀ Y, RD J (u1 B 19 Y) rdv n top c := fun Y => h.fr rfl rfl (fun x hx => by rw [u1_eq, if_neg (by omega), u1_eq, if_neg (by omega)])
  have hb1 : RB 90 (oneP n top c 49 9 st).2 := hb.one (by omega) (by decide)
  have hb2 : RB 90 (oneP n top c 48 10 (oneP n top c 49 9 st).2).2 := hb1.one (by omega) (by decide)
  have e1 := r_oneOf (I := I) (E := E) (L := L) (pr := pr) (ot := ot) (M := M) (ru := ru) (T := T) (fi := 49) (mn := 9) h (show st.1 < 1000 by have := hb.1; omega) hb.2 (by decide) (by decide)
  have e2 := r_oneOf (I := I) (E := E) (L := L) (pr := pr) (ot := ot) (M := M) (ru := ru) (T := T) (fi := 48) (mn := 10) (hg (upd X i (iN ((oneP n top c 49 9 st).1 + 1)))) (show (oneP n top c 49 9 st).2.1 < 1000 by have := hb1.1; omega) hb1.2 (by decide) (by decide)
  have key := lp_det (fun m k (q : RSt × (Nat → Int32)) => fX12_readGround_L34 45 (iN i) (fun h9 => some ((), h9)) m (iN k) (encC I E L pr ot (encR (pj J q.1) (u1 B 19 q.2) M rdv ru T))) (fun q => some ((), (encC I E L pr ot (encR (pj J q.1) (u1 B 19 q.2) M rdv ru T)))) (dsN n top c i ((oneP n top c 48 10 (oneP n top c 49 9 st).2).2, upd (upd X i (iN ((oneP n top c 49 9 st).1 + 1))) (i + 1) (iN (oneP n top c 48 10 (oneP n top c 49 9 st).2).1))) 4
    (fun k hk m => r_dsh (hg _) (RB.ds hb2 (by omega) (by decide) k) (by omega) hk _ m)
    (fun m => by rw [fX12_readGround_L34]; exact if_pos (by decide)) FU (by unfold FU; omega)
  refine Eq.trans ?_ key
  unfold fX12_readGround
  rw [brR_19, brK, hb_of (show fX12_oneOf 45 (49 : Int32) (9 : Int32) (encC I E L pr ot (encR (pj J st) (u1 B 19 X) M rdv ru T)) = _ from e1), brS_19 (in_arr (show i < 64 by omega) (by decide) rfl), iN_nat (by omega), show iN (oneP n top c 49 9 st).1 + (1 : Int32) = iN ((oneP n top c 49 9 st).1 + 1) from iN_add, u1_u1, u1_eq, if_pos rfl, brR_19, brK, hb_of (show fX12_oneOf 45 (48 : Int32) (10 : Int32) (encC I E L pr ot (encR (pj J (oneP n top c 49 9 st).2) (u1 B 19 (upd X i (iN ((oneP n top c 49 9 st).1 + 1)))) M rdv ru T)) = _ from e2), show iN i + (1 : Int32) = iN (i + 1) from iN_add, brS_19 (in_arr (show i + 1 < 64 by omega) (by decide) rfl), iN_nat (by omega), u1_u1, u1_eq, if_pos rfl]
  rfl
end RG
