/-! PEOPLE: the model's lines -/
def msN (n top : Nat) (c : Nat → Nat) (i : Nat) (q : RSt × (Nat → Int32)) : Nat → RSt × (Nat → Int32)
  | 0 => q
  | h + 1 => ((oneP n top c 48 10 (msN n top c i q h).1).2, upd (msN n top c i q h).2 (i + 1 + h) (iN (oneP n top c 48 10 (msN n top c i q h).1).1))
def rdM (n top : Nat) (c : Nat → Nat) (i : Nat) (st : RSt) (X : Nat → Int32) : RSt × (Nat → Int32) :=
  msN n top c i ((oneP n top c 49 9 st).2, upd X i (iN ((oneP n top c 49 9 st).1 + 1))) 4
/-- a line of one of PEOPLE from a on, and what was read of it -/
def ML (c : Nat → Nat) (a i : Nat) (X : Nat → Int32) : Prop :=
  (49 ≤ c a ∧ c a < 58) ∧ X i = iN (c a - 48) ∧ ∀ h, h < 4 → (48 ≤ c (a + 1 + h) ∧ c (a + 1 + h) < 58) ∧ X (i + 1 + h) = iN (c (a + 1 + h) - 48)
def MLc (c : Nat → Nat) (a : Nat) : Prop := (49 ≤ c a ∧ c a < 58) ∧ ∀ h, h < 4 → 48 ≤ c (a + 1 + h) ∧ c (a + 1 + h) < 58
section PP
variable {n top fi mn ch N i : Nat} {c : Nat → Nat} {st : RSt} {X : Nat → Int32}
theorem RB.ms {q : RSt × (Nat → Int32)} (h : RB N q.1) (hn : n ≤ N) (hN : N < 1000) : ∀ k, RB N (msN n top c i q k).1
  | 0 => h
  | k + 1 => (RB.ms h hn hN k).one hn hN
theorem msN_out {q : RSt × (Nat → Int32)} {j : Nat} : ∀ k, ¬ (i + 1 ≤ j ∧ j < i + 1 + k) → (msN n top c i q k).2 j = q.2 j
  | 0, _ => rfl
  | k + 1, h => by
    show upd (msN n top c i q k).2 (i + 1 + k) _ j = _
    rw [upd_ne (by omega)]
    exact msN_out k (by omega)
theorem msN_none {q : RSt × (Nat → Int32)} : ∀ k, (msN n top c i q k).1.2 = none → q.1.2 = none ∧ (msN n top c i q k).1.1 = q.1.1 + k ∧ ∀ h, h < k → (48 ≤ c (q.1.1 + h) ∧ c (q.1.1 + h) < 58) ∧ (msN n top c i q k).2 (i + 1 + h) = iN (c (q.1.1 + h) - 48)
  | 0, h => ⟨h, rfl, fun h hh => absurd hh (Nat.not_lt_zero _)⟩
  | k + 1, h => by
    obtain ⟨e1, e2, e3, e4, e5, e6, e7⟩ := oneP_none (st := (msN n top c i q k).1) h
    obtain ⟨f1, f2, f3⟩ := msN_none k e1
    refine ⟨f1, by show (oneP n top c 48 10 (msN n top c i q k).1).2.1 = _; rw [e6, f2]; omega, fun j hj => ?_⟩
    rw [f2] at e4 e5 e7
    by_cases d : j = k
    · subst d
      refine ⟨⟨e4, by omega⟩, ?_⟩
      show upd (msN n top c i q j).2 (i + 1 + j) _ (i + 1 + j) = _
      rw [upd_eq, e7]
    · obtain ⟨g1, g3⟩ := f3 j (by omega)
      refine ⟨g1, ?_⟩
      show upd (msN n top c i q k).2 (i + 1 + k) _ (i + 1 + j) = _
      rw [upd_ne (by omega), g3]
theorem RB.rdM (h : RB N st) (hn : n ≤ N) (hN : N < 1000) : RB N (rdM n top c i st X).1 := RB.ms (h.one hn hN) hn hN 4
theorem rdM_out {j : Nat} (h : ¬ (i ≤ j ∧ j < i + 5)) : (rdM n top c i st X).2 j = X j := by
  unfold rdM
  rw [msN_out 4 (by omega)]
  show upd X i _ j = _
  rw [upd_ne (by omega)]
theorem rdM_none (h : (rdM n top c i st X).1.2 = none) : st.2 = none ∧ (rdM n top c i st X).1.1 = st.1 + 5 ∧ ML c st.1 i (rdM n top c i st X).2 := by
  obtain ⟨e1, e2, e3⟩ := msN_none 4 h
  obtain ⟨g1, g2, g3, g4, g5, g6, g7⟩ := oneP_none e1
  dsimp only at e2 e3
  rw [g6] at e2 e3
  refine ⟨g1, by unfold rdM; rw [e2], ⟨g4, by omega⟩, ?_, fun j hj => ?_⟩
  · unfold rdM
    rw [msN_out 4 (by omega)]
    show upd X i _ i = _
    rw [upd_eq, g7]
    congr 1
    omega
  · exact e3 j hj
theorem Sim.ms {room k : Nat} {s0 : Nat × Nat} {q : RSt × (Nat → Int32)} (h : Sim (tkL 5 5 room) (mayL 5) n top c s0 (k, 1) q.1) : ∀ j, j ≤ 4 → Sim (tkL 5 5 room) (mayL 5) n top c s0 (k, 1 + j) (msN n top c i q j).1
  | 0, _ => h
  | j + 1, hj => (Sim.ms h j (by omega)).one (fun ch => by
    unfold tkL
    try dsimp only
    rw [if_neg (by omega), if_neg (by omega)]
    by_cases d : 48 ≤ ch ∧ ch < 48 + 10
    · rw [if_pos d, if_pos (by omega)]; rfl
    · rw [if_neg d, if_neg (by omega)]) (decide_eq_false (by dsimp only; omega))
theorem Sim.rdM {room k : Nat} {s0 : Nat × Nat} (h : Sim (tkL 5 5 room) (mayL 5) n top c s0 (k, 0) st) (hk : k < room) : Sim (tkL 5 5 room) (mayL 5) n top c s0 (k + 1, 5) (rdM n top c i st X).1 := by
  have h1 : Sim (tkL 5 5 room) (mayL 5) n top c s0 (k + 1, 1) (oneP n top c 49 9 st).2 := h.one (fun ch => by
    unfold tkL
    try dsimp only
    rw [if_neg (by omega), if_pos rfl]
    by_cases d : 49 ≤ ch ∧ ch < 49 + 9
    · rw [if_pos d, if_pos (by omega)]
    · rw [if_neg d, if_neg (by omega)]) (decide_eq_false (by dsimp only; omega))
  exact Sim.ms (q := ((oneP n top c 49 9 st).2, upd X i (iN ((oneP n top c 49 9 st).1 + 1)))) h1 4 (Nat.le_refl 4)
theorem ML.congr {a : Nat} {Y : Nat → Int32} (h : ML c a i X) (e : ∀ j, i ≤ j → j < i + 5 → Y j = X j) : ML c a i Y := by
  obtain ⟨h1, h3, h5⟩ := h
  refine ⟨h1, (e i (by omega) (by omega)).trans h3, fun j hj => ⟨(h5 j hj).1, (e (i + 1 + j) (by omega) (by omega)).trans (h5 j hj).2⟩⟩
end PP
section PG
variable {I A E I' A' : Nat → Nat → Int32} {L L' : Nat → Int64} {pr ot s : Nat} {J J' : Nat → Int32} {B B' : Nat → Nat → Int32} {M M' : Nat → Int64} {rdv rdv' : Value} {ru : Nat} {T : PH} {G P W n top fi mn w da room most o k N i : Nat} {c : Nat → Nat} {st : RSt} {X : Nat → Int32}
theorem r_ms (h : RD J (u1 B 19 X) rdv n top c) (hb : RB 90 st) (hi : i + 1 + k < 64) (hk : k < 4) (kx : PH → Option (Unit × PH)) (m : Nat) : fX12_readMan_L18 45 (iN i) kx (m + 1) (iN k) (encC I E L pr ot (encR (pj J st) (u1 B 19 X) M rdv ru T)) = fX12_readMan_L18 45 (iN i) kx m (iN (k + 1)) (encC I E L pr ot (encR (pj J (oneP n top c 48 10 st).2) (u1 B 19 (upd X (i + 1 + k) (iN (oneP n top c 48 10 st).1))) M rdv ru T)) := by
  have e2 := r_oneOf (I := I) (E := E) (L := L) (pr := pr) (ot := ot) (M := M) (ru := ru) (T := T) (fi := 48) (mn := 10) h (show st.1 < 1000 by have := hb.1; omega) hb.2 (by decide) (by decide)
  have ia : iN i + (1 : Int32) + iN k = iN (i + 1 + k) := by rw [show (1 : Int32) = iN 1 from rfl, iN_add, iN_add]
  rw [fX12_readMan_L18, if_neg (by rw [show (4 : Int32) = iN 4 from rfl, iN_le (by omega) (by omega)]; omega), brR_19, brK, hb_of (show fX12_oneOf 45 (48 : Int32) (10 : Int32) (encC I E L pr ot (encR (pj J st) (u1 B 19 X) M rdv ru T)) = _ from e2), ia, brS_19 (in_arr (show i + 1 + k < 64 by omega) (by decide) rfl), iN_nat (by omega), letE_eq, show iN k + (1 : Int32) = iN (k + 1) from iN_add, u1_u1, u1_eq, if_pos rfl]
theorem r_readMan (h : RD J (u1 B 19 X) rdv n top c) (hb : RB 90 st) (hi : i + 5 ≤ 64) : fX12_readMan 45 (iN i) (encC I E L pr ot (encR (pj J st) (u1 B 19 X) M rdv ru T)) = some ((), (encC I E L pr ot (encR (pj J (rdM n top c i st X).1) (u1 B 19 (rdM n top c i st X).2) M rdv ru T))) := by
  have hn := h.2.2.1
  have hg : ∀ Y, RD J (u1 B 19 Y) rdv n top c := fun Y => h.fr rfl rfl (fun x hx => by rw [u1_eq, if_neg (by omega), u1_eq, if_neg (by omega)])
  have hb1 : RB 90 (oneP n top c 49 9 st).2 := hb.one (by omega) (by decide)
  have e1 := r_oneOf (I := I) (E := E) (L := L) (pr := pr) (ot := ot) (M := M) (ru := ru) (T := T) (fi := 49) (mn := 9) h (show st.1 < 1000 by have := hb.1; omega) hb.2 (by decide) (by decide)
  have key := lp_det (fun m k (q : RSt × (Nat → Int32)) => fX12_readMan_L18 45 (iN i) (fun h9 => some ((), h9)) m (iN k) (encC I E L pr ot (encR (pj J q.1) (u1 B 19 q.2) M rdv ru T))) (fun q => some ((), (encC I E L pr ot (encR (pj J q.1) (u1 B 19 q.2) M rdv ru T)))) (msN n top c i ((oneP n top c 49 9 st).2, upd X i (iN ((oneP n top c 49 9 st).1 + 1)))) 4
    (fun k hk m => r_ms (hg _) (RB.ms hb1 (by omega) (by decide) k) (by omega) hk _ m)
    (fun m => by rw [fX12_readMan_L18]; exact if_pos (by decide)) FU (by unfold FU; omega)
  refine Eq.trans ?_ key
  unfold fX12_readMan
  rw [brR_19, brK, hb_of (show fX12_oneOf 45 (49 : Int32) (9 : Int32) (encC I E L pr ot (encR (pj J st) (u1 B 19 X) M rdv ru T)) = _ from e1), brS_19 (in_arr (show i < 64 by omega) (by decide) rfl), iN_nat (by omega), show iN (oneP n top c 49 9 st).1 + (1 : Int32) = iN ((oneP n top c 49 9 st).1 + 1) from iN_add, u1_u1, u1_eq, if_pos rfl]
  rfl
theorem r_mnR (hJ : J 2 = iN P) (hP : P ≤ 6) (kx : Int32 → PH → Option (Int32 × PH)) (hR : ∀ X, RD J (u1 B 19 X) rdv n 35 c) : ∀ d k X, P + k + d = 6 → Sim (tkL 5 5 (6 - P)) (mayL 5) n 35 c (0, 0) (k, 0) (6 * k, none) → (∀ j, j < k → ML c (6 * j) (5 * j) X) →
    ∃ k' st' X', (∀ m, d + 1 < m → fX12_people_L24 45 kx m (iN k) (1 : Int32) (encC I E L pr ot (encR (pj J (6 * k, none)) (u1 B 19 X) M rdv ru T)) = kx (iN k') (encC I E L pr ot (encR (pj J st') (u1 B 19 X') M rdv ru T))) ∧ RB 90 st' ∧ Sim (tkL 5 5 (6 - P)) (mayL 5) n 35 c (0, 0) (k', 5) st' ∧ (st'.2 = none → P + k' ≤ 6 ∧ st'.1 + 1 = 6 * k' ∧ ¬ (st'.1 < n ∧ st'.1 < 35 ∧ c st'.1 = 59) ∧ ∀ j, j < k' → ML c (6 * j) (5 * j) X') := by
  intro d
  induction d with
  | zero =>
    intro k X hk hS hX
    have hlt : (6 * k, (none : Option Nat)).1 ≤ min n 35 := (hS.1 rfl).1
    have e1 := r_fault (I := I) (E := E) (L := L) (pr := pr) (ot := ot) (J := J) (B := u1 B 19 X) (M := M) (rdv := rdv) (ru := ru) (T := T) (st := (6 * k, none)) (fun q hq => by cases hq)
    have e2 := r_passes (I := I) (E := E) (L := L) (pr := pr) (ot := ot) (M := M) (ru := ru) (T := T) (ch := 59) (st := fltP (6 * k, none)) (hR X) (show 6 * k < 1000 by omega) (fun q hq => by cases hq; omega) (by decide)
    have e3 : pasP n 35 c 59 (fltP (6 * k, none)) = (false, fltP (6 * k, none)) := by
      unfold pasP
      rw [if_neg]
      rintro ⟨d, -⟩
      cases d
    rw [e3] at e2
    try dsimp only at e2
    refine ⟨k + 1, fltP (6 * k, none), X, fun m hm => ?_, ⟨show 6 * k ≤ 90 by omega, fun q hq => by cases hq; omega⟩, hS.flt rfl (fun _ _ => tkL_full (by decide) (by omega)) (fun _ _ => decide_eq_false (by dsimp only; omega)), fun e => by cases e⟩
    obtain ⟨m, rfl⟩ : ∃ m', m = m' + 2 := ⟨m - 2, by omega⟩
    rw [fX12_people_L24, if_neg (by decide), brK, hb_of (r_fine0 rfl), if_neg (by decide), brG_2, pj_ne (by decide) (by decide), hJ, iN_add, if_pos (by rw [show P + k = 6 by omega]; rfl), brG_17, pj_17, brK, hb_of e1]
    unfold fX12_people_J64_24
    rw [letE_eq, brK, hb_of (show fX12_passes 45 (59 : Int32) _ = some (0, _) from e2), fX12_people_L24, if_pos rfl, show iN k + (1 : Int32) = iN (k + 1) from iN_add]
  | succ d ih =>
    intro k X hk hS hX
    have hlt : (6 * k, (none : Option Nat)).1 ≤ min n 35 := (hS.1 rfl).1
    dsimp only at hlt
    have hb0 : RB 90 (6 * k, (none : Option Nat)) := ⟨show 6 * k ≤ 90 by omega, fun q hq => by cases hq⟩
    have hn := (hR X).2.2.1
    have hS1 : Sim (tkL 5 5 (6 - P)) (mayL 5) n 35 c (0, 0) (k + 1, 5) (rdM n 35 c (5 * k) (6 * k, none) X).1 := hS.rdM (by omega)
    have hb1 : RB 90 (rdM n 35 c (5 * k) (6 * k, none) X).1 := hb0.rdM (by omega) (by decide)
    have e1 := r_readMan (I := I) (E := E) (L := L) (pr := pr) (ot := ot) (M := M) (ru := ru) (T := T) (i := 5 * k) (st := (6 * k, none)) (hR X) hb0 (by omega)
    have e2 := r_passes (I := I) (E := E) (L := L) (pr := pr) (ot := ot) (M := M) (ru := ru) (T := T) (ch := 59) (st := (rdM n 35 c (5 * k) (6 * k, none) X).1) (hR (rdM n 35 c (5 * k) (6 * k, none) X).2) (show _ < 1000 by have := hb1.1; omega) hb1.2 (by decide)
    have gl : (rdM n 35 c (5 * k) (6 * k, none) X).1.2 = none → (rdM n 35 c (5 * k) (6 * k, none) X).1.1 = 6 * k + 5 ∧ ∀ j, j < k + 1 → ML c (6 * j) (5 * j) (rdM n 35 c (5 * k) (6 * k, none) X).2 := by
      intro e
      obtain ⟨-, f1, f2⟩ := rdM_none e
      refine ⟨f1, fun j hj => ?_⟩
      by_cases ej : j = k
      · subst ej; exact f2
      · exact (hX j (by omega)).congr (fun q h1 h2 => rdM_out (by omega))
    have hd : ∀ m, fX12_people_L24 45 kx (m + 1) (iN k) (1 : Int32) (encC I E L pr ot (encR (pj J (6 * k, none)) (u1 B 19 X) M rdv ru T)) = fX12_people_L24 45 kx m (iN (k + 1)) (if (pasP n 35 c 59 (rdM n 35 c (5 * k) (6 * k, none) X).1).1 then 1 else 0) (encC I E L pr ot (encR (pj J (pasP n 35 c 59 (rdM n 35 c (5 * k) (6 * k, none) X).1).2) (u1 B 19 (rdM n 35 c (5 * k) (6 * k, none) X).2) M rdv ru T)) := by
      intro m
      rw [fX12_people_L24, if_neg (by decide), brK, hb_of (r_fine0 rfl), if_neg (by decide), brG_2, pj_ne (by decide) (by decide), hJ, iN_add, if_neg (by rw [show (6 : Int32) = iN 6 from rfl, iN_eq (by omega) (by omega)]; omega), brK, show (5 : Int32) * iN k = iN (5 * k) from iN_mul, hb_of e1]
      unfold fX12_people_J64_24
      rw [letE_eq, brK, hb_of (show fX12_passes 45 (59 : Int32) _ = _ from e2), show iN k + (1 : Int32) = iN (k + 1) from iN_add]
    by_cases dd : (pasP n 35 c 59 (rdM n 35 c (5 * k) (6 * k, none) X).1).1 = true
    · obtain ⟨p1, p2, p3, p4, p5⟩ := pasP_t dd
      obtain ⟨f1, f2⟩ := gl p1
      have e5 : (pasP n 35 c 59 (rdM n 35 c (5 * k) (6 * k, none) X).1).2 = (6 * (k + 1), none) := by rw [p5, f1, show 6 * k + 5 + 1 = 6 * (k + 1) by omega]
      have hS2 := hS1.ok (s' := (k + 1, 0)) p1 ⟨p2, p3⟩ (by rw [p4]; exact tkL_59 (by decide))
      rw [f1, show 6 * k + 5 + 1 = 6 * (k + 1) by omega] at hS2
      obtain ⟨k', st', X', g1, g2⟩ := ih (k + 1) _ (by omega) hS2 f2
      refine ⟨k', st', X', fun m hm => ?_, g2⟩
      obtain ⟨m, rfl⟩ : ∃ m', m = m' + 1 := ⟨m - 1, by omega⟩
      rw [hd, if_pos dd, e5]
      exact g1 m (by omega)
    · obtain ⟨p1, p2⟩ := pasP_f dd
      refine ⟨k + 1, _, _, fun m hm => ?_, hb1, hS1, fun e => ⟨by omega, by have := (gl e).1; omega, fun q => p1 ⟨e, q.1, q.2.1, q.2.2⟩, (gl e).2⟩⟩
      obtain ⟨m, rfl⟩ : ∃ m', m = m' + 2 := ⟨m - 2, by omega⟩
      rw [hd, if_neg dd, p2, fX12_people_L24, if_pos rfl]
end PG
