/-! GROUNDS: the model's lines, the class's call -/
section GW
variable {I A E I' A' : Nat → Nat → Int32} {L L' : Nat → Int64} {pr ot s : Nat} {J J' : Nat → Int32} {B B' : Nat → Nat → Int32} {M M' : Nat → Int64} {rdv rdv' : Value} {ru : Nat} {T : PH} {G P W G' P' W' n top fi mn w da room most o k N i : Nat} {c : Nat → Nat} {st : RSt} {X : Nat → Int32}
theorem GL.congr {a : Nat} {Y : Nat → Int32} (h : GL c a i X) (e : ∀ j, i ≤ j → j < i + 6 → Y j = X j) : GL c a i Y := by
  obtain ⟨h1, h2, h3, h4, h5⟩ := h
  refine ⟨h1, h2, (e i (by omega) (by omega)).trans h3, (e (i + 1) (by omega) (by omega)).trans h4, fun j hj => ⟨(h5 j hj).1, (e (i + 2 + j) (by omega) (by omega)).trans (h5 j hj).2⟩⟩
theorem tkL_59 {l : Nat} (hw : 0 < w) : tkL w da room (l, w) 59 = some (l, 0) := by
  unfold tkL
  try dsimp only
  rw [if_pos rfl, if_pos rfl]
theorem tkL_n59 {l ch : Nat} (h : ch ≠ 59) : tkL w da room (l, w) ch = none := by
  unfold tkL
  try dsimp only
  rw [if_pos rfl, if_neg h]
theorem tkL_full {l ch : Nat} (hw : 0 < w) (h : ¬ l + 1 ≤ room) : tkL w da room (l, 0) ch = none := by
  unfold tkL
  try dsimp only
  rw [if_neg (by omega), if_pos rfl, if_neg (fun d => h d.1)]
theorem r_grR (hJ : J 1 = iN G) (hG : G ≤ 8) (kx : Int32 → PH → Option (Int32 × PH)) (hR : ∀ X, RD J (u1 B 19 X) rdv n 55 c) : ∀ d k X, G + k + d = 8 → Sim (tkL 6 2 (8 - G)) (mayL 6) n 55 c (0, 0) (k, 0) (7 * k, none) → (∀ j, j < k → GL c (7 * j) (6 * j) X) →
    ∃ k' st' X', (∀ m, d + 1 < m → fX12_grounds_L24 45 kx m (iN k) (1 : Int32) (encC I E L pr ot (encR (pj J (7 * k, none)) (u1 B 19 X) M rdv ru T)) = kx (iN k') (encC I E L pr ot (encR (pj J st') (u1 B 19 X') M rdv ru T))) ∧ RB 90 st' ∧ Sim (tkL 6 2 (8 - G)) (mayL 6) n 55 c (0, 0) (k', 6) st' ∧ (st'.2 = none → G + k' ≤ 8 ∧ st'.1 + 1 = 7 * k' ∧ ¬ (st'.1 < n ∧ st'.1 < 55 ∧ c st'.1 = 59) ∧ ∀ j, j < k' → GL c (7 * j) (6 * j) X') := by
  intro d
  induction d with
  | zero =>
    intro k X hk hS hX
    have hlt : (7 * k, (none : Option Nat)).1 ≤ min n 55 := (hS.1 rfl).1
    have e1 := r_fault (I := I) (E := E) (L := L) (pr := pr) (ot := ot) (J := J) (B := u1 B 19 X) (M := M) (rdv := rdv) (ru := ru) (T := T) (st := (7 * k, none)) (fun q hq => by cases hq)
    have e2 := r_passes (I := I) (E := E) (L := L) (pr := pr) (ot := ot) (M := M) (ru := ru) (T := T) (ch := 59) (st := fltP (7 * k, none)) (hR X) (show 7 * k < 1000 by omega) (fun q hq => by cases hq; omega) (by decide)
    have e3 : pasP n 55 c 59 (fltP (7 * k, none)) = (false, fltP (7 * k, none)) := by
      unfold pasP
      rw [if_neg]
      rintro ⟨d, -⟩
      cases d
    rw [e3] at e2
    try dsimp only at e2
    refine ⟨k + 1, fltP (7 * k, none), X, fun m hm => ?_, ⟨show 7 * k ≤ 90 by omega, fun q hq => by cases hq; omega⟩, hS.flt rfl (fun _ _ => tkL_full (by decide) (by omega)) (fun _ _ => decide_eq_false (by dsimp only; omega)), fun e => by cases e⟩
    obtain ⟨m, rfl⟩ : ∃ m', m = m' + 2 := ⟨m - 2, by omega⟩
    rw [fX12_grounds_L24, if_neg (by decide), brK, hb_of (r_fine0 rfl), if_neg (by decide), brG_1, pj_ne (by decide) (by decide), hJ, iN_add, if_pos (by rw [show G + k = 8 by omega]; rfl), brG_17, pj_17, brK, hb_of e1]
    unfold fX12_grounds_J65_24
    rw [letE_eq, brK, hb_of (show fX12_passes 45 (59 : Int32) _ = some (0, _) from e2), fX12_grounds_L24, if_pos rfl, show iN k + (1 : Int32) = iN (k + 1) from iN_add]
  | succ d ih =>
    intro k X hk hS hX
    have hlt : (7 * k, (none : Option Nat)).1 ≤ min n 55 := (hS.1 rfl).1
    dsimp only at hlt
    have hb0 : RB 90 (7 * k, (none : Option Nat)) := ⟨show 7 * k ≤ 90 by omega, fun q hq => by cases hq⟩
    have hn := (hR X).2.2.1
    have hS1 : Sim (tkL 6 2 (8 - G)) (mayL 6) n 55 c (0, 0) (k + 1, 6) (rdG n 55 c (6 * k) (7 * k, none) X).1 := hS.rdG (by omega)
    have hb1 : RB 90 (rdG n 55 c (6 * k) (7 * k, none) X).1 := hb0.rdG (by omega) (by decide)
    have e1 := r_readGround (I := I) (E := E) (L := L) (pr := pr) (ot := ot) (M := M) (ru := ru) (T := T) (i := 6 * k) (st := (7 * k, none)) (hR X) hb0 (by omega)
    have e2 := r_passes (I := I) (E := E) (L := L) (pr := pr) (ot := ot) (M := M) (ru := ru) (T := T) (ch := 59) (st := (rdG n 55 c (6 * k) (7 * k, none) X).1) (hR (rdG n 55 c (6 * k) (7 * k, none) X).2) (show _ < 1000 by have := hb1.1; omega) hb1.2 (by decide)
    have gl : (rdG n 55 c (6 * k) (7 * k, none) X).1.2 = none → (rdG n 55 c (6 * k) (7 * k, none) X).1.1 = 7 * k + 6 ∧ ∀ j, j < k + 1 → GL c (7 * j) (6 * j) (rdG n 55 c (6 * k) (7 * k, none) X).2 := by
      intro e
      obtain ⟨-, f1, f2⟩ := rdG_none e
      refine ⟨f1, fun j hj => ?_⟩
      by_cases ej : j = k
      · subst ej; exact f2
      · exact (hX j (by omega)).congr (fun q h1 h2 => rdG_out (by omega))
    have hd : ∀ m, fX12_grounds_L24 45 kx (m + 1) (iN k) (1 : Int32) (encC I E L pr ot (encR (pj J (7 * k, none)) (u1 B 19 X) M rdv ru T)) = fX12_grounds_L24 45 kx m (iN (k + 1)) (if (pasP n 55 c 59 (rdG n 55 c (6 * k) (7 * k, none) X).1).1 then 1 else 0) (encC I E L pr ot (encR (pj J (pasP n 55 c 59 (rdG n 55 c (6 * k) (7 * k, none) X).1).2) (u1 B 19 (rdG n 55 c (6 * k) (7 * k, none) X).2) M rdv ru T)) := by
      intro m
      rw [fX12_grounds_L24, if_neg (by decide), brK, hb_of (r_fine0 rfl), if_neg (by decide), brG_1, pj_ne (by decide) (by decide), hJ, iN_add, if_neg (by rw [show (8 : Int32) = iN 8 from rfl, iN_eq (by omega) (by omega)]; omega), brK, show (6 : Int32) * iN k = iN (6 * k) from iN_mul, hb_of e1]
      unfold fX12_grounds_J65_24
      rw [letE_eq, brK, hb_of (show fX12_passes 45 (59 : Int32) _ = _ from e2), show iN k + (1 : Int32) = iN (k + 1) from iN_add]
    by_cases dd : (pasP n 55 c 59 (rdG n 55 c (6 * k) (7 * k, none) X).1).1 = true
    · obtain ⟨p1, p2, p3, p4, p5⟩ := pasP_t dd
      obtain ⟨f1, f2⟩ := gl p1
      have e5 : (pasP n 55 c 59 (rdG n 55 c (6 * k) (7 * k, none) X).1).2 = (7 * (k + 1), none) := by rw [p5, f1, show 7 * k + 6 + 1 = 7 * (k + 1) by omega]
      have hS2 := hS1.ok (s' := (k + 1, 0)) p1 ⟨p2, p3⟩ (by rw [p4]; exact tkL_59 (by decide))
      rw [f1, show 7 * k + 6 + 1 = 7 * (k + 1) by omega] at hS2
      obtain ⟨k', st', X', g1, g2⟩ := ih (k + 1) _ (by omega) hS2 f2
      refine ⟨k', st', X', fun m hm => ?_, g2⟩
      obtain ⟨m, rfl⟩ : ∃ m', m = m' + 1 := ⟨m - 1, by omega⟩
      rw [hd, if_pos dd, e5]
      exact g1 m (by omega)
    · obtain ⟨p1, p2⟩ := pasP_f dd
      refine ⟨k + 1, _, _, fun m hm => ?_, hb1, hS1, fun e => ⟨by omega, by have := (gl e).1; omega, fun q => p1 ⟨e, q.1, q.2.1, q.2.2⟩, (gl e).2⟩⟩
      obtain ⟨m, rfl⟩ : ∃ m', m = m' + 2 := ⟨m - 2, by omega⟩
      rw [hd, if_neg dd, p2, fX12_grounds_L24, if_pos rfl]
theorem TX.ch (h : TX I A J B) : ∃ (n : Nat) (c : Nat → Nat), n ≤ 80 ∧ I 1 1 = iN n ∧ J 10 = iN n ∧ ∀ k, k < n → c k < 256 ∧ A 2 k = iN (c k) ∧ B 9 k &&& 255 = iN (c k) ∧ (c k < 128 → B 9 k = iN (c k)) := by
  obtain ⟨n, h1, h2, h3, h4⟩ := h
  refine ⟨n, fun k => if hk : k < n then (h4 k hk).choose else 0, h1, h2, h3, fun k hk => ?_⟩
  try dsimp only
  rw [dif_pos hk]
  exact (h4 k hk).choose_spec
theorem c_cut0' (h1 : I 1 1 = iN n) (hn : n ≤ 80) : fX7_cut 1 (0 : Int32) (encC I A L pr ot T) = some (1, (encC (u2 I 1 1 0) A L pr ot T)) := c_cut0 h1 hn
theorem c_forgetA2 : fX5_forgetAll 7 (encC I A L pr ot T) = some ((), (encC (u2 (u2 I 7 2 0) 7 3 0) A L pr ot T)) := by
  unfold fX5_forgetAll
  rw [bW_7_2, bW_7_3]
theorem c_lines3 : fX2_lines 3 (encC I A L pr ot T) = some (I 3 4, (encC I A L pr ot T)) := by
  unfold fX2_lines
  rw [bG_3_4]
theorem c_lines4 : fX2_lines 4 (encC I A L pr ot T) = some (I 4 4, (encC I A L pr ot T)) := by
  unfold fX2_lines
  rw [bG_4_4]
theorem c_grounds0 (h1 : I 1 1 = iN 0) : fX11_grounds 0 (encC I A L pr ot T) = some (0, (encC (u2 I 1 1 0) A L pr ot T)) := by
  unfold fX11_grounds fX11_readGrounds
  rw [bK_0, bR_0_0, bK_1, hb_of c_sizeT, h1, if_pos (show iN 0 = (0 : Int32) from rfl), hb_some, bR_0_0, bK_1, hb_of (c_cut0 h1 (Nat.zero_le _))]
theorem c_grounds1 (h0 : n ≠ 0) (hF : FS I G P W) (hM : FMS I) (h1 : I 1 1 = iN n) (hn : n ≤ 80) (hc : ∀ k, k < n → c k < 256 ∧ A 2 k = iN (c k)) {q : Nat} (hs : (slF (tkL 6 2 (8 - G)) (mayL 6) n 55 c (min n 55) (0, 0) 0).1 = some q) :
    ∃ I', fX11_grounds 0 (encC I A L pr ot T) = some ((-1 : Int32) - wQ (some q), (encC (u2 I' 1 1 0) A L pr ot T)) ∧ frF 3 I I' := by
  have h8 := hF.2.2.2.1
  have hq := (slF_le _ _ _ _ hs).2
  obtain ⟨I', s1, s2, s3⟩ := c_slipL (L := L) (pr := pr) (ot := ot) (T := T) (A := A) (o := 3) (most := 55) (w := 6) (da := 2) (room := 8 - G) (Or.inl rfl) hM.1 hM.2.1 hM.2.2.1 (by decide) (by decide) (by decide) (by omega) (by decide) h1 hn hc
  refine ⟨I', ?_, s2⟩
  unfold fX11_grounds fX11_readGrounds
  rw [bK_0, bR_0_0, bK_1, hb_of c_sizeT, h1, if_neg (by rw [show (0 : Int32) = iN 0 from rfl, iN_eq (by omega) (by omega)]; exact h0), bR_0_1, bR_0_0, bR_0_7, bK_11, hb_of c_groundSize, hF.1, bK_3, show (8 : Int32) - iN G = iN (8 - G) from iN_sub (a := 8) h8, hb_of s1, hs, if_neg (wQ_ne (by omega)), hb_some, bR_0_0, bK_1, hb_of (c_cut0 ((s2 1 1 (by omega)).trans h1) hn)]
theorem c_grounds2 (h0 : n ≠ 0) (hF : FS I G P W) (hM : FMS I) (h1 : I 1 1 = iN n) (hn : n ≤ 80) (hc : ∀ k, k < n → c k < 256 ∧ A 2 k = iN (c k)) (hs : (slF (tkL 6 2 (8 - G)) (mayL 6) n 55 c (min n 55) (0, 0) 0).1 = none) (hk : (slF (tkL 6 2 (8 - G)) (mayL 6) n 55 c (min n 55) (0, 0) 0).2.1 = k) (hG : G + k ≤ 8) (hg : ∀ j, j < k → 7 * j + 6 ≤ n ∧ GLc c (7 * j)) :
    ∃ I', fX11_grounds 0 (encC I A L pr ot T) = some (iN k, (encC (u2 (u2 (u2 (u2 I' 11 9 (iN (G + k))) 7 2 0) 7 3 0) 1 1 0) (grA A c G k) L pr ot T)) ∧ frF 3 I I' := by
  have h8 := hF.2.2.2.1
  obtain ⟨I', s1, s2, s3⟩ := c_slipL (L := L) (pr := pr) (ot := ot) (T := T) (A := A) (o := 3) (most := 55) (w := 6) (da := 2) (room := 8 - G) (Or.inl rfl) hM.1 hM.2.1 hM.2.2.1 (by decide) (by decide) (by decide) (by omega) (by decide) h1 hn hc
  have s4 := s3 hs
  rw [hk] at s4
  have i9 := (s2 11 9 (by omega)).trans hF.1
  have i1 := (s2 1 1 (by omega)).trans h1
  refine ⟨I', ?_, s2⟩
  unfold fX11_grounds fX11_readGrounds
  rw [bK_0, bR_0_0, bK_1, hb_of c_sizeT, h1, if_neg (by rw [show (0 : Int32) = iN 0 from rfl, iN_eq (by omega) (by omega)]; exact h0), bR_0_1, bR_0_0, bR_0_7, bK_11, hb_of c_groundSize, hF.1, bK_3, show (8 : Int32) - iN G = iN (8 - G) from iN_sub (a := 8) h8, hb_of s1, hs, if_pos (show wQ none = -1 from rfl), bR_0_1, bK_3, hb_of c_lines3, s4, c_grL i1 hn hc i9 hG hg, bR_0_5, bK_7, hb_of c_forgetA2, hb_some, bR_0_0, bK_1, hb_of (c_cut0 (n := n) (by rw [u2_eq, if_neg (by decide), u2_eq, if_neg (by decide), u2_eq, if_neg (by decide)]; exact i1) hn)]
end GW
