/-! WANTS: the pair -/
section WQ
variable {I A E I' A' : Nat → Nat → Int32} {L L' : Nat → Int64} {pr ot s : Nat} {J J' : Nat → Int32} {B B' Q : Nat → Nat → Int32} {M M' : Nat → Int64} {rdv rdv' : Value} {ru : Nat} {T : PH} {out : Nat → Int64} {G P W n top fi w room most o k N i t l q ch a m j : Nat} {c tt : Nat → Nat} {st : RSt} {X Y f v : Nat → Int32}
theorem fil_at (h : i < k) : fil f o v k (o + i) = v i := by
  rw [fil_eq, if_pos (by omega), Nat.add_sub_cancel_left]
theorem fil_o (h : ¬ (o ≤ i ∧ i < o + k)) : fil f o v k i = f i := by rw [fil_eq, if_neg h]
theorem FM.wnt (h : FM A J B G P w) (w6 : w < 6) (hm : m ≤ 3) (hT : ∀ q, q < m → TLc c (a + 3 * q) ∧ TLv c (a + 3 * q) (9 * j + 3 * q) X) (hY : Y j = iN m) (j1 : J' 1 = J 1) (j2 : J' 2 = J 2) (j3 : J' 3 = iN (w + 1)) : FM (wnS A c a w m) J' (wnT B X Y w j) G P (w + 1) := by
  obtain ⟨h1, h2, h3, h4, h5, h6, h7, h8, h9, h10⟩ := h
  refine ⟨j1.trans h1, j2.trans h2, j3, h4, h5, by omega, fun g hg => ?_, fun q hq => ?_, fun p hp => ?_, fun w' hw => ?_⟩
  · rw [wnS_ne (by omega), wnT_ne (by omega) (by omega)]
    exact h7 g hg
  · rw [wnS_ne (by omega), wnT_ne (by omega) (by omega)]
    exact h8 q hq
  · rw [wnS_ne (by omega), wnT_ne (by omega) (by omega)]
    exact h9 p hp
  · rw [wnS_15, wnS_o (x := 16) (by decide), wnS_o (x := 17) (by decide), wnS_o (x := 18) (by decide), wtA_16, wtA_17, wtA_18, wnT_7, wnT_8]
    by_cases e : w' = w
    · subst e
      refine ⟨m, hm, upd_eq, upd_eq.trans hY, fun t ht => ?_⟩
      obtain ⟨⟨g1, g2, g3⟩, x1, x2, x3⟩ := hT t ht
      rw [fil_at ht, fil_at ht, fil_at ht, fil_at (show 3 * t < 9 by omega), show 9 * w' + 3 * t + 2 = 9 * w' + (3 * t + 2) by omega, show 9 * w' + 3 * t + 1 = 9 * w' + (3 * t + 1) by omega, fil_at (show 3 * t + 2 < 9 by omega), fil_at (show 3 * t + 1 < 9 by omega)]
      refine ⟨c (a + 3 * t) - 97, c (a + 3 * t + 2) - 48, by omega, by omega, rfl, rfl, x1, x3, ?_⟩
      rcases g2 with d | d
      · exact Or.inl ⟨by rw [d]; rfl, by show X (9 * j + 3 * t + 1) = 0; rw [x2, d]; rfl⟩
      · exact Or.inr ⟨by rw [d]; rfl, by show X (9 * j + 3 * t + 1) = 1; rw [x2, d]; rfl⟩
    · obtain ⟨n, q1, q2, q3, q4⟩ := h10 w' (by omega)
      refine ⟨n, q1, (upd_ne e).trans q2, (upd_ne e).trans q3, fun t ht => ?_⟩
      rw [fil_o (by omega), fil_o (by omega), fil_o (by omega), fil_o (by omega), fil_o (by omega), fil_o (by omega)]
      exact q4 t ht
theorem FM.wnts (h : FM A J B G P W) (h6 : W + k ≤ 6) (hT : ∀ j, j < k → 1 ≤ tt j ∧ tt j ≤ 3 ∧ Y j = iN (tt j) ∧ WL2 c (psW tt j) (9 * j) (tt j) X) : ∀ i, i ≤ k → FM (wnA A c tt W i) (u1 J 3 (iN (W + i))) (wnB B X Y W i) G P (W + i)
  | 0, _ => by rw [show u1 J 3 (iN (W + 0)) = J from u1_same h.2.2.1]; exact h
  | i + 1, hi => by
    obtain ⟨t1, t2, t3, t4⟩ := hT i (by omega)
    exact (FM.wnts h h6 hT i (by omega)).wnt (by omega) t2 (fun q hq => t4 q hq) t3 ((u1_o (by decide)).trans (u1_o (by decide)).symm) ((u1_o (by decide)).trans (u1_o (by decide)).symm) u1_at
theorem c_lines5 : fX9_lines 5 (encC I A L pr ot T) = some (I 5 2, (encC I A L pr ot T)) := by
  unfold fX9_lines
  rw [bG_5_2]
theorem c_wants0 (h1 : I 1 1 = iN 0) : fX11_wants 0 (encC I A L pr ot T) = some (0, (encC (u2 I 1 1 0) A L pr ot T)) := by
  unfold fX11_wants fX11_readWants
  rw [bK_0, bR_0_0, bK_1, hb_of c_sizeT, h1, if_pos (show iN 0 = (0 : Int32) from rfl), hb_some, bR_0_0, bK_1, hb_of (c_cut0 h1 (Nat.zero_le _))]
theorem c_wants1 (h0 : n ≠ 0) (hF : FS I G P W) (hM : FMS I) (h1 : I 1 1 = iN n) (hn : n ≤ 80) (hc : ∀ k, k < n → c k < 256 ∧ A 2 k = iN (c k)) {q : Nat} (hs : (slF (tkW (6 - W)) mayW n 59 c (min n 59) (0, 0, 0) 0).1 = some q) :
    ∃ I', fX11_wants 0 (encC I A L pr ot T) = some ((-1 : Int32) - wQ (some q), (encC (u2 I' 1 1 0) A L pr ot T)) ∧ frF1 5 I I' := by
  have h6 := hF.2.2.2.2.2
  have hq := (slF_le _ _ _ _ hs).2
  obtain ⟨I', s1, s2, s3⟩ := c_slipW (L := L) (pr := pr) (ot := ot) (T := T) (A := A) (room := 6 - W) hM.2.2.2.2.2.2.1 (by omega) h1 hn hc
  refine ⟨I', ?_, s2⟩
  unfold fX11_wants fX11_readWants
  rw [bK_0, bR_0_0, bK_1, hb_of c_sizeT, h1, if_neg (by rw [show (0 : Int32) = iN 0 from rfl, iN_eq (by omega) (by omega)]; exact h0), bR_0_3, bR_0_0, bR_0_7, bK_11, hb_of c_wantSize, hF.2.2.1, bK_5, show (6 : Int32) - iN W = iN (6 - W) from iN_sub (a := 6) h6, hb_of s1, hs, if_neg (wQ_ne (by omega)), hb_some, bR_0_0, bK_1, hb_of (c_cut0 ((s2 1 1 (by omega)).trans h1) hn)]
theorem c_wants2 (h0 : n ≠ 0) (hF : FS I G P W) (hM : FMS I) (h1 : I 1 1 = iN n) (hn : n ≤ 80) (hc : ∀ k, k < n → c k < 256 ∧ A 2 k = iN (c k)) (hs : (slF (tkW (6 - W)) mayW n 59 c (min n 59) (0, 0, 0) 0).1 = none) (hk : (slF (tkW (6 - W)) mayW n 59 c (min n 59) (0, 0, 0) 0).2.1 = k) (hG : W + k ≤ 6) (hkn : n + 1 = psW tt k) (ht : ∀ j, j < k → 1 ≤ tt j ∧ tt j ≤ 3 ∧ (∀ q, q < tt j → TLc c (psW tt j + 3 * q)) ∧ (psW tt j + 3 * tt j = n ∨ c (psW tt j + 3 * tt j) = 59)) :
    ∃ I', fX11_wants 0 (encC I A L pr ot T) = some (iN k, (encC (u2 (u2 (u2 (u2 I' 11 11 (iN (W + k))) 7 2 0) 7 3 0) 1 1 0) (wnA A c tt W k) L pr ot T)) ∧ frF1 5 I I' := by
  have h6 := hF.2.2.2.2.2
  obtain ⟨I', s1, s2, s3⟩ := c_slipW (L := L) (pr := pr) (ot := ot) (T := T) (A := A) (room := 6 - W) hM.2.2.2.2.2.2.1 (by omega) h1 hn hc
  have s4 := s3 hs
  rw [hk] at s4
  have i9 := (s2 11 11 (by omega)).trans hF.2.2.1
  have i1 := (s2 1 1 (by omega)).trans h1
  have s5 : u2 (u2 (u2 I' 11 11 (iN (W + k))) 7 2 0) 7 3 0 5 2 = iN k := by rw [u2_o (by decide), u2_o (by decide), u2_o (by decide)]; exact s4
  refine ⟨I', ?_, s2⟩
  unfold fX11_wants fX11_readWants
  rw [bK_0, bR_0_0, bK_1, hb_of c_sizeT, h1, if_neg (by rw [show (0 : Int32) = iN 0 from rfl, iN_eq (by omega) (by omega)]; exact h0), bR_0_3, bR_0_0, bR_0_7, bK_11, hb_of c_wantSize, hF.2.2.1, bK_5, show (6 : Int32) - iN W = iN (6 - W) from iN_sub (a := 6) h6, hb_of s1, hs, if_pos (show wQ none = -1 from rfl), bR_0_7, bR_0_0, bK_11, hb_of (c_adW i1 hn hc i9 hG hkn ht), bR_0_5, bK_7, hb_of c_forgetA2, bR_0_3, bK_5, hb_of c_lines5, s5, hb_some, bR_0_0, bK_1, hb_of (c_cut0 (n := n) (by rw [u2_eq, if_neg (by decide), u2_eq, if_neg (by decide), u2_eq, if_neg (by decide)]; exact i1) hn)]
/-- what the signs of k lines are -/
def WOK (n : Nat) (c : Nat → Nat) (W k : Nat) (tt : Nat → Nat) : Prop := W + k ≤ 6 ∧ n + 1 = psW tt k ∧ ∀ j, j < k → 1 ≤ tt j ∧ tt j ≤ 3 ∧ (∀ q, q < tt j → TLc c (psW tt j + 3 * q)) ∧ (psW tt j + 3 * tt j = n ∨ c (psW tt j + 3 * tt j) = 59)
theorem WOK.uniq {t1 t2 : Nat → Nat} (h1 : WOK n c W k t1) (h2 : WOK n c W k t2) : ∀ j, j < k → t1 j = t2 j := by
  intro j
  induction j using Nat.strongRecOn with
  | _ j ih =>
    intro hj
    have ep : psW t1 j = psW t2 j := psW_congr j (fun q hq => ih q hq (by omega))
    obtain ⟨a1, a2, a3, a4⟩ := h1.2.2 j hj
    obtain ⟨b1, b2, b3, b4⟩ := h2.2.2 j hj
    have m1 := psW_mono (f := t1) k hj
    have m2 := psW_mono (f := t2) k hj
    have n1 := h1.2.1
    have n2 := h2.2.1
    rcases Nat.lt_trichotomy (t1 j) (t2 j) with d | d | d
    · exfalso
      have := (b3 (t1 j) d).1
      rw [← ep] at this
      rcases a4 with e | e <;> omega
    · exact d
    · exfalso
      have := (a3 (t2 j) d).1
      rw [ep] at this
      rcases b4 with e | e <;> omega
theorem m_wants (hM : FM A J B G P W) (n0 : n ≠ 0) (hn : n ≤ 80) (e2 : J 10 = iN n) (hcc : ∀ k, k < n → c k < 256 ∧ B 9 k &&& 255 = iN (c k) ∧ (c k < 128 → B 9 k = iN (c k))) :
    (∀ q, (slF (tkW (6 - W)) mayW n 59 c (min n 59) (0, 0, 0) 0).1 = some q → ∃ J' B', fX12_wants 45 (encC I E L pr ot (encR J B M rdv ru T)) = some ((-1 : Int32) - wQ (some q), (encC I E L pr ot (encR J' B' M (.ref 52) ru T))) ∧ frG J J' ∧ frGB B B' ∧ J' 10 = 0) ∧
    ((slF (tkW (6 - W)) mayW n 59 c (min n 59) (0, 0, 0) 0).1 = none → (slF (tkW (6 - W)) mayW n 59 c (min n 59) (0, 0, 0) 0).2.1 = k → ∃ tt, WOK n c W k tt ∧ ∃ J' B' X Y, fX12_wants 45 (encC I E L pr ot (encR J B M rdv ru T)) = some (iN k, (encC I E L pr ot (encR (u1 (u1 (u1 J' 3 (iN (W + k))) 27 0) 47 (J 47 + 1)) (wnB B' X Y W k) M (.ref 52) ru T))) ∧ frG J J' ∧ frGB B B' ∧ J' 10 = 0 ∧ ∀ j, j < k → 1 ≤ tt j ∧ tt j ≤ 3 ∧ Y j = iN (tt j) ∧ WL2 c (psW tt j) (9 * j) (tt j) X) := by
  have h6 := hM.2.2.2.2.2.1
  have b0 : fX12_beginText 45 (59 : Int32) (encC I E L pr ot (encR (u1 J 13 0) B M rdv ru T)) = some ((), (encC I E L pr ot (encR (pj (bj (u1 J 13 0) n 59) (0, none)) B M (.ref 52) ru T))) := r_beginText (by rw [u1_eq, if_neg (by decide)]; exact e2)
  have hn0 : ¬ (iN n = (0 : Int32)) := by rw [show (0 : Int32) = iN 0 from rfl, iN_eq (by omega) (by omega)]; exact n0
  have hR : ∀ Y X, RD (bj (u1 J 13 0) n 59) (u1 (u1 B 20 Y) 19 X) (.ref 52) n 59 c := fun Y X => (RD.begin hn (by decide) (fun k hk => ⟨(hcc k hk).1, (hcc k hk).2⟩)).fr rfl rfl (fun x hx => by rw [u1_o (by omega), u1_o (by omega)])
  have hJ1 : bj (u1 J 13 0) n 59 3 = iN W := (bj_ne (by decide) (by decide) (by decide)).trans hM.2.2.1
  have hB : u1 (u1 B 20 (B 20)) 19 (B 19) = B := by rw [u1_same (F := B) rfl, u1_same (F := B) rfl]
  obtain ⟨k', tt, st', X', Y', r1, r2, r3, r4⟩ := r_wnR (I := I) (E := E) (L := L) (pr := pr) (ot := ot) (B := B) (M := M) (ru := ru) (T := T) hJ1 h6 hn (fun x4 h5 => (h_ck 11 h5 45).bind fun _ => h_bd (fX12_wasRight 45 h5) fun x6 h7 => if x6 = 0 then ((h_gi 11 18 h7 45).bind fun x10 => some (((-1 : Int32) - x10), h7)) else (fX12_wants_L100 45 x4 (fun h8 => (h_ck 11 h8 45).bind fun _ => h_bd (fX12_told 45 h8) fun _ h9 => some (x4, h9)) FU (0 : Int32) h7)) hR (6 - W) 0 (fun _ => 0) (B 19) (B 20) (by omega) Sim.start (fun j hj => absurd hj (Nat.not_lt_zero _))
  have run := r1 FU (by unfold FU; omega)
  rw [hB] at run
  have fin := r3.fin (fun e a b => by rw [tkW_t (r4 e).2.1, if_neg (fun d => (r4 e).2.2.2.1 ⟨a, b, Or.inl d⟩), if_neg (fun d => (r4 e).2.2.2.1 ⟨a, b, Or.inr d.2.2⟩)]) (fun e => decide_eq_true ⟨rfl, (r4 e).2.1⟩)
  have wr := r_wasRight (I := I) (E := E) (L := L) (pr := pr) (ot := ot) (B := u1 (u1 B 20 Y') 19 X') (M := M) (rdv := .ref 52) (ru := ru) (T := T) (J := bj (u1 J 13 0) n 59) (n := n) bj_15 hn (show st'.1 < 1000 by have := r2.1; omega) r2.2
  have start : fX12_wants 45 (encC I E L pr ot (encR J B M rdv ru T)) = h_bd (fX12_wasRight 45 (encC I E L pr ot (encR (pj (bj (u1 J 13 0) n 59) st') (u1 (u1 B 20 Y') 19 X') M (.ref 52) ru T))) fun x6 h7 => if x6 = 0 then ((h_gi 11 18 h7 45).bind fun x10 => some (((-1 : Int32) - x10), h7)) else (fX12_wants_L100 45 (iN k') (fun h8 => (h_ck 11 h8 45).bind fun _ => h_bd (fX12_told 45 h8) fun _ h9 => some (iN k', h9)) FU (0 : Int32) h7) := by
    unfold fX12_wants
    rw [brW_13, brK, hb_of b0, brG_15, pjb_15, if_neg hn0]
    refine Eq.trans run ?_
    rw [brK]
  have frb : frGB B (u1 (u1 B 20 Y') 19 X') := fun x h1 h2 h3 => by rw [u1_o h1, u1_o h2]
  refine ⟨fun q hq => ?_, fun hs hk => ?_⟩
  · refine ⟨pj (bj (u1 J 13 0) n 59) (rgtP n st'), u1 (u1 B 20 Y') 19 X', ?_, fun x h1 h2 h3 => pjb_ne h1 h2 h3, frb, pjb_10⟩
    have e3 : (rgtP n st').2 = some q := fin.1.symm.trans hq
    rw [start, hb_of wr, e3, if_neg (show ¬ (some q : Option Nat) = none from fun d => by cases d), if_pos rfl, brG_18, pj_18, e3]
  · have e3 : (rgtP n st').2 = none := fin.1.symm.trans hs
    obtain ⟨f1, f2, f3, f4⟩ := fin.2 e3
    obtain ⟨g1, g0, g2, g3, g4⟩ := r4 f1
    have ek : k' = k := by rw [f4] at hk; exact hk
    subst ek
    refine ⟨tt, ⟨g1, by omega, fun j hj => ?_⟩, pj (bj (u1 J 13 0) n 59) (rgtP n st'), u1 (u1 B 20 Y') 19 X', X', Y', ?_, fun x h1 h2 h3 => pjb_ne h1 h2 h3, frb, pjb_10, fun j hj => ?_⟩
    · obtain ⟨y1, y2, y3, y4, y5⟩ := g4 j hj
      exact ⟨y1, y2, fun q hq => (y4 q hq).1, by rw [← f2]; exact y5⟩
    · have gl := r_wnL (I := I) (E := E) (L := L) (pr := pr) (ot := ot) (M := M) (rdv := .ref 52) (ru := ru) (T := T) (J := pj (bj (u1 J 13 0) n 59) (rgtP n st')) (B := u1 (u1 B 20 Y') 19 X') (W := W) (k := k') (X := X') (Y := Y') ((pjb_ne (by decide) (by decide) (by decide)).trans hM.2.2.1) g1 u1_at ((u1_o (by decide)).trans u1_at) (fun h8 => (h_ck 11 h8 45).bind fun _ => h_bd (fX12_told 45 h8) fun _ h9 => some (iN k', h9))
      have j47 : u1 (pj (bj (u1 J 13 0) n 59) (rgtP n st')) 3 (iN (W + k')) 47 = J 47 := by rw [u1_eq, if_neg (by decide)]; exact pjb_ne (by decide) (by decide) (by decide)
      rw [start, hb_of wr, e3, if_pos rfl, if_neg (by decide)]
      refine Eq.trans gl ?_
      try dsimp only
      rw [brK, hb_of r_told, j47]
    · obtain ⟨y1, y2, y3, y4, y5⟩ := g4 j hj
      exact ⟨y1, y2, y3, y4⟩
theorem p_wants (h : INV s I A L pr ot J B M ru G P W) : pairG s I A L pr ot J B M rdv ru out (fX11_wants 0) (fX12_wants 45) := by
  have hI := h
  obtain ⟨hF, hM, hpl, hz, hc, hn2, htx, -, -, -, -, -, hfm⟩ := h
  obtain ⟨n, c, hn, e1, e2, hcc⟩ := htx.ch
  have h8 := hF.2.2.2.1
  have hca : ∀ k, k < n → c k < 256 ∧ A 2 k = iN (c k) := fun k hk => ⟨(hcc k hk).1, (hcc k hk).2.1⟩
  have hcb : ∀ k, k < n → c k < 256 ∧ B 9 k &&& 255 = iN (c k) ∧ (c k < 128 → B 9 k = iN (c k)) := fun k hk => ⟨(hcc k hk).1, (hcc k hk).2.2⟩
  by_cases n0 : n = 0
  · subst n0
    refine ⟨0, u2 I 1 1 0, A, L, pr, ot, pj (bj (u1 J 13 0) 0 59) (0, none), B, M, .ref 52, ru, G, P, W, c_wants0 e1, ?_, hI.red (fun o k h1 h2 h3 => by rw [u2_eq, if_neg h1]) (fun x h1 h2 h3 => pjb_ne h1 h2 h3) (fun _ _ _ _ => rfl) (by rw [u2_eq, if_pos ⟨rfl, rfl⟩]) pjb_10⟩
    unfold EH fX12_wants
    rw [brW_13, brK, hb_of (show fX12_beginText 45 (59 : Int32) _ = _ from r_beginText (J := u1 J 13 0) (n := 0) (top := 59) (by rw [u1_eq, if_neg (by decide)]; exact e2)), brG_15, pjb_15, if_pos (show iN 0 = (0 : Int32) from rfl)]
  · cases hs : (slF (tkW (6 - W)) mayW n 59 c (min n 59) (0, 0, 0) 0).1 with
    | some q =>
      obtain ⟨I', f1, f2⟩ := c_wants1 (L := L) (pr := pr) (ot := ot) (T := encR J B M rdv ru [.inl (.long, (1, .inr (.inl out)))]) n0 hF hfm e1 hn hca hs
      obtain ⟨J', B', g1, g2, g3, g4⟩ := (m_wants (I := u2 I' 1 1 0) (E := A) (L := L) (pr := pr) (ot := ot) (M := M) (rdv := rdv) (ru := ru) (T := [.inl (.long, (1, .inr (.inl out)))]) (k := 0) hM n0 hn e2 hcb).1 q hs
      exact ⟨_, u2 I' 1 1 0, A, L, pr, ot, J', B', M, .ref 52, ru, G, P, W, f1, g1, hI.red (fun o k h1 h2 h3 => by rw [u2_eq, if_neg h1]; exact f2 o k (by omega)) g2 g3 (by rw [u2_eq, if_pos ⟨rfl, rfl⟩]) g4⟩
    | none =>
      have mg := fun (I E : Nat → Nat → Int32) (L : Nat → Int64) (pr ot : Nat) => (m_wants (I := I) (E := E) (L := L) (pr := pr) (ot := ot) (M := M) (rdv := rdv) (ru := ru) (T := [.inl (.long, (1, .inr (.inl out)))]) hM n0 hn e2 hcb).2 hs rfl
      obtain ⟨k, hk⟩ : ∃ k, (slF (tkW (6 - W)) mayW n 59 c (min n 59) (0, 0, 0) 0).2.1 = k := ⟨_, rfl⟩
      rw [hk] at mg
      obtain ⟨tt0, ⟨gk0, gn0, gt0⟩, -⟩ := mg I A L pr ot
      obtain ⟨I', f1', f2⟩ := c_wants2 (L := L) (pr := pr) (ot := ot) (T := encR J B M rdv ru [.inl (.long, (1, .inr (.inl out)))]) n0 hF hfm e1 hn hca hs hk gk0 gn0 gt0
      obtain ⟨tt, ⟨gk, gn, gt⟩, J', B', X, Y, g1, g2, g3, g4, g5⟩ := mg (u2 (u2 (u2 (u2 I' 11 11 (iN (W + k))) 7 2 0) 7 3 0) 1 1 0) (wnA A c tt0 W k) L pr ot
      have te := WOK.uniq ⟨gk, gn, gt⟩ ⟨gk0, gn0, gt0⟩
      have g6 : ∀ j, j < k → 1 ≤ tt0 j ∧ tt0 j ≤ 3 ∧ Y j = iN (tt0 j) ∧ WL2 c (psW tt0 j) (9 * j) (tt0 j) X := fun j hj => by
        rw [← te j hj, ← psW_congr j (fun q hq => te q (by omega))]
        exact g5 j hj
      have fm : FM A (u1 (u1 (u1 J' 3 (iN W)) 27 0) 47 (J 47 + 1)) B' G P W := hM.frame (fun x h1 h2 => by
        rw [u1_o (by omega), u1_o (by omega), u1_eq]
        split
        · rename_i e; rw [e]; exact hM.2.2.1.symm
        · exact g2 x (by omega) (by omega) (by omega)) (fun x h1 h2 => g3 x (by omega) (by omega) (by omega))
      have fm2 := fm.wnts gk g6 k (Nat.le_refl k)
      have a28 : wnA A c tt0 W k 28 = A 28 := wnA_ne (by omega) k
      have b28 : wnB B' X Y W k 0 = B 0 := (wnB_ne (by decide) (by decide) k).trans (g3 0 (by decide) (by decide) (by decide))
      refine ⟨_, _, _, L, pr, ot, _, _, M, .ref 52, ru, G, P, W + k, f1', g1, hI.grow (fun o q hq => ?_) (fun x h1 h2 => wnA_ne (by omega) k) (fun x hx => ?_) (fun x hx => ?_) ⟨?_, ?_, ?_, hF.2.2.2.1, hF.2.2.2.2.1, gk⟩ (fm2.frame (fun x h1 h2 => ?_) (fun x _ _ => rfl)) ?_ ?_ ?_ ?_ ?_ ?_ ?_ ?_ ?_⟩
      · rw [u2_o (by omega), u2_o (by omega), u2_o (by omega), u2_o (by omega)]
        exact f2 o q (by omega)
      · rw [u1_o (by omega), u1_o (by omega), u1_o (by omega)]
        exact g2 x (by omega) (by omega) (by omega)
      · exact (wnB_ne (by omega) (by omega) k).trans (g3 x (by omega) (by omega) (by omega))
      · rw [u2_o (by decide), u2_o (by decide), u2_o (by decide), u2_o (by decide)]
        exact (f2 11 9 (by omega)).trans hF.1
      · rw [u2_o (by decide), u2_o (by decide), u2_o (by decide), u2_o (by decide)]
        exact (f2 11 10 (by omega)).trans hF.2.1
      · rw [u2_o (by decide), u2_o (by decide), u2_o (by decide), u2_at]
      · simp only [u1_eq]
        by_cases e3 : x = 3
        · subst e3; rfl
        · rw [if_neg (by omega), if_neg (by omega), if_neg e3, if_neg e3, if_neg (by omega), if_neg (by omega), if_neg e3]
      · unfold PLS
        rw [wnA_ne (by omega) k]
        exact hpl
      · rw [a28]; exact hz
      · rw [a28, b28]; exact hc
      · rw [u2_at]
      · rw [u1_o (by decide), u1_o (by decide), u1_o (by decide)]
        exact g4
      · rw [u2_o (by decide), u2_o (by decide), u2_at]
      · rw [u1_o (by decide), u1_at]
      · rw [u2_o (by decide), u2_at]
      · rw [u1_at]
end WQ
