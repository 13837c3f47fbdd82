/-! PEOPLE: the pair -/
section PQ
variable {I A E I' A' : Nat → Nat → Int32} {L L' : Nat → Int64} {pr ot s : Nat} {J J' : Nat → Int32} {B B' : Nat → Nat → Int32} {M M' : Nat → Int64} {rdv rdv' : Value} {ru : Nat} {T : PH} {out : Nat → Int64} {G P W G' P' W' n top fi mn w da room most o k N i : Nat} {c : Nat → Nat} {st : RSt} {X Z a v : Nat → Int32}
theorem c_people0 (h1 : I 1 1 = iN 0) : fX11_people 0 (encC I A L pr ot T) = some (0, (encC (u2 I 1 1 0) A L pr ot T)) := by
  unfold fX11_people fX11_readPeople
  rw [bK_0, bR_0_0, bK_1, hb_of c_sizeT, h1, if_pos (show iN 0 = (0 : Int32) from rfl), hb_some, bR_0_0, bK_1, hb_of (c_cut0 h1 (Nat.zero_le _))]
theorem c_people1 (h0 : n ≠ 0) (hF : FS I G P W) (hM : FMS I) (h1 : I 1 1 = iN n) (hn : n ≤ 80) (hc : ∀ k, k < n → c k < 256 ∧ A 2 k = iN (c k)) {q : Nat} (hs : (slF (tkL 5 5 (6 - P)) (mayL 5) n 35 c (min n 35) (0, 0) 0).1 = some q) :
    ∃ I', fX11_people 0 (encC I A L pr ot T) = some ((-1 : Int32) - wQ (some q), (encC (u2 I' 1 1 0) A L pr ot T)) ∧ frF 4 I I' := by
  have h8 := hF.2.2.2.2.1
  have hq := (slF_le _ _ _ _ hs).2
  obtain ⟨I', s1, s2, s3⟩ := c_slipL (L := L) (pr := pr) (ot := ot) (T := T) (A := A) (o := 4) (most := 35) (w := 5) (da := 5) (room := 6 - P) (Or.inr rfl) hM.2.2.2.1 hM.2.2.2.2.1 hM.2.2.2.2.2.1 (by decide) (by decide) (by decide) (by omega) (by decide) h1 hn hc
  refine ⟨I', ?_, s2⟩
  unfold fX11_people fX11_readPeople
  rw [bK_0, bR_0_0, bK_1, hb_of c_sizeT, h1, if_neg (by rw [show (0 : Int32) = iN 0 from rfl, iN_eq (by omega) (by omega)]; exact h0), bR_0_2, bR_0_0, bR_0_7, bK_11, hb_of c_personSize, hF.2.1, bK_4, show (6 : Int32) - iN P = iN (6 - P) from iN_sub (a := 6) h8, hb_of s1, hs, if_neg (wQ_ne (by omega)), hb_some, bR_0_0, bK_1, hb_of (c_cut0 ((s2 1 1 (by omega)).trans h1) hn)]
theorem c_people2 (h0 : n ≠ 0) (hF : FS I G P W) (hM : FMS I) (h1 : I 1 1 = iN n) (hn : n ≤ 80) (hc : ∀ k, k < n → c k < 256 ∧ A 2 k = iN (c k)) (hs : (slF (tkL 5 5 (6 - P)) (mayL 5) n 35 c (min n 35) (0, 0) 0).1 = none) (hk : (slF (tkL 5 5 (6 - P)) (mayL 5) n 35 c (min n 35) (0, 0) 0).2.1 = k) (hG : P + k ≤ 6) (hg : ∀ j, j < k → 6 * j + 5 ≤ n ∧ MLc c (6 * j)) :
    ∃ I', fX11_people 0 (encC I A L pr ot T) = some (iN k, (encC (u2 (u2 (u2 (u2 I' 11 10 (iN (P + k))) 7 2 0) 7 3 0) 1 1 0) (mnA A c P k) L pr ot T)) ∧ frF 4 I I' := by
  have h8 := hF.2.2.2.2.1
  obtain ⟨I', s1, s2, s3⟩ := c_slipL (L := L) (pr := pr) (ot := ot) (T := T) (A := A) (o := 4) (most := 35) (w := 5) (da := 5) (room := 6 - P) (Or.inr rfl) hM.2.2.2.1 hM.2.2.2.2.1 hM.2.2.2.2.2.1 (by decide) (by decide) (by decide) (by omega) (by decide) h1 hn hc
  have s4 := s3 hs
  rw [hk] at s4
  have i9 := (s2 11 10 (by omega)).trans hF.2.1
  have i1 := (s2 1 1 (by omega)).trans h1
  refine ⟨I', ?_, s2⟩
  unfold fX11_people fX11_readPeople
  rw [bK_0, bR_0_0, bK_1, hb_of c_sizeT, h1, if_neg (by rw [show (0 : Int32) = iN 0 from rfl, iN_eq (by omega) (by omega)]; exact h0), bR_0_2, bR_0_0, bR_0_7, bK_11, hb_of c_personSize, hF.2.1, bK_4, show (6 : Int32) - iN P = iN (6 - P) from iN_sub (a := 6) h8, hb_of s1, hs, if_pos (show wQ none = -1 from rfl), bR_0_2, bK_4, hb_of c_lines4, s4, c_mnL i1 hn hc i9 hG hg, bR_0_5, bK_7, hb_of c_forgetA2, hb_some, bR_0_0, bK_1, hb_of (c_cut0 (n := n) (by rw [u2_eq, if_neg (by decide), u2_eq, if_neg (by decide), u2_eq, if_neg (by decide)]; exact i1) hn)]
theorem FM.man2 (h : FM A J B G P W) (hP : P + k ≤ 6) (j1 : J' 1 = iN G) (j2 : J' 2 = iN (P + k)) (j3 : J' 3 = iN W) (hb : ∀ x, (4 ≤ x ∧ x ≤ 8) → B' x = B x) (b6 : B' 6 = B 6) : FM (mnA A c P k) J' (mnR B' c P k) G (P + k) W := by
  obtain ⟨h1, h2, h3, h4, h5, h6, h7, h8, h9, h10⟩ := h
  have a : ∀ x, x ≠ 14 → x ≤ 18 → mnA A c P k x = A x := fun x h1 h2 => mnA_ne (by omega) (by omega)
  have b : ∀ x, 4 ≤ x → x ≤ 8 → x ≠ 6 → mnR B' c P k x = B x := fun x h1 h2 h3 => (mnR_ne (by omega) (by omega)).trans (hb x (by omega))
  refine ⟨j1, j2, j3, h4, hP, h6, fun g hg => ?_, fun q hq => ?_, fun p hp => ?_, ?_⟩
  · rw [a 12 (by omega) (by omega), b 4 (by omega) (by omega) (by omega)]
    exact h7 g hg
  · rw [a 13 (by omega) (by omega), b 5 (by omega) (by omega) (by omega)]
    exact h8 q hq
  · rw [mnR_6, mnA_14, b6]
    exact fil_2 h9 hp
  · rw [a 15 (by omega) (by omega), a 16 (by omega) (by omega), a 17 (by omega) (by omega), a 18 (by omega) (by omega), b 7 (by omega) (by omega) (by omega), b 8 (by omega) (by omega) (by omega)]
    exact h10
theorem PLS.man2 (h : PLS A G) : PLS (mnA A c P k) G := by
  unfold PLS
  rw [mnA_ne (by decide) (by decide)]
  exact h
theorem m_people (hM : FM A J B G P W) (n0 : n ≠ 0) (hn : n ≤ 80) (e2 : J 10 = iN n) (hcc : ∀ k, k < n → c k < 256 ∧ B 9 k &&& 255 = iN (c k) ∧ (c k < 128 → B 9 k = iN (c k))) :
    (∀ q, (slF (tkL 5 5 (6 - P)) (mayL 5) n 35 c (min n 35) (0, 0) 0).1 = some q → ∃ J' B', fX12_people 45 (encC I E L pr ot (encR J B M rdv ru T)) = some ((-1 : Int32) - wQ (some q), (encC I E L pr ot (encR J' B' M (.ref 52) ru T))) ∧ frG J J' ∧ frGB B B' ∧ J' 10 = 0) ∧
    ((slF (tkL 5 5 (6 - P)) (mayL 5) n 35 c (min n 35) (0, 0) 0).1 = none → (slF (tkL 5 5 (6 - P)) (mayL 5) n 35 c (min n 35) (0, 0) 0).2.1 = k → (P + k ≤ 6 ∧ ∀ j, j < k → 6 * j + 5 ≤ n ∧ MLc c (6 * j)) ∧ ∃ J' B', fX12_people 45 (encC I E L pr ot (encR J B M rdv ru T)) = some (iN k, (encC I E L pr ot (encR (u1 (u1 (u1 J' 2 (iN (P + k))) 27 0) 47 (J 47 + 1)) (mnR B' c P k) M (.ref 52) ru T))) ∧ frG J J' ∧ frGB B B' ∧ J' 10 = 0) := by
  have h8 := hM.2.2.2.2.1
  have b0 : fX12_beginText 45 (35 : Int32) (encC I E L pr ot (encR (u1 J 13 0) B M rdv ru T)) = some ((), (encC I E L pr ot (encR (pj (bj (u1 J 13 0) n 35) (0, none)) B M (.ref 52) ru T))) := r_beginText (by rw [u1_eq, if_neg (by decide)]; exact e2)
  have hn0 : ¬ (iN n = (0 : Int32)) := by rw [show (0 : Int32) = iN 0 from rfl, iN_eq (by omega) (by omega)]; exact n0
  have hR : ∀ X, RD (bj (u1 J 13 0) n 35) (u1 B 19 X) (.ref 52) n 35 c := fun X => RD.c19 (RD.begin hn (by decide) (fun k hk => ⟨(hcc k hk).1, (hcc k hk).2⟩))
  have hJ1 : bj (u1 J 13 0) n 35 2 = iN P := (bj_ne (by decide) (by decide) (by decide)).trans hM.2.1
  have hB : u1 B 19 (B 19) = B := u1_same rfl
  obtain ⟨k', st', X', r1, r2, r3, r4⟩ := r_mnR (I := I) (E := E) (L := L) (pr := pr) (ot := ot) (B := B) (M := M) (ru := ru) (T := T) hJ1 h8 (fun x4 h5 => (h_ck 11 h5 45).bind fun _ => h_bd (fX12_wasRight 45 h5) fun x6 h7 => if x6 = 0 then ((h_gi 11 18 h7 45).bind fun x10 => some (((-1 : Int32) - x10), h7)) else (fX12_people_L93 45 x4 (fun h8 => (h_ck 11 h8 45).bind fun _ => h_bd (fX12_told 45 h8) fun _ h9 => some (x4, h9)) FU (0 : Int32) h7)) hR (6 - P) 0 (B 19) (by omega) Sim.start (fun j hj => absurd hj (Nat.not_lt_zero _))
  have run := r1 FU (by unfold FU; omega)
  rw [hB] at run
  have fin := r3.fin (fun e a b => tkL_n59 (fun d => (r4 e).2.2.1 ⟨a, b, d⟩)) (fun _ => decide_eq_true rfl)
  have wr := r_wasRight (I := I) (E := E) (L := L) (pr := pr) (ot := ot) (B := u1 B 19 X') (M := M) (rdv := .ref 52) (ru := ru) (T := T) (J := bj (u1 J 13 0) n 35) (n := n) bj_15 hn (show st'.1 < 1000 by have := r2.1; omega) r2.2
  have start : fX12_people 45 (encC I E L pr ot (encR J B M rdv ru T)) = h_bd (fX12_wasRight 45 (encC I E L pr ot (encR (pj (bj (u1 J 13 0) n 35) st') (u1 B 19 X') M (.ref 52) ru T))) fun x6 h7 => if x6 = 0 then ((h_gi 11 18 h7 45).bind fun x10 => some (((-1 : Int32) - x10), h7)) else (fX12_people_L93 45 (iN k') (fun h8 => (h_ck 11 h8 45).bind fun _ => h_bd (fX12_told 45 h8) fun _ h9 => some (iN k', h9)) FU (0 : Int32) h7) := by
    unfold fX12_people
    rw [brW_13, brK, hb_of b0, brG_15, pjb_15, if_neg hn0]
    refine Eq.trans run ?_
    rw [brK]
  refine ⟨fun q hq => ?_, fun hs hk => ?_⟩
  · refine ⟨pj (bj (u1 J 13 0) n 35) (rgtP n st'), u1 B 19 X', ?_, fun x h1 h2 h3 => pjb_ne h1 h2 h3, fun x h1 h2 h3 => by rw [u1_eq, if_neg h1], pjb_10⟩
    have e3 : (rgtP n st').2 = some q := fin.1.symm.trans hq
    rw [start, hb_of wr, e3, if_neg (show ¬ (some q : Option Nat) = none from fun d => by cases d), if_pos rfl, brG_18, pj_18, e3]
  · have e3 : (rgtP n st').2 = none := fin.1.symm.trans hs
    obtain ⟨f1, f2, f3, f4⟩ := fin.2 e3
    obtain ⟨g1, g2, g3, g4⟩ := r4 f1
    have ek : k' = k := by rw [f4] at hk; exact hk
    subst ek
    refine ⟨⟨g1, fun j hj => ⟨by omega, (g4 j hj).1, fun h hh => ((g4 j hj).2.2 h hh).1⟩⟩, pj (bj (u1 J 13 0) n 35) (rgtP n st'), u1 B 19 X', ?_, fun x h1 h2 h3 => pjb_ne h1 h2 h3, fun x h1 h2 h3 => by rw [u1_eq, if_neg h1], pjb_10⟩
    have gl := r_mnL (I := I) (E := E) (L := L) (pr := pr) (ot := ot) (M := M) (rdv := .ref 52) (ru := ru) (T := T) (J := pj (bj (u1 J 13 0) n 35) (rgtP n st')) (B := u1 B 19 X') (c := c) (P := P) (k := k') ((pjb_ne (by decide) (by decide) (by decide)).trans hM.2.1) g1 (fun j hj => by
      obtain ⟨y1, y3, y5⟩ := g4 j hj
      rw [u1_eq, if_pos rfl]
      exact ⟨y3, fun h hh => (y5 h hh).2⟩) (fun h8 => (h_ck 11 h8 45).bind fun _ => h_bd (fX12_told 45 h8) fun _ h9 => some (iN k', h9))
    have j47 : u1 (pj (bj (u1 J 13 0) n 35) (rgtP n st')) 2 (iN (P + k')) 47 = J 47 := by rw [u1_eq, if_neg (by decide)]; exact pjb_ne (by decide) (by decide) (by decide)
    rw [start, hb_of wr, e3, if_pos rfl, if_neg (by decide)]
    refine Eq.trans gl ?_
    try dsimp only
    rw [brK, hb_of r_told, j47]
theorem p_people (h : INV s I A L pr ot J B M ru G P W) : pairG s I A L pr ot J B M rdv ru out (fX11_people 0) (fX12_people 45) := by
  have hI := h
  obtain ⟨hF, hM, hpl, hz, hc, hn2, htx, -, -, -, -, -, hfm⟩ := h
  obtain ⟨n, c, hn, e1, e2, hcc⟩ := htx.ch
  have h8 := hF.2.2.2.2.1
  have hca : ∀ k, k < n → c k < 256 ∧ A 2 k = iN (c k) := fun k hk => ⟨(hcc k hk).1, (hcc k hk).2.1⟩
  have hcb : ∀ k, k < n → c k < 256 ∧ B 9 k &&& 255 = iN (c k) ∧ (c k < 128 → B 9 k = iN (c k)) := fun k hk => ⟨(hcc k hk).1, (hcc k hk).2.2⟩
  by_cases n0 : n = 0
  · subst n0
    refine ⟨0, u2 I 1 1 0, A, L, pr, ot, pj (bj (u1 J 13 0) 0 35) (0, none), B, M, .ref 52, ru, G, P, W, c_people0 e1, ?_, hI.red (fun o k h1 h2 h3 => by rw [u2_eq, if_neg h1]) (fun x h1 h2 h3 => pjb_ne h1 h2 h3) (fun _ _ _ _ => rfl) (by rw [u2_eq, if_pos ⟨rfl, rfl⟩]) pjb_10⟩
    unfold EH fX12_people
    rw [brW_13, brK, hb_of (show fX12_beginText 45 (35 : Int32) _ = _ from r_beginText (J := u1 J 13 0) (n := 0) (top := 35) (by rw [u1_eq, if_neg (by decide)]; exact e2)), brG_15, pjb_15, if_pos (show iN 0 = (0 : Int32) from rfl)]
  · cases hs : (slF (tkL 5 5 (6 - P)) (mayL 5) n 35 c (min n 35) (0, 0) 0).1 with
    | some q =>
      obtain ⟨I', f1, f2⟩ := c_people1 (L := L) (pr := pr) (ot := ot) (T := encR J B M rdv ru [.inl (.long, (1, .inr (.inl out)))]) n0 hF hfm e1 hn hca hs
      obtain ⟨J', B', g1, g2, g3, g4⟩ := (m_people (I := u2 I' 1 1 0) (E := A) (L := L) (pr := pr) (ot := ot) (M := M) (rdv := rdv) (ru := ru) (T := [.inl (.long, (1, .inr (.inl out)))]) (k := 0) hM n0 hn e2 hcb).1 q hs
      exact ⟨_, u2 I' 1 1 0, A, L, pr, ot, J', B', M, .ref 52, ru, G, P, W, f1, g1, hI.red (fun o k h1 h2 h3 => by rw [u2_eq, if_neg h1]; exact f2 o k (by omega)) g2 g3 (by rw [u2_eq, if_pos ⟨rfl, rfl⟩]) g4⟩
    | none =>
      have mg := fun (I E : Nat → Nat → Int32) (L : Nat → Int64) (pr ot : Nat) => (m_people (I := I) (E := E) (L := L) (pr := pr) (ot := ot) (M := M) (rdv := rdv) (ru := ru) (T := [.inl (.long, (1, .inr (.inl out)))]) hM n0 hn e2 hcb).2 hs rfl
      obtain ⟨⟨gk, hg⟩, -⟩ := mg I A L pr ot
      obtain ⟨k, hk⟩ : ∃ k, (slF (tkL 5 5 (6 - P)) (mayL 5) n 35 c (min n 35) (0, 0) 0).2.1 = k := ⟨_, rfl⟩
      rw [hk] at gk hg mg
      obtain ⟨I', f1, f2⟩ := c_people2 (L := L) (pr := pr) (ot := ot) (T := encR J B M rdv ru [.inl (.long, (1, .inr (.inl out)))]) n0 hF hfm e1 hn hca hs hk gk hg
      obtain ⟨-, J', B', g1, g2, g3, g4⟩ := mg (u2 (u2 (u2 (u2 I' 11 10 (iN (P + k))) 7 2 0) 7 3 0) 1 1 0) (mnA A c P k) L pr ot
      have vk : ∀ j h, j < k → h < 4 → (0 : Int32) ≤ mV c j h ∧ mV c j h ≤ 9 := fun j h hj hh => by
        have := (hg j hj).2.2 h hh
        unfold mV dgt
        rw [show (0 : Int32) = iN 0 from rfl, show (9 : Int32) = iN 9 from rfl, iN_le (by omega) (by omega), iN_le (by omega) (by omega)]
        omega
      obtain ⟨w1, w2⟩ := mnZ_all (hz.gmono (Nat.le_refl G) (Nat.le_refl P)) hc gk vk k (Nat.le_refl k)
      have hz' : nz (A 28) ∧ True := ⟨hz.1, trivial⟩
      refine ⟨_, _, _, L, pr, ot, _, _, M, .ref 52, ru, G, P + k, W, f1, g1, hI.grow (fun o q hq => ?_) (fun x h1 h2 => mnA_ne (by omega) (by omega)) (fun x hx => ?_) (fun x hx => ?_) ⟨?_, ?_, ?_, hF.2.2.2.1, gk, hF.2.2.2.2.2⟩ (hM.man2 gk ?_ ?_ ?_ (fun x hx => g3 x (by omega) (by omega) (by omega)) (g3 6 (by decide) (by decide) (by decide))) (hpl.man2) ?_ ?_ ?_ ?_ ?_ ?_ ?_ ?_⟩
      · rw [u2_o (by omega), u2_o (by omega), u2_o (by omega), u2_o (by omega)]
        exact f2 o q (by omega)
      · rw [u1_o (by omega), u1_o (by omega), u1_o (by omega)]
        exact g2 x (by omega) (by omega) (by omega)
      · exact (mnR_ne (by omega) (by omega)).trans (g3 x (by omega) (by omega) (by omega))
      · rw [u2_o (by decide), u2_o (by decide), u2_o (by decide), u2_o (by decide)]
        exact (f2 11 9 (by omega)).trans hF.1
      · rw [u2_o (by decide), u2_o (by decide), u2_o (by decide), u2_at]
      · rw [u2_o (by decide), u2_o (by decide), u2_o (by decide), u2_o (by decide)]
        exact (f2 11 11 (by omega)).trans hF.2.2.1
      · rw [u1_o (by decide), u1_o (by decide), u1_o (by decide)]
        exact (g2 1 (by decide) (by decide) (by decide)).trans hM.1
      · rw [u1_o (by decide), u1_o (by decide), u1_at]
      · rw [u1_o (by decide), u1_o (by decide), u1_o (by decide)]
        exact (g2 3 (by decide) (by decide) (by decide)).trans hM.2.2.1
      · rw [mnA_28]
        exact w1.gmono (Nat.le_refl G) (Nat.le_add_right P k)
      · rw [mnA_28, mnR_0, g3 0 (by decide) (by decide) (by decide)]
        exact w2
      · rw [u2_at]
      · rw [u1_o (by decide), u1_o (by decide), u1_o (by decide)]
        exact g4
      · rw [u2_o (by decide), u2_o (by decide), u2_at]
      · rw [u1_o (by decide), u1_at]
      · rw [u2_o (by decide), u2_at]
      · rw [u1_at]
end PQ
