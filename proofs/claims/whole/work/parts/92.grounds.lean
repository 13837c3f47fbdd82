/-! GROUNDS: the pair -/
section GP
variable {I A E I' A' : Nat → Nat → Int32} {L L' : Nat → Int64} {pr ot s : Nat} {J J' : Nat → Int32} {B B' : Nat → Nat → Int32} {M M' : Nat → Int64} {rdv rdv' : Value} {ru : Nat} {T : PH} {out : Nat → Int64} {G P W G' P' W' n top fi mn w da room most o k N i : Nat} {c : Nat → Nat} {st : RSt} {X Z a v : Nat → Int32}
theorem pjb_ne {x : Nat} {y : Int32} (h1 : x ≠ 10) (h2 : x ≠ 13) (h3 : ¬ (15 ≤ x ∧ x ≤ 18)) : pj (bj (u1 J 13 y) n top) st x = J x := by
  rw [pj_ne (by omega) (by omega)]
  unfold bj
  rw [u1_eq, if_neg h1, u1_eq, if_neg (by omega), u1_eq, if_neg (by omega), u1_eq, if_neg h2]
theorem pjb_10 {y : Int32} : pj (bj (u1 J 13 y) n top) st 10 = 0 := by
  rw [pj_ne (by omega) (by omega)]
  unfold bj
  rw [u1_eq, if_pos rfl]
theorem pjb_15 {y : Int32} : pj (bj (u1 J 13 y) n top) st 15 = iN n := by
  rw [pj_ne (by omega) (by omega)]
  unfold bj
  rw [u1_eq, if_neg (by decide), u1_eq, if_neg (by decide), u1_eq, if_pos rfl]
theorem bj_ne {x : Nat} {y : Int32} (h1 : x ≠ 10) (h2 : x ≠ 13) (h3 : ¬ (15 ≤ x ∧ x ≤ 16)) : bj (u1 J 13 y) n top x = J x := by
  unfold bj
  rw [u1_eq, if_neg h1, u1_eq, if_neg (by omega), u1_eq, if_neg (by omega), u1_eq, if_neg h2]
theorem bj_15 : bj J n top 15 = iN n := by
  unfold bj
  rw [u1_eq, if_neg (by decide), u1_eq, if_neg (by decide), u1_eq, if_pos rfl]
theorem r_told : fX12_told 45 (encC I E L pr ot (encR J B M rdv ru T)) = some ((), (encC I E L pr ot (encR (u1 (u1 J 27 0) 47 (J 47 + 1)) B M rdv ru T))) := by
  unfold fX12_told
  rw [brW_27, brG_47, brW_47, u1_eq, if_neg (by decide)]
theorem OK.gmono (hz : OK G P Z) (h : G ≤ G') (h2 : P ≤ P') : OK G' P' Z := ⟨hz.1, hz.2.1, hz.2.2.1, fun p g hp hg hb => by
  obtain ⟨a1, a2, a3⟩ := hz.2.2.2 p g hp hg hb
  exact ⟨by omega, by omega, a3⟩⟩
theorem OK.fl (hz : OK G P Z) (hv : ∀ j, j < k → 0 ≤ v j ∧ v j ≤ 99) (ho : o + k ≤ 8) : ∀ i, i ≤ k → OK G P (fil Z o v i)
  | 0, _ => hz
  | i + 1, h => (OK.fl hz hv ho i (by omega)).st (by omega) (hv i (by omega))
theorem CP.fl (hc : CP Z a) (ho : o + k ≤ 32) : ∀ i, i ≤ k → CP (fil Z o v i) (fil a o v i)
  | 0, _ => hc
  | i + 1, h => (CP.fl hc ho i (by omega)).st (by omega)
theorem dg99 {m : Nat} (h : m < 10) : (0 : Int32) ≤ iN m ∧ iN m ≤ (99 : Int32) := by
  rw [show (0 : Int32) = iN 0 from rfl, show (99 : Int32) = iN 99 from rfl, iN_le (by omega) (by omega), iN_le (by omega) (by omega)]
  omega
theorem fil_2 {f g : Nat → Int32} {j : Nat} (h : ∀ q, q < o → f q = g q) (hj : j < o + k) : fil f o v k j = fil g o v k j := by
  rw [fil_eq k, fil_eq k]
  by_cases d : o ≤ j ∧ j < o + k
  · rw [if_pos d, if_pos d]
  · rw [if_neg d, if_neg d, h j (by omega)]
theorem FM.gro (h : FM A J B G P W) (hG : G + k ≤ 8) (j1 : J' 1 = iN (G + k)) (j2 : J' 2 = J 2) (j3 : J' 3 = J 3) (hb : ∀ x, (x = 6 ∨ x = 7 ∨ x = 8) → B' x = B x) (b4 : B' 4 = B 4) (b5 : B' 5 = B 5) : FM (grA A c G k) J' (grB B' c G k) (G + k) P W := by
  obtain ⟨h1, h2, h3, h4, h5, h6, h7, h8, h9, h10⟩ := h
  have a : ∀ x, 14 ≤ x → x ≤ 18 → grA A c G k x = A x := fun x h1 h2 => grA_ne (by omega) (by omega) (by omega)
  have b : ∀ x, 6 ≤ x → x ≤ 8 → grB B' c G k x = B x := fun x h1 h2 => (grB_ne (by omega) (by omega) (by omega)).trans (hb x (by omega))
  refine ⟨j1, j2.trans h2, j3.trans h3, hG, h5, h6, fun g hg => ?_, fun q hq => ?_, fun p hp => ?_, ?_⟩
  · rw [grB_4, grA_12, b4]
    exact fil_2 h7 hg
  · rw [grB_5, grA_13, b5]
    exact fil_2 (fun q hq => h8 q (by omega)) (by omega)
  · rw [a 14 (by omega) (by omega), b 6 (by omega) (by omega)]
    exact h9 p hp
  · rw [a 15 (by omega) (by omega), a 16 (by omega) (by omega), a 17 (by omega) (by omega), a 18 (by omega) (by omega), b 7 (by omega) (by omega), b 8 (by omega) (by omega)]
    exact h10
theorem PLS.gro (h : PLS A G) (hg : ∀ j, j < k → GLc c (7 * j)) : PLS (grA A c G k) (G + k) := by
  intro q hq
  rw [grA_13, fil_eq]
  by_cases d : 4 * G ≤ q ∧ q < 4 * G + 4 * k
  · rw [if_pos d]
    have := (hg ((q - 4 * G) / 4) (by omega)).2.2 ((q - 4 * G) % 4) (by omega)
    unfold pvV pvc
    by_cases e : c (7 * ((q - 4 * G) / 4) + 2 + (q - 4 * G) % 4) = 45
    · rw [if_pos e]; exact Or.inl rfl
    · rw [if_neg e]
      exact Or.inr ⟨_, by omega, rfl⟩
  · rw [if_neg d]
    exact h q (by omega)
def frG (J J' : Nat → Int32) : Prop := ∀ x, x ≠ 10 → x ≠ 13 → ¬ (15 ≤ x ∧ x ≤ 18) → J' x = J x
def frGB (B B' : Nat → Nat → Int32) : Prop := ∀ x, x ≠ 19 → x ≠ 20 → x ≠ 32 → B' x = B x
theorem m_grounds (hM : FM A J B G P W) (n0 : n ≠ 0) (hn : n ≤ 80) (e2 : J 10 = iN n) (hcc : ∀ k, k < n → c k < 256 ∧ B 9 k &&& 255 = iN (c k) ∧ (c k < 128 → B 9 k = iN (c k))) :
    (∀ q, (slF (tkL 6 2 (8 - G)) (mayL 6) n 55 c (min n 55) (0, 0) 0).1 = some q → ∃ J' B', fX12_grounds 45 (encC I E L pr ot (encR J B M rdv ru T)) = some ((-1 : Int32) - wQ (some q), (encC I E L pr ot (encR J' B' M (.ref 52) ru T))) ∧ frG J J' ∧ frGB B B' ∧ J' 10 = 0) ∧
    ((slF (tkL 6 2 (8 - G)) (mayL 6) n 55 c (min n 55) (0, 0) 0).1 = none → (slF (tkL 6 2 (8 - G)) (mayL 6) n 55 c (min n 55) (0, 0) 0).2.1 = k → (G + k ≤ 8 ∧ ∀ j, j < k → 7 * j + 6 ≤ n ∧ GLc c (7 * j)) ∧ ∃ J' B', fX12_grounds 45 (encC I E L pr ot (encR J B M rdv ru T)) = some (iN k, (encC I E L pr ot (encR (u1 (u1 (u1 J' 1 (iN (G + k))) 27 0) 47 (J 47 + 1)) (grB B' c G k) M (.ref 52) ru T))) ∧ frG J J' ∧ frGB B B' ∧ J' 10 = 0) := by
  have h8 := hM.2.2.2.1
  have b0 : fX12_beginText 45 (55 : Int32) (encC I E L pr ot (encR (u1 J 13 0) B M rdv ru T)) = some ((), (encC I E L pr ot (encR (pj (bj (u1 J 13 0) n 55) (0, none)) B M (.ref 52) ru T))) := r_beginText (by rw [u1_eq, if_neg (by decide)]; exact e2)
  have hn0 : ¬ (iN n = (0 : Int32)) := by rw [show (0 : Int32) = iN 0 from rfl, iN_eq (by omega) (by omega)]; exact n0
  have hR : ∀ X, RD (bj (u1 J 13 0) n 55) (u1 B 19 X) (.ref 52) n 55 c := fun X => RD.c19 (RD.begin hn (by decide) (fun k hk => ⟨(hcc k hk).1, (hcc k hk).2⟩))
  have hJ1 : bj (u1 J 13 0) n 55 1 = iN G := (bj_ne (by decide) (by decide) (by decide)).trans hM.1
  have hB : u1 B 19 (B 19) = B := u1_same rfl
  obtain ⟨k', st', X', r1, r2, r3, r4⟩ := r_grR (I := I) (E := E) (L := L) (pr := pr) (ot := ot) (B := B) (M := M) (ru := ru) (T := T) hJ1 h8 (fun x4 h5 => (h_ck 11 h5 45).bind fun _ => h_bd (fX12_wasRight 45 h5) fun x6 h7 => if x6 = 0 then ((h_gi 11 18 h7 45).bind fun x10 => some (((-1 : Int32) - x10), h7)) else (fX12_grounds_L94 45 x4 (fun h8 => (h_ck 11 h8 45).bind fun _ => h_bd (fX12_told 45 h8) fun _ h9 => some (x4, h9)) FU (0 : Int32) h7)) hR (8 - G) 0 (B 19) (by omega) Sim.start (fun j hj => absurd hj (Nat.not_lt_zero _))
  have run := r1 FU (by unfold FU; omega)
  rw [hB] at run
  have fin := r3.fin (fun e a b => tkL_n59 (fun d => (r4 e).2.2.1 ⟨a, b, d⟩)) (fun _ => decide_eq_true rfl)
  have wr := r_wasRight (I := I) (E := E) (L := L) (pr := pr) (ot := ot) (B := u1 B 19 X') (M := M) (rdv := .ref 52) (ru := ru) (T := T) (J := bj (u1 J 13 0) n 55) (n := n) bj_15 hn (show st'.1 < 1000 by have := r2.1; omega) r2.2
  have start : fX12_grounds 45 (encC I E L pr ot (encR J B M rdv ru T)) = h_bd (fX12_wasRight 45 (encC I E L pr ot (encR (pj (bj (u1 J 13 0) n 55) st') (u1 B 19 X') M (.ref 52) ru T))) fun x6 h7 => if x6 = 0 then ((h_gi 11 18 h7 45).bind fun x10 => some (((-1 : Int32) - x10), h7)) else (fX12_grounds_L94 45 (iN k') (fun h8 => (h_ck 11 h8 45).bind fun _ => h_bd (fX12_told 45 h8) fun _ h9 => some (iN k', h9)) FU (0 : Int32) h7) := by
    unfold fX12_grounds
    rw [brW_13, brK, hb_of b0, brG_15, pjb_15, if_neg hn0]
    refine Eq.trans run ?_
    rw [brK]
  refine ⟨fun q hq => ?_, fun hs hk => ?_⟩
  · refine ⟨pj (bj (u1 J 13 0) n 55) (rgtP n st'), u1 B 19 X', ?_, fun x h1 h2 h3 => pjb_ne h1 h2 h3, fun x h1 h2 h3 => by rw [u1_eq, if_neg h1], pjb_10⟩
    have e3 : (rgtP n st').2 = some q := fin.1.symm.trans hq
    rw [start, hb_of wr, e3, if_neg (show ¬ (some q : Option Nat) = none from fun d => by cases d), if_pos rfl, brG_18, pj_18, e3]
  · have e3 : (rgtP n st').2 = none := fin.1.symm.trans hs
    obtain ⟨f1, f2, f3, f4⟩ := fin.2 e3
    obtain ⟨g1, g2, g3, g4⟩ := r4 f1
    have ek : k' = k := by rw [f4] at hk; exact hk
    subst ek
    refine ⟨⟨g1, fun j hj => ⟨by omega, (g4 j hj).1, (g4 j hj).2.1, fun h hh => ((g4 j hj).2.2.2.2 h hh).1⟩⟩, pj (bj (u1 J 13 0) n 55) (rgtP n st'), u1 B 19 X', ?_, fun x h1 h2 h3 => pjb_ne h1 h2 h3, fun x h1 h2 h3 => by rw [u1_eq, if_neg h1], pjb_10⟩
    have gl := r_grL (I := I) (E := E) (L := L) (pr := pr) (ot := ot) (M := M) (rdv := .ref 52) (ru := ru) (T := T) (J := pj (bj (u1 J 13 0) n 55) (rgtP n st')) (B := u1 B 19 X') (c := c) (G := G) (k := k') ((pjb_ne (by decide) (by decide) (by decide)).trans hM.1) g1 (fun j hj => by
      obtain ⟨y1, y2, y3, y4, y5⟩ := g4 j hj
      rw [u1_eq, if_pos rfl]
      exact ⟨y3, y4, fun h hh => (y5 h hh).2⟩) (fun h8 => (h_ck 11 h8 45).bind fun _ => h_bd (fX12_told 45 h8) fun _ h9 => some (iN k', h9))
    have j47 : u1 (pj (bj (u1 J 13 0) n 55) (rgtP n st')) 1 (iN (G + k')) 47 = J 47 := by rw [u1_eq, if_neg (by decide)]; exact pjb_ne (by decide) (by decide) (by decide)
    rw [start, hb_of wr, e3, if_pos rfl, if_neg (by decide)]
    refine Eq.trans gl ?_
    try dsimp only
    rw [brK, hb_of r_told, j47]
theorem p_grounds (h : INV s I A L pr ot J B M ru G P W) : pairG s I A L pr ot J B M rdv ru out (fX11_grounds 0) (fX12_grounds 45) := by
  have hI := h
  obtain ⟨hF, hM, hpl, hz, hc, hn2, htx, -, -, -, -, -, hfm⟩ := h
  obtain ⟨n, c, hn, e1, e2, hcc⟩ := htx.ch
  have h8 := hF.2.2.2.1
  have hca : ∀ k, k < n → c k < 256 ∧ A 2 k = iN (c k) := fun k hk => ⟨(hcc k hk).1, (hcc k hk).2.1⟩
  have hcb : ∀ k, k < n → c k < 256 ∧ B 9 k &&& 255 = iN (c k) ∧ (c k < 128 → B 9 k = iN (c k)) := fun k hk => ⟨(hcc k hk).1, (hcc k hk).2.2⟩
  by_cases n0 : n = 0
  · subst n0
    refine ⟨0, u2 I 1 1 0, A, L, pr, ot, pj (bj (u1 J 13 0) 0 55) (0, none), B, M, .ref 52, ru, G, P, W, c_grounds0 e1, ?_, hI.red (fun o k h1 h2 h3 => by rw [u2_eq, if_neg h1]) (fun x h1 h2 h3 => pjb_ne h1 h2 h3) (fun _ _ _ _ => rfl) (by rw [u2_eq, if_pos ⟨rfl, rfl⟩]) pjb_10⟩
    unfold EH fX12_grounds
    rw [brW_13, brK, hb_of (show fX12_beginText 45 (55 : Int32) _ = _ from r_beginText (J := u1 J 13 0) (n := 0) (top := 55) (by rw [u1_eq, if_neg (by decide)]; exact e2)), brG_15, pjb_15, if_pos (show iN 0 = (0 : Int32) from rfl)]
  · cases hs : (slF (tkL 6 2 (8 - G)) (mayL 6) n 55 c (min n 55) (0, 0) 0).1 with
    | some q =>
      obtain ⟨I', f1, f2⟩ := c_grounds1 (L := L) (pr := pr) (ot := ot) (T := encR J B M rdv ru [.inl (.long, (1, .inr (.inl out)))]) n0 hF hfm e1 hn hca hs
      obtain ⟨J', B', g1, g2, g3, g4⟩ := (m_grounds (I := u2 I' 1 1 0) (E := A) (L := L) (pr := pr) (ot := ot) (M := M) (rdv := rdv) (ru := ru) (T := [.inl (.long, (1, .inr (.inl out)))]) (k := 0) hM n0 hn e2 hcb).1 q hs
      exact ⟨_, u2 I' 1 1 0, A, L, pr, ot, J', B', M, .ref 52, ru, G, P, W, f1, g1, hI.red (fun o k h1 h2 h3 => by rw [u2_eq, if_neg h1]; exact f2 o k (by omega)) g2 g3 (by rw [u2_eq, if_pos ⟨rfl, rfl⟩]) g4⟩
    | none =>
      have mg := fun (I E : Nat → Nat → Int32) (L : Nat → Int64) (pr ot : Nat) => (m_grounds (I := I) (E := E) (L := L) (pr := pr) (ot := ot) (M := M) (rdv := rdv) (ru := ru) (T := [.inl (.long, (1, .inr (.inl out)))]) hM n0 hn e2 hcb).2 hs rfl
      obtain ⟨⟨gk, hg⟩, -⟩ := mg I A L pr ot
      obtain ⟨k, hk⟩ : ∃ k, (slF (tkL 6 2 (8 - G)) (mayL 6) n 55 c (min n 55) (0, 0) 0).2.1 = k := ⟨_, rfl⟩
      rw [hk] at gk hg mg
      obtain ⟨I', f1, f2⟩ := c_grounds2 (L := L) (pr := pr) (ot := ot) (T := encR J B M rdv ru [.inl (.long, (1, .inr (.inl out)))]) n0 hF hfm e1 hn hca hs hk gk hg
      obtain ⟨-, J', B', g1, g2, g3, g4⟩ := mg (u2 (u2 (u2 (u2 I' 11 9 (iN (G + k))) 7 2 0) 7 3 0) 1 1 0) (grA A c G k) L pr ot
      have vk : ∀ j, j < k → (0 : Int32) ≤ dgt c (7 * j + 1) ∧ dgt c (7 * j + 1) ≤ 99 := fun j hj => dg99 (by have := (hg j hj).2.2.1; omega)
      refine ⟨_, _, _, L, pr, ot, _, _, M, .ref 52, ru, G + k, P, W, f1, g1, hI.grow (fun o q hq => ?_) (fun x h1 h2 => grA_ne (by omega) (by omega) (by omega)) (fun x hx => ?_) (fun x hx => ?_) ⟨?_, ?_, ?_, gk, hF.2.2.2.2.1, hF.2.2.2.2.2⟩ (hM.gro gk ?_ ?_ ?_ (fun x hx => g3 x (by omega) (by omega) (by omega)) (g3 4 (by decide) (by decide) (by decide)) (g3 5 (by decide) (by decide) (by decide))) (hpl.gro (fun j hj => (hg j hj).2)) ?_ ?_ ?_ ?_ ?_ ?_ ?_ ?_⟩
      · rw [u2_eq, if_neg (by omega), u2_eq, if_neg (by omega), u2_eq, if_neg (by omega), u2_eq, if_neg (by omega)]
        exact f2 o q (by omega)
      · rw [u1_eq, if_neg (by omega), u1_eq, if_neg (by omega), u1_eq, if_neg (by omega)]
        exact g2 x (by omega) (by omega) (by omega)
      · exact (grB_ne (by omega) (by omega) (by omega)).trans (g3 x (by omega) (by omega) (by omega))
      · rw [u2_eq, if_neg (by decide), u2_eq, if_neg (by decide), u2_eq, if_neg (by decide), u2_eq, if_pos ⟨rfl, rfl⟩]
      · rw [u2_eq, if_neg (by decide), u2_eq, if_neg (by decide), u2_eq, if_neg (by decide), u2_eq, if_neg (by decide)]
        exact (f2 11 10 (by omega)).trans hF.2.1
      · rw [u2_eq, if_neg (by decide), u2_eq, if_neg (by decide), u2_eq, if_neg (by decide), u2_eq, if_neg (by decide)]
        exact (f2 11 11 (by omega)).trans hF.2.2.1
      · rw [u1_eq, if_neg (by decide), u1_eq, if_neg (by decide), u1_eq, if_pos rfl]
      · rw [u1_eq, if_neg (by decide), u1_eq, if_neg (by decide), u1_eq, if_neg (by decide)]
        exact g2 2 (by decide) (by decide) (by decide)
      · rw [u1_eq, if_neg (by decide), u1_eq, if_neg (by decide), u1_eq, if_neg (by decide)]
        exact g2 3 (by decide) (by decide) (by decide)
      · rw [grA_28]
        exact (hz.gmono (Nat.le_add_right G k) (Nat.le_refl P)).fl vk gk k (Nat.le_refl k)
      · rw [grA_28, grB_0, g3 0 (by decide) (by decide) (by decide)]
        exact hc.fl (show G + k ≤ 32 by omega) k (Nat.le_refl k)
      · rw [u2_eq, if_pos ⟨rfl, rfl⟩]
      · rw [u1_eq, if_neg (by decide), u1_eq, if_neg (by decide), u1_eq, if_neg (by decide)]
        exact g4
      · rw [u2_eq, if_neg (by decide), u2_eq, if_neg (by decide), u2_eq, if_pos ⟨rfl, rfl⟩]
      · rw [u1_eq, if_neg (by decide), u1_eq, if_pos rfl]
      · rw [u2_eq, if_neg (by decide), u2_eq, if_pos ⟨rfl, rfl⟩]
      · rw [u1_eq, if_pos rfl]
end GP
