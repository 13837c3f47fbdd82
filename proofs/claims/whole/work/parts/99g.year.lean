/-! YEAR: the class's call, the model's, the pair -/
section YC
variable {I A E I' A' : Nat → Nat → Int32} {L L' : Nat → Int64} {pr ot s : Nat} {J J' : Nat → Int32} {B B' : Nat → Nat → Int32} {M M' : Nat → Int64} {rdv rdv' : Value} {ru : Nat} {T : PH} {out : Nat → Int64} {G P W n top fi w room most o k N i t l q ch a nr D nx sz : Nat} {c : Nat → Nat} {st : RSt} {X Y Z R : Nat → Int32} {pu : (Nat → Int32) → Int32}
theorem yZ_cong (h2 : A' 12 = A 12) (h3 : A' 13 = A 13) (h4 : A' 14 = A 14) (h8 : G ≤ 8) (h6 : P ≤ 6) : ∀ j, yZ A' pu G P c Z j = yZ A pu G P c Z j
  | 0 => rfl
  | j + 1 => by
    show (aStp A' pu G P c (psY c j) (yZ A' pu G P c Z j)).2 = (aStp A pu G P c (psY c j) (yZ A pu G P c Z j)).2
    rw [yZ_cong h2 h3 h4 h8 h6 j, aStp_cong h2 h3 h4 h8 h6]
theorem yDn_cong (h2 : A' 12 = A 12) (h3 : A' 13 = A 13) (h4 : A' 14 = A 14) (h8 : G ≤ 8) (h6 : P ≤ 6) (h : yDn A pu G P c Z k D) : yDn A' pu G P c Z k D := by
  refine ⟨h.1, fun j hj => ?_, fun hj => ?_⟩
  · rw [aStp_cong h2 h3 h4 h8 h6, yZ_cong h2 h3 h4 h8 h6]; exact h.2.1 j hj
  · rw [aStp_cong h2 h3 h4 h8 h6, yZ_cong h2 h3 h4 h8 h6]; exact h.2.2 hj
def yR0 (b : Bool) : Int64 := if b then 0 else 1
theorem c_yrJ137 (hF : FS I G P W) (hT : TS A W) (b : Bool) : fX11_readYear_J137 0 (iN D) (if b then (1 : Int32) else 0) (encC I A L pr ot T) = some (iN D, (encC (u2 I 9 1 (iN 2)) A (vp_updL (vp_updL L 0 (yR0 b)) 1 (sm (fun p => bc (waS A (A 28) W p)) P).toInt64) pr ot T)) := by
  have j158 : ∀ v : Int64, fX11_readYear_J158 0 (iN D) v 9 (encC (u2 I 9 1 (iN 0)) A L pr ot T) = some (iN D, (encC (u2 I 9 1 (iN 2)) A (vp_updL (vp_updL L 0 v) 1 (sm (fun p => bc (waS A (A 28) W p)) P).toInt64) pr ot T)) := by
    intro v
    have f1 := c_add (I := I) (A := A) (L := L) (pr := pr) (ot := ot) (T := T) (v := v) (n := 0) (by decide)
    have f2 := c_wantsOfAll (I := u2 I 9 1 (iN 1)) (A := A) (L := vp_updL L 0 v) (pr := pr) (ot := ot) (T := T) (o := 27) (G := G) (P := P) (W := W) hF hT (Or.inl rfl)
    have f3 := c_add (I := I) (A := A) (L := vp_updL L 0 v) (pr := pr) (ot := ot) (T := T) (v := (sm (fun p => bc (waS A (A 28) W p)) P).toInt64) (n := 1) (by decide)
    unfold fX11_readYear_J158
    rw [bK_9, hb_of f1, bR_0_6, bR_0_8, bK_27, hb_of f2, bK_9, hb_of f3]
  unfold fX11_readYear_J137
  rw [bR_0_6, bK_9, hb_of c_start, bR_0_6]
  cases b with
  | true => rw [if_neg (show ¬ (if true = true then (1 : Int32) else 0) = 0 by decide)]; exact j158 0
  | false => rw [if_pos (show (if false = true then (1 : Int32) else 0) = 0 from rfl)]; exact j158 1
theorem c_yrJ26 (hF : FS I G P W) (hT : TS A W) (hro : pr = 19 ∨ pr = 23) (hr : RU I A pr pu) (hz : OK G P (A 28)) (hn2 : nz (A 32)) (e1 : I 7 1 = iN nx) (e2 : I 7 2 = iN sz) (hnx : nx < 12) (hsz : sz ≤ 12) (h1 : I 1 1 = iN n) (hn : n ≤ 80) (hc : ∀ k, k < n → c k < 256 ∧ A 2 k = iN (c k)) (hk : ∀ j, j < k → ALc c (psY c j)) (hnk : psY c k = n) (hD : yDn A pu G P c (A 28) k D) :
    ∃ I' A' L', fX11_readYear_J26 0 (-1 : Int32) (encC I A L pr ot T) = some (iN D, (encC I' A' L' pr ot T)) ∧ (∀ x q, ¬ (x = 7 ∧ (q = 1 ∨ q = 2)) → ¬ (x = 9 ∧ q = 1) → I' x q = I x q) ∧ (∀ x, x ≠ 8 → x ≠ 28 → x ≠ 29 → x ≠ 30 → x ≠ 32 → x ≠ pr + 3 → A' x = A x) ∧ A' 28 = yZ A pu G P c (A 28) D ∧ nz (A' 32) ∧ (D = 0 → I' 7 1 = I 7 1 ∧ I' 7 2 = I 7 2 ∧ A' 8 = A 8) ∧ (0 < D → I' 7 1 = iN ((nx + 1) % 12) ∧ I' 7 2 = iN (if sz + 1 < 12 then sz + 1 else 12) ∧ A' 8 = va_cpy (A 28) (A 8) 0 (nx * 82) 82) ∧ I' 9 1 = iN 2 ∧ L' = vp_updL (vp_updL L 0 (yR0 (decide (D = k)))) 1 (sm (fun p => bc (waS A (yZ A pu G P c (A 28) D) W p)) P).toInt64 := by
  have h8 := hF.2.2.2.1
  have h6 := hF.2.2.2.2.1
  have hk2 := psY_ge (c := c) k
  have a1 : ∀ x, x ≠ 32 → u1 A 32 (A 28) x = A x := fun x hx => u1_o hx
  have cp := c_copy (I := I) (A := A) (L := L) (pr := pr) (ot := ot) (T := T) hz.1 hn2
  have hT1 : TS (u1 A 32 (A 28)) W := hT.congr (fun x _ _ => a1 x (by omega))
  obtain ⟨A2, f1, f2, f3⟩ := yr_cl (L := L) (ot := ot) (T := T) (A := u1 A 32 (A 28)) (Z := A 28) hF hT1 hro (hr.congr (a1 _ (by omega))) hz h1 hn (fun q hq => by rw [a1 2 (by decide)]; exact hc q hq) hk hnk (yDn_cong (a1 12 (by decide)) (a1 13 (by decide)) (a1 14 (by decide)) h8 h6 hD) (fun x4 x5 h6 => if x4 ≤ 0 then (fX11_readYear_J137 0 x4 x5 h6) else ((h_gr 10 5 h6 0).bind fun q7 => (h_gr 10 9 h6 0).bind fun q8 => (h_ck 4 h6 q7).bind fun _ => h_bd (fX5_remember q7 q8 h6) fun _ h9 => fX11_readYear_J137 0 x4 x5 h9)) D 0 (u1 A 32 (A 28)) (by omega) frL.refl (a1 28 (by decide))
  rw [yZ_cong (a1 12 (by decide)) (a1 13 (by decide)) (a1 14 (by decide)) h8 h6] at f2
  have f4 := f3 FU (by have := hD.1; unfold FU; omega)
  have dD : D ≤ k := hD.1
  have fx : ∀ x, x ≠ 28 → x ≠ 29 → x ≠ 30 → x ≠ 32 → x ≠ pr + 3 → A2 x = A x := fun x x1 x2 x3 x4 x5 => (f1 x x1 x2 x3 x5).trans (a1 x x4)
  have f32 : A2 32 = A 28 := (f1 32 (by omega) (by omega) (by omega) (by omega)).trans u1_at
  have f8 : A2 8 = A 8 := fx 8 (by omega) (by omega) (by omega) (by omega) (by omega)
  have hT2 : TS A2 W := hT.congr (fun x _ _ => fx x (by omega) (by omega) (by omega) (by omega) (by omega))
  have wc : (fun p => bc (waS A2 (yZ A pu G P c (A 28) D) W p)) = (fun p => bc (waS A (yZ A pu G P c (A 28) D) W p)) := by
    funext p
    rw [waS_congr (fun x _ _ => fx x (by omega) (by omega) (by omega) (by omega) (by omega))]
  have start : fX11_readYear_J26 0 (-1 : Int32) (encC I A L pr ot T) = (if iN D ≤ 0 then (fX11_readYear_J137 0 (iN D) (if D = k then 1 else 0) (encC I A2 L pr ot T)) else ((h_gr 10 5 (encC I A2 L pr ot T) 0).bind fun q7 => (h_gr 10 9 (encC I A2 L pr ot T) 0).bind fun q8 => (h_ck 4 (encC I A2 L pr ot T) q7).bind fun _ => h_bd (fX5_remember q7 q8 (encC I A2 L pr ot T)) fun _ h9 => fX11_readYear_J137 0 (iN D) (if D = k then 1 else 0) h9)) := by
    unfold fX11_readYear_J26
    rw [if_pos rfl, bR_0_9, bR_0_8, bK_31, hb_of cp]
    exact f4
  have eb : (if D = k then (1 : Int32) else 0) = (if decide (D = k) = true then (1 : Int32) else 0) := by
    by_cases d : D = k
    · rw [if_pos d, if_pos (decide_eq_true d)]
    · rw [if_neg d, if_neg (by rw [decide_eq_false d]; decide)]
  by_cases d0 : D = 0
  · have j := c_yrJ137 (L := L) (pr := pr) (ot := ot) (T := T) (D := D) hF hT2 (decide (D = k))
    rw [f2, wc] at j
    refine ⟨_, _, _, ?_, fun x q _ h2 => u2_o h2, fun x x1 x2 x3 x4 x5 x6 => fx x x2 x3 x4 x5 x6, f2, by rw [f32]; exact hz.1, fun _ => ⟨u2_o (by omega), u2_o (by omega), f8⟩, fun f => by omega, u2_at, rfl⟩
    rw [start, if_pos (show iN D ≤ 0 by rw [d0]; decide), eb]
    exact j
  · have cr := c_remember (I := I) (A := A2) (L := L) (pr := pr) (ot := ot) (T := T) (o := 31) (Or.inr rfl) e1 e2 hnx hsz
    rw [show A2 (31 + 1) = A 28 from f32, f8] at cr
    have hT3 : TS (u1 A2 8 (va_cpy (A 28) (A 8) 0 (nx * 82) 82)) W := hT2.congr (fun x _ _ => u1_o (by omega))
    have j := c_yrJ137 (I := u2 (u2 I 7 1 (iN ((nx + 1) % 12))) 7 2 (iN (if sz + 1 < 12 then sz + 1 else 12))) (A := u1 A2 8 (va_cpy (A 28) (A 8) 0 (nx * 82) 82)) (L := L) (pr := pr) (ot := ot) (T := T) (D := D) (G := G) (P := P) (W := W) hF hT3 (decide (D = k))
    have wc2 : (fun p => bc (waS (u1 A2 8 (va_cpy (A 28) (A 8) 0 (nx * 82) 82)) (yZ A pu G P c (A 28) D) W p)) = (fun p => bc (waS A (yZ A pu G P c (A 28) D) W p)) := by
      rw [← wc]
      funext p
      rw [waS_congr (A := A2) (fun x _ _ => u1_o (by omega))]
    rw [u1_o (show 28 ≠ 8 by decide), f2, wc2] at j
    refine ⟨_, _, _, ?_, fun x q h1 h2 => ((u2_o h2).trans (u2_o (by omega))).trans (u2_o (by omega)), fun x x1 x2 x3 x4 x5 x6 => (u1_o x1).trans (fx x x2 x3 x4 x5 x6), (u1_o (by decide)).trans f2, by rw [u1_o (by decide), f32]; exact hz.1, fun f => absurd f d0, fun _ => ⟨((u2_o (by decide)).trans (u2_o (by decide))).trans u2_at, (u2_o (by decide)).trans u2_at, u1_at⟩, u2_at, rfl⟩
    rw [start, if_neg (show ¬ iN D ≤ 0 by rw [show (0 : Int32) = iN 0 from rfl, iN_le (by omega) (by omega)]; omega), bR_0_5, bR_0_9, bK_7, hb_of cr, eb]
    exact j
theorem r_yrJ130 (hM : FM A J B G P W) (hc : CP Z (B 0)) (hz : ∀ p, p < 6 → okH Z p) (hD : D ≤ k) (hk : k < 1000) : fX12_year_J130 45 (iN k) (iN D) (encC I E L pr ot (encR J B M rdv ru T)) = some (iN D, (encC I E L pr ot (encR (u1 J 12 (iN 2)) B (vp_updL (vp_updL M 0 (yR0 (decide (D = k)))) 1 (sm (fun p => bc (waS A Z W p)) P).toInt64) rdv ru T))) := by
  have j146 : ∀ v : Int64, fX12_year_J146 45 (iN D) v 45 (encC I E L pr ot (encR (u1 J 12 (iN 0)) B M rdv ru T)) = some (iN D, (encC I E L pr ot (encR (u1 J 12 (iN 2)) B (vp_updL (vp_updL M 0 v) 1 (sm (fun p => bc (waS A Z W p)) P).toInt64) rdv ru T))) := by
    intro v
    have f1 := r_tell (I := I) (E := E) (L := L) (pr := pr) (ot := ot) (rdv := rdv) (M := M) (ru := ru) (T := T) (J := u1 J 12 (iN 0)) (B := B) (v := v) (n := 0) u1_at (by decide)
    rw [u1_u1] at f1
    have f2 := r_hadByAll (I := I) (E := E) (L := L) (pr := pr) (ot := ot) (rdv := rdv) (M := vp_updL M 0 v) (ru := ru) (T := T) (J := u1 J 12 (iN (0 + 1))) (oa := 46) (hM.j0 (by decide)) (Or.inl rfl) hc hz
    have f3 := r_tell (I := I) (E := E) (L := L) (pr := pr) (ot := ot) (rdv := rdv) (M := vp_updL M 0 v) (ru := ru) (T := T) (J := u1 J 12 (iN (0 + 1))) (B := B) (v := (sm (fun p => bc (waS A Z W p)) P).toInt64) (n := 1) u1_at (by decide)
    rw [u1_u1] at f3
    unfold fX12_year_J146
    rw [brK, hb_of f1, brR_0, brK, hb_of f2, brK, hb_of f3]
  unfold fX12_year_J130
  rw [brW_12]
  by_cases d : D = k
  · rw [if_pos (show iN k ≤ iN D by rw [iN_le (by omega) (by omega)]; omega), decide_eq_true d]
    exact j146 0
  · rw [if_neg (show ¬ iN k ≤ iN D by rw [iN_le (by omega) (by omega)]; omega), decide_eq_false d]
    exact j146 1
theorem m_year (hM : FM A J B G P W) (hu : MUR nr R pu) (hJ : J 23 = iN nr) (hR : B 21 = R) (hru : ru = 56) (hcp : CP Z (B 0)) (hz : OK G P Z) (j27 : J 27 = iN sz) (hsz : sz ≤ 12) (hn : n ≤ 80) (e2 : J 10 = iN n) (hcc : ∀ k, k < n → c k < 256 ∧ B 9 k &&& 255 = iN (c k) ∧ (c k < 128 → B 9 k = iN (c k))) :
    (∀ q, (slF tkY mayY n 60 c (min n 60) (0, false) 0).1 = some q → ∃ J' B', fX12_year 45 (encC I E L pr ot (encR J B M rdv ru T)) = some ((-1 : Int32) - wQ (some q), (encC I E L pr ot (encR J' B' M (.ref 52) ru T))) ∧ frG J J' ∧ frGB B B' ∧ J' 10 = 0) ∧
    ((slF tkY mayY n 60 c (min n 60) (0, false) 0).1 = none → ∃ k, psY c k = n ∧ (∀ j, j < k → ALc c (psY c j)) ∧ ∀ D, yDn A pu G P c Z k D → ∃ J' B' rdv' Y, fX12_year 45 (encC I E L pr ot (encR J B M rdv ru T)) = some (iN D, (encC I E L pr ot (encR J' B' (vp_updL (vp_updL M 0 (yR0 (decide (D = k)))) 1 (sm (fun p => bc (waS A (yZ A pu G P c Z D) W p)) P).toInt64) rdv' ru T))) ∧ (∀ x, x ≠ 10 → x ≠ 12 → x ≠ 13 → ¬ (15 ≤ x ∧ x ≤ 18) → x ≠ 24 → x ≠ 27 → x ≠ 31 → J' x = J x) ∧ (∀ x, x ≠ 0 → x ≠ 25 → x ≠ 26 → x ≠ 28 → x ≠ 30 → x ≠ 32 → B' x = B x) ∧ J' 10 = 0 ∧ J' 12 = iN 2 ∧ CP (yZ A pu G P c Z D) (B' 0) ∧ (D = 0 → J' 27 = J 27 ∧ B' 26 = B 26) ∧ (0 < D → J' 27 = iN (if sz < 12 then sz + 1 else 12) ∧ B' 26 = Y ∧ ∃ f, CP Z f ∧ remB (B 26) f sz Y)) := by
  have h8 := hM.2.2.2.1
  have h6 := hM.2.2.2.2.1
  have b0 : fX12_beginText 45 (60 : Int32) (encC I E L pr ot (encR (u1 J 13 0) B M rdv ru T)) = some ((), (encC I E L pr ot (encR (pj (bj (u1 J 13 0) n 60) (0, none)) B M (.ref 52) ru T))) := r_beginText (by rw [u1_eq, if_neg (by decide)]; exact e2)
  have hRD : ∀ X, RD (bj (u1 J 13 0) n 60) (u1 B 32 X) (.ref 52) n 60 c := fun X => (RD.begin hn (by decide) (fun k hk => ⟨(hcc k hk).1, (hcc k hk).2⟩)).fr rfl rfl (fun x hx => u1_o (by omega))
  have hB : u1 B 32 (B 32) = B := u1_same rfl
  obtain ⟨k, st', X', b', r1, r2, r3, r4⟩ := r_yrR (I := I) (E := E) (L := L) (pr := pr) (ot := ot) (B := B) (M := M) (ru := ru) (T := T) hRD (fun x3 h4 => (h_ck 11 h4 45).bind fun _ => h_bd (fX12_wasRight 45 h4) fun x5 h6 => if x5 = 0 then ((h_gi 11 18 h6 45).bind fun x14 => some (((-1 : Int32) - x14), h6)) else ((h_gr 11 0 h6 45).bind fun q7 => (h_gr 11 28 h6 45).bind fun q8 => h_bd (fX12_lay q7 q8 (0 : Int32) h6) fun _ h9 => fX12_year_L72 45 x3 (fun x10 h11 => if x10 ≤ 0 then (fX12_year_J130 45 x3 x10 h11) else ((h_gr 11 28 h11 45).bind fun q12 => (h_ck 11 h11 45).bind fun _ => h_bd (fX12_remember 45 q12 h11) fun _ h13 => fX12_year_J130 45 x3 x10 h13)) FU (0 : Int32) h9)) 70 0 (0, none) (B 32) false (fun _ => ⟨by dsimp only; omega, ⟨by dsimp only; omega, fun q f => by cases f⟩, rfl, fun j hj => absurd hj (Nat.not_lt_zero _)⟩) ⟨by dsimp only; omega, fun q f => by cases f⟩ Sim.start
  have run := r1 FU (by unfold FU; omega)
  rw [hB] at run
  have fin := r3.fin (fun e a b => absurd (r4 e).2.1 (by omega)) (fun e => decide_eq_true rfl)
  have wr := r_wasRight (I := I) (E := E) (L := L) (pr := pr) (ot := ot) (B := u1 B 32 X') (M := M) (rdv := .ref 52) (ru := ru) (T := T) (J := bj (u1 J 13 0) n 60) (n := n) bj_15 hn (show st'.1 < 1000 by have := r2.1; omega) r2.2
  have frb : frGB B (u1 B 32 X') := fun x h1 h2 h3 => u1_o h3
  have start : fX12_year 45 (encC I E L pr ot (encR J B M rdv ru T)) = h_bd (fX12_wasRight 45 (encC I E L pr ot (encR (pj (bj (u1 J 13 0) n 60) st') (u1 B 32 X') M (.ref 52) ru T))) fun x5 h6 => if x5 = 0 then ((h_gi 11 18 h6 45).bind fun x14 => some (((-1 : Int32) - x14), h6)) else ((h_gr 11 0 h6 45).bind fun q7 => (h_gr 11 28 h6 45).bind fun q8 => h_bd (fX12_lay q7 q8 (0 : Int32) h6) fun _ h9 => fX12_year_L72 45 (iN k) (fun x10 h11 => if x10 ≤ 0 then (fX12_year_J130 45 (iN k) x10 h11) else ((h_gr 11 28 h11 45).bind fun q12 => (h_ck 11 h11 45).bind fun _ => h_bd (fX12_remember 45 q12 h11) fun _ h13 => fX12_year_J130 45 (iN k) x10 h13)) FU (0 : Int32) h9) := by
    unfold fX12_year
    rw [brW_13, brK, hb_of b0]
    refine Eq.trans run ?_
    rw [brK]
  refine ⟨fun q hq => ?_, fun hs => ?_⟩
  · refine ⟨pj (bj (u1 J 13 0) n 60) (rgtP n st'), u1 B 32 X', ?_, fun x h1 h2 h3 => pjb_ne h1 h2 h3, frb, pjb_10⟩
    have e3 : (rgtP n st').2 = some q := fin.1.symm.trans hq
    rw [start, hb_of wr, e3, if_neg (show ¬ (some q : Option Nat) = none from fun d => by cases d), if_pos rfl, brG_18, pj_18, e3]
  · have e3 : (rgtP n st').2 = none := fin.1.symm.trans hs
    obtain ⟨f1, f2, f3, f4⟩ := fin.2 e3
    obtain ⟨g1, g2, g3⟩ := r4 f1
    have hk2 := psY_ge (c := c) k
    have kn : psY c k = n := by rw [← g1]; exact f2
    refine ⟨k, kn, fun j hj => (g3 j hj).1, fun D hD => ?_⟩
    have ly := r_layS (I := I) (E := E) (L := L) (pr := pr) (ot := ot) (J := pj (bj (u1 J 13 0) n 60) (rgtP n st')) (B := u1 B 32 X') (M := M) (rdv := .ref 52) (ru := ru) (T := T)
    obtain ⟨B1, hB1⟩ : ∃ B1, B1 = u1 (u1 B 32 X') 28 (va_cpy (u1 B 32 X' 0) (u1 B 32 X' 28) 0 0 88) := ⟨_, rfl⟩
    obtain ⟨J1, hJ1⟩ : ∃ J1, J1 = pj (bj (u1 J 13 0) n 60) (rgtP n st') := ⟨_, rfl⟩
    have b1x : ∀ x, x ≠ 28 → x ≠ 32 → B1 x = B x := fun x h1 h2 => by rw [hB1, u1_o h1, u1_o h2]
    have j1x : ∀ x, x ≠ 10 → x ≠ 13 → ¬ (15 ≤ x ∧ x ≤ 18) → J1 x = J x := fun x h1 h2 h3 => by rw [hJ1]; exact pjb_ne h1 h2 h3
    have j10 : J1 10 = 0 := by rw [hJ1]; exact pjb_10
    rw [← hB1, ← hJ1] at ly
    have b32 : B1 32 = X' := by rw [hB1, u1_o (by decide), u1_at]
    have c28 : CP Z (B1 28) := by
      rw [hB1, u1_at]
      exact hcp.ext (fun q hq => by
        have e := cpy_in (f := u1 B 32 X' 0) (g := u1 B 32 X' 28) (k := 0) (n := 88) hq
        rw [Nat.zero_add, u1_o (by decide)] at e
        exact e)
    have hM1 : FM A J1 B1 G P W := hM.frame (fun x _ _ => j1x x (by omega) (by omega) (by omega)) (fun x _ _ => b1x x (by omega) (by omega))
    have hR1 : B1 (rf ru) = R := by rw [← hR, hru]; exact b1x 21 (by decide) (by decide)
    obtain ⟨J2, B2, rdv2, q1, q2, q3, q4⟩ := yr_ml (I := I) (E := E) (L := L) (pr := pr) (ot := ot) (M := M) (ru := ru) (T := T) (J := J1) (B := B1) (Z := Z) (c := c) (k := k) (D := D) hM1 hu ((j1x 23 (by decide) (by decide) (by decide)).trans hJ) hR1 hru hz (fun j hj => (g3 j hj).1) (fun j hj => by rw [b32]; exact (g3 j hj).2) (by omega) hD (fun x10 h11 => if x10 ≤ 0 then (fX12_year_J130 45 (iN k) x10 h11) else ((h_gr 11 28 h11 45).bind fun q12 => (h_ck 11 h11 45).bind fun _ => h_bd (fX12_remember 45 q12 h11) fun _ h13 => fX12_year_J130 45 (iN k) x10 h13)) D 0 J1 B1 (.ref 52) (by omega) frK.refl frB.refl (by rw [b1x 0 (by decide) (by decide)]; exact hcp)
    have q5 := q4 FU (by have := hD.1; unfold FU; omega)
    have dk := hD.1
    have hM2 : FM A J2 B2 G P W := hM1.frk q1 q2 (Or.inl rfl)
    have zok := yZ_ok (A := A) (pu := pu) (c := c) (k := k) hz h8 h6 (fun j hj => (g3 j hj).1) D dk
    have start2 : fX12_year 45 (encC I E L pr ot (encR J B M rdv ru T)) = (if iN D ≤ 0 then (fX12_year_J130 45 (iN k) (iN D) (encC I E L pr ot (encR J2 B2 M rdv2 ru T))) else ((h_gr 11 28 (encC I E L pr ot (encR J2 B2 M rdv2 ru T)) 45).bind fun q12 => (h_ck 11 (encC I E L pr ot (encR J2 B2 M rdv2 ru T)) 45).bind fun _ => h_bd (fX12_remember 45 q12 (encC I E L pr ot (encR J2 B2 M rdv2 ru T))) fun _ h13 => fX12_year_J130 45 (iN k) (iN D) h13)) := by
      rw [start, hb_of wr, e3, if_pos rfl, if_neg (by decide), ← hJ1, brR_0, brR_28, hb_of (show fX12_lay 46 60 (0 : Int32) _ = _ from ly)]
      exact q5
    have b2x : ∀ x, x ≠ 0 → x ≠ 25 → x ≠ 28 → x ≠ 30 → x ≠ 32 → B2 x = B x := fun x x0 x1 x2 x3 x4 => (q2 x x1 x3 x0).trans (b1x x x2 x4)
    have j2x : ∀ x, x ≠ 10 → x ≠ 13 → ¬ (15 ≤ x ∧ x ≤ 18) → x ≠ 24 → x ≠ 31 → J2 x = J x := fun x x0 x1 x2 x3 x4 => (q1 x (by omega) (by omega) (by omega) (by omega) x3 x4).trans (j1x x x0 x1 x2)
    have j2_10 : J2 10 = 0 := (q1 10 (by decide) (by decide) (by decide) (by decide) (by decide) (by decide)).trans j10
    by_cases d0 : D = 0
    · have j130 := r_yrJ130 (I := I) (E := E) (L := L) (pr := pr) (ot := ot) (M := M) (rdv := rdv2) (ru := ru) (T := T) (D := D) (k := k) hM2 q3 zok.2.2.1 dk (by omega)
      refine ⟨u1 J2 12 (iN 2), B2, rdv2, fun _ => 0, ?_, fun x x1 x2 x3 x4 x5 x6 x7 => (u1_o x2).trans (j2x x x1 x3 x4 x5 x7), fun x x1 x2 x3 x4 x5 x6 => b2x x x1 x2 x4 x5 x6, (u1_o (by decide)).trans j2_10, u1_at, q3, fun _ => ⟨(u1_o (by decide)).trans (j2x 27 (by decide) (by decide) (by decide) (by decide) (by decide)), b2x 26 (by decide) (by decide) (by decide) (by decide) (by decide)⟩, fun f => by omega⟩
      rw [start2, if_pos (show iN D ≤ 0 by rw [d0]; decide)]
      exact j130
    · have h27 : J2 27 = iN sz := (j2x 27 (by decide) (by decide) (by decide) (by decide) (by decide)).trans j27
      obtain ⟨Y, m1, m2⟩ := r_rem60 (I := I) (E := E) (L := L) (pr := pr) (ot := ot) (M := M) (rdv := rdv2) (ru := ru) (T := T) (J := J2) (B := B2) h27 hsz
      have hM3 : FM A (u1 J2 27 (iN (if sz < 12 then sz + 1 else 12))) (u1 B2 26 Y) G P W := hM2.frame (fun x _ _ => u1_o (by omega)) (fun x _ _ => u1_o (by omega))
      have j130 := r_yrJ130 (I := I) (E := E) (L := L) (pr := pr) (ot := ot) (M := M) (rdv := rdv2) (ru := ru) (T := T) (D := D) (k := k) hM3 (show CP _ (u1 B2 26 Y 0) by rw [u1_o (by decide)]; exact q3) zok.2.2.1 dk (by omega)
      rw [b2x 26 (by decide) (by decide) (by decide) (by decide) (by decide)] at m2
      have b28 : B2 28 = B1 28 := q2 28 (by decide) (by decide) (by decide)
      refine ⟨u1 (u1 J2 27 (iN (if sz < 12 then sz + 1 else 12))) 12 (iN 2), u1 B2 26 Y, rdv2, Y, ?_, fun x x1 x2 x3 x4 x5 x6 x7 => ((u1_o x2).trans (u1_o x6)).trans (j2x x x1 x3 x4 x5 x7), fun x x1 x2 x3 x4 x5 x6 => (u1_o x3).trans (b2x x x1 x2 x4 x5 x6), ((u1_o (by decide)).trans (u1_o (by decide))).trans j2_10, u1_at, by rw [u1_o (by decide)]; exact q3, fun f => absurd f d0, fun _ => ⟨(u1_o (by decide)).trans u1_at, u1_at, B2 28, by rw [b28]; exact c28, m2⟩⟩
      rw [start2, if_neg (show ¬ iN D ≤ 0 by rw [show (0 : Int32) = iN 0 from rfl, iN_le (by omega) (by omega)]; omega), brR_28, brK, hb_of m1]
      exact j130
theorem psY_lt {j : Nat} : ∀ k, j < k → psY c j < psY c k
  | 0, h => absurd h (Nat.not_lt_zero _)
  | k + 1, h => by
    have e : psY c (k + 1) = psY c k + (if c (psY c k) = 100 then 2 else 3) := rfl
    by_cases ej : j = k
    · subst ej
      rw [e]; split <;> omega
    · have := psY_lt (j := j) k (by omega)
      rw [e]; split <;> omega
theorem psY_inj {j : Nat} (h : psY c j = psY c k) : j = k := by
  rcases Nat.lt_trichotomy j k with d | d | d
  · have := psY_lt (c := c) k d; omega
  · exact d
  · have := psY_lt (c := c) j d; omega
theorem c_year1 (hM : FMS I) (h1 : I 1 1 = iN n) (hn : n ≤ 80) (hc : ∀ k, k < n → c k < 256 ∧ A 2 k = iN (c k)) {q : Nat} (hs : (slF tkY mayY n 60 c (min n 60) (0, false) 0).1 = some q) :
    ∃ I', fX11_year 0 (encC I A L pr ot T) = some ((-1 : Int32) - wQ (some q), (encC (u2 I' 1 1 0) A L pr ot T)) ∧ frF1 6 I I' := by
  have h0 : n ≠ 0 := fun f => by
    subst f
    cases hs
  have hq := (slF_le _ _ _ _ hs).2
  obtain ⟨I', s1, s2⟩ := c_slipY (L := L) (pr := pr) (ot := ot) (T := T) (A := A) (rm := 0) hM.2.2.2.2.2.2.2.1 h1 hn hc
  refine ⟨I', ?_, s2⟩
  unfold fX11_year fX11_readYear fX11_readYear_J26
  rw [bK_0, bR_0_0, bK_1, hb_of c_sizeT, h1, if_neg (show ¬ iN n = 0 by rw [show (0 : Int32) = iN 0 from rfl, iN_eq (by omega) (by omega)]; exact h0), bR_0_4, bR_0_0, bK_6, hb_of s1, hs, if_neg (wQ_ne (by omega)), hb_some, bR_0_0, bK_1, hb_of (c_cut0 ((s2 1 1 (by omega)).trans h1) hn)]
theorem c_year2 (hM : FMS I) (h1 : I 1 1 = iN n) (hn : n ≤ 80) (hc : ∀ k, k < n → c k < 256 ∧ A 2 k = iN (c k)) (hs : (slF tkY mayY n 60 c (min n 60) (0, false) 0).1 = none) :
    ∃ I', fX11_readYear 0 (encC I A L pr ot T) = fX11_readYear_J26 0 (-1 : Int32) (encC I' A L pr ot T) ∧ frF1 6 I I' := by
  by_cases h0 : n = 0
  · refine ⟨I, ?_, fun _ _ _ => rfl⟩
    unfold fX11_readYear
    rw [bR_0_0, bK_1, hb_of c_sizeT, h1, if_pos (show iN n = 0 by rw [h0]; rfl)]
  · obtain ⟨I', s1, s2⟩ := c_slipY (L := L) (pr := pr) (ot := ot) (T := T) (A := A) (rm := 0) hM.2.2.2.2.2.2.2.1 h1 hn hc
    refine ⟨I', ?_, s2⟩
    unfold fX11_readYear
    rw [bR_0_0, bK_1, hb_of c_sizeT, h1, if_neg (show ¬ iN n = 0 by rw [show (0 : Int32) = iN 0 from rfl, iN_eq (by omega) (by omega)]; exact h0), bR_0_4, bR_0_0, bK_6, hb_of s1, hs]
    rfl
theorem p_year (h : INV s I A L pr ot J B M ru G P W) : pairG s I A L pr ot J B M rdv ru out (fX11_year 0) (fX12_year 45) := by
  obtain ⟨nx, sz, hnx, hsz, q1, q2, q3⟩ := h.past
  have hI := h
  obtain ⟨hpr, hru, pu, nr, hnr, hr, hu, hJ⟩ := h.rule
  obtain ⟨hF, hM, hpl, hz, hc, hn2, htx, hrl, hpas, hkps, hnts, hrws, hfm⟩ := h
  obtain ⟨n, c, hn, e1, e2, hcc⟩ := htx.ch
  have hT := hM.TS
  have h8 := hF.2.2.2.1
  have h6 := hF.2.2.2.2.1
  have hca : ∀ k, k < n → c k < 256 ∧ A 2 k = iN (c k) := fun k hk => ⟨(hcc k hk).1, (hcc k hk).2.1⟩
  have hcb : ∀ k, k < n → c k < 256 ∧ B 9 k &&& 255 = iN (c k) ∧ (c k < 128 → B 9 k = iN (c k)) := fun k hk => ⟨(hcc k hk).1, (hcc k hk).2.2⟩
  have mm := fun (I E : Nat → Nat → Int32) (L : Nat → Int64) => m_year (I := I) (E := E) (L := L) (pr := pr) (ot := ot) (M := M) (rdv := rdv) (ru := ru) (T := [.inl (.long, (1, .inr (.inl out)))]) (n := n) (c := c) (sz := sz) hM hu hJ (show B 21 = B (rf ru) by rw [hru]; rfl) hru hc hz q3 hsz hn e2 hcb
  cases hs : (slF tkY mayY n 60 c (min n 60) (0, false) 0).1 with
  | some q =>
    obtain ⟨I', f1, f2⟩ := c_year1 (L := L) (pr := pr) (ot := ot) (T := encR J B M rdv ru [.inl (.long, (1, .inr (.inl out)))]) hfm e1 hn hca hs
    obtain ⟨J', B', g1, g2, g3, g4⟩ := (mm (u2 I' 1 1 0) A L).1 q hs
    exact ⟨_, u2 I' 1 1 0, A, L, pr, ot, J', B', M, .ref 52, ru, G, P, W, f1, g1, hI.red (fun o k h1 h2 h3 => by rw [u2_eq, if_neg h1]; exact f2 o k (by omega)) g2 g3 (by rw [u2_eq, if_pos ⟨rfl, rfl⟩]) g4⟩
  | none =>
    obtain ⟨k0, kn, kl, -⟩ := (mm I A L).2 hs
    obtain ⟨I1, c1, c2⟩ := c_year2 (L := L) (pr := pr) (ot := ot) (T := encR J B M rdv ru [.inl (.long, (1, .inr (.inl out)))]) hfm e1 hn hca hs
    obtain ⟨D, hD⟩ := yDn_ex (A := A) (pu := pu) (G := G) (P := P) (c := c) (Z := A 28) k0
    have hF1 : FS I1 G P W := ⟨(c2 11 9 (by omega)).trans hF.1, (c2 11 10 (by omega)).trans hF.2.1, (c2 11 11 (by omega)).trans hF.2.2.1, hF.2.2.2⟩
    have hr1 : RU I1 A pr pu := by
      obtain ⟨m1, m, m2, m3, m4⟩ := hr
      exact ⟨m1, m, m2, (c2 pr 4 (by omega)).trans m3, m4⟩
    obtain ⟨I', A', L', f1, f2, f3, f4, f5, f6, f7, f8, f9⟩ := c_yrJ26 (L := L) (ot := ot) (T := encR J B M rdv ru [.inl (.long, (1, .inr (.inl out)))]) hF1 hT hpr hr1 hz hn2 ((c2 7 1 (by omega)).trans q1) ((c2 7 2 (by omega)).trans q2) hnx hsz ((c2 1 1 (by omega)).trans e1) hn hca kl kn hD
    obtain ⟨k, kn', kl', km⟩ := (mm (u2 I' 1 1 0) A' L').2 hs
    have ek : k = k0 := psY_inj (by rw [kn, kn'])
    subst ek
    obtain ⟨J', B', rdv', Y, g1, g2, g3, g4, g5, g6, g7, g8⟩ := km D hD
    have i1 : I' 1 1 = iN n := (f2 1 1 (by omega) (by omega)).trans ((c2 1 1 (by omega)).trans e1)
    have zok := yZ_ok (A := A) (pu := pu) (c := c) (k := k) hz h8 h6 kl D hD.1
    have ii : ∀ x q, ¬ (x = 1 ∧ q = 1) → ¬ (x = 6 ∧ 1 ≤ q) → ¬ (x = 7 ∧ (q = 1 ∨ q = 2)) → ¬ (x = 9 ∧ q = 1) → u2 I' 1 1 0 x q = I x q := fun x q h1 h2 h3 h4 => (u2_o h1).trans ((f2 x q h3 h4).trans (c2 x q h2))
    refine ⟨iN D, u2 I' 1 1 0, A', L', pr, ot, J', B', _, rdv', ru, G, P, W, ?_, g1, hI.mk2 (fun o k ho hk => ii o k (by omega) (by omega) (by omega) (by omega)) (fun x hx => f3 x (by omega) (by omega) (by omega) (by omega) (by omega) (by omega)) (fun x hx => g2 x (by omega) (by omega) (by omega) (by omega) (by omega) (by omega) (by omega)) (fun x hx => g3 x (by omega) (by omega) (by omega) (by omega) (by omega) (by omega)) (by rw [f4]; exact zok) (by rw [f4]; exact g6) f5 ⟨0, by omega, u2_at, g4, fun k hk => absurd hk (Nat.not_lt_zero _)⟩ ?_ (hkps.fr (ii 7 3 (by omega) (by omega) (by omega) (by omega)) (fun i hi => ?_) (g2 47 (by omega) (by omega) (by omega) (by omega) (by omega) (by omega) (by omega)) (fun x hx => g3 x (by omega) (by omega) (by omega) (by omega) (by omega) (by omega))) (hnts.fr (ii 35 13 (by omega) (by omega) (by omega) (by omega)) (fun x hx => f3 x (by omega) (by omega) (by omega) (by omega) (by omega) (by omega)) (g2 37 (by omega) (by omega) (by omega) (by omega) (by omega) (by omega) (by omega)) (fun x hx => g3 x (by omega) (by omega) (by omega) (by omega) (by omega) (by omega))) ?_⟩
    · unfold EH fX11_year
      rw [bK_0, c1, hb_of f1, bR_0_0, bK_1, hb_of (c_cut0 i1 hn)]
    · by_cases d0 : D = 0
      · obtain ⟨a1, a2, a3⟩ := f6 d0
        obtain ⟨b1, b2⟩ := g7 d0
        exact hpas.fr ((u2_o (by decide)).trans (a1.trans (c2 7 1 (by omega)))) ((u2_o (by decide)).trans (a2.trans (c2 7 2 (by omega)))) a3 b1 b2
      · obtain ⟨a1, a2, a3⟩ := f7 (by omega)
        obtain ⟨b1, b2, f, b3, b4⟩ := g8 (by omega)
        exact hpas.rem hz b3 hnx hsz q1 q2 b4 ((u2_o (by decide)).trans a1) ((u2_o (by decide)).trans a2) a3 b1 b2
    · by_cases d0 : D = 0
      · rw [(f6 d0).2.2]
      · rw [(f7 (by omega)).2.2, rwC_ne (by omega)]
    · rw [f9]
      exact RWS_2 ((u2_o (by decide)).trans f8) g5
end YC
