/-! YEAR: the model reads; the class's form -/
section YR2
variable {I A E I' A' : Nat → Nat → Int32} {L L' : Nat → Int64} {pr ot s : Nat} {J J' : Nat → Int32} {B B' : Nat → Nat → Int32} {M M' : Nat → Int64} {rdv rdv' : Value} {ru : Nat} {T : PH} {G P W n top fi w room most o k N i t l q ch a : Nat} {c : Nat → Nat} {st : RSt} {X Y : Nat → Int32} {b : Bool}
theorem r_J38 (h : RD J (u1 B 32 X) rdv n top c) (hb : RB 80 st) (hi : i + 3 ≤ 240) (hk : kdY (c st.1)) : fX12_readAct_J38 45 (iN i) (iN (c st.1)) (encC I E L pr ot (encR (pj J st) (u1 B 32 X) M rdv ru T)) = some ((), (encC I E L pr ot (encR (pj J (rdA n top c i st X).1) (u1 B 32 (rdA n top c i st X).2) M rdv ru T))) := by
  have hn := h.2.2.1
  have hg : ∀ Y, RD J (u1 B 32 Y) rdv n top c := fun Y => h.fr rfl rfl (fun x hx => by rw [u1_eq, if_neg (by omega), u1_eq, if_neg (by omega)])
  have hb0 : RB 81 (st.1 + 1, st.2) := ⟨by have := hb.1; dsimp only; omega, hb.2⟩
  have hb1 : RB 81 (oneP n top c 48 10 (st.1 + 1, st.2)).2 := hb0.one (by omega) (by decide)
  have e1 := r_oneOf (I := I) (E := E) (L := L) (pr := pr) (ot := ot) (M := M) (ru := ru) (T := T) (fi := 48) (mn := 10) (hg (upd X i (iN (c st.1)))) (show (st.1 + 1, st.2).1 < 1000 by have := hb0.1; omega) hb0.2 (by decide) (by decide)
  have e2 := fun Y => r_oneOf (I := I) (E := E) (L := L) (pr := pr) (ot := ot) (M := M) (ru := ru) (T := T) (fi := 48) (mn := 10) (hg Y) (show (oneP n top c 48 10 (st.1 + 1, st.2)).2.1 < 1000 by have := hb1.1; omega) hb1.2 (by decide) (by decide)
  have e3 := fun Y => r_oneOf (I := I) (E := E) (L := L) (pr := pr) (ot := ot) (M := M) (ru := ru) (T := T) (fi := 49) (mn := 9) (hg Y) (show (oneP n top c 48 10 (st.1 + 1, st.2)).2.1 < 1000 by have := hb1.1; omega) hb1.2 (by decide) (by decide)
  have c256 : c st.1 < 256 := by unfold kdY at hk; omega
  unfold fX12_readAct_J38
  rw [brG_17, pj_17, show iN st.1 + (1 : Int32) = iN (st.1 + 1) from iN_add, brW_17, pj_w17, brR_32, brS_32 (in_arr (show i < 240 by omega) (by decide) rfl), iN_nat (by omega), u1_u1, u1_at, brR_32, brK, hb_of (show fX12_oneOf 45 (48 : Int32) (10 : Int32) _ = _ from e1), show iN i + (1 : Int32) = iN (i + 1) from iN_add, brS_32 (in_arr (show i + 1 < 240 by omega) (by decide) rfl), iN_nat (by omega), u1_u1, u1_at]
  by_cases d9 : c st.1 = 109
  · rw [rdA_109 d9, if_pos (show iN (c st.1) = 109 by rw [d9]; rfl), brR_32, brK, hb_of (show fX12_oneOf 45 (49 : Int32) (9 : Int32) _ = _ from e3 _), show iN i + (2 : Int32) = iN (i + 2) from iN_add, brS_32 (in_arr (show i + 2 < 240 by omega) (by decide) rfl), iN_nat (by omega), u1_u1, u1_at]
    unfold fX12_readAct_J95
    rw [if_neg (show ¬ iN (c st.1) = 103 by rw [d9]; decide), if_neg (show ¬ iN (c st.1) = 116 by rw [d9]; decide), show iN (oneP n top c 49 9 (oneP n top c 48 10 (st.1 + 1, st.2)).2).1 + (1 : Int32) = iN ((oneP n top c 49 9 (oneP n top c 48 10 (st.1 + 1, st.2)).2).1 + 1) from iN_add]
  · rw [if_neg (show ¬ iN (c st.1) = 109 by rw [show (109 : Int32) = iN 109 from rfl, iN_eq (by omega) (by omega)]; exact d9)]
    by_cases d0 : c st.1 = 100
    · rw [rdA_100 d0]
      unfold fX12_readAct_J95
      rw [if_neg (show ¬ iN (c st.1) = 103 by rw [d0]; decide), if_neg (show ¬ iN (c st.1) = 116 by rw [d0]; decide)]
    · rw [rdA_o d0 d9]
      have go : fX12_readAct_J95 45 (iN i) (iN (c st.1)) (encC I E L pr ot (encR (pj J (oneP n top c 48 10 (st.1 + 1, st.2)).2) (u1 B 32 (upd (upd X i (iN (c st.1))) (i + 1) (iN (oneP n top c 48 10 (st.1 + 1, st.2)).1))) M rdv ru T)) = fX12_readAct_J107 45 (iN i) (encC I E L pr ot (encR (pj J (oneP n top c 48 10 (st.1 + 1, st.2)).2) (u1 B 32 (upd (upd X i (iN (c st.1))) (i + 1) (iN (oneP n top c 48 10 (st.1 + 1, st.2)).1))) M rdv ru T)) := by
        unfold fX12_readAct_J95
        by_cases d3 : c st.1 = 103
        · rw [if_pos (show iN (c st.1) = 103 by rw [d3]; rfl)]
        · have d6 : c st.1 = 116 := by unfold kdY at hk; omega
          rw [if_neg (show ¬ iN (c st.1) = 103 by rw [d6]; decide), if_pos (show iN (c st.1) = 116 by rw [d6]; rfl)]
      rw [go]
      unfold fX12_readAct_J107
      rw [brR_32, brK, hb_of (show fX12_oneOf 45 (48 : Int32) (10 : Int32) _ = _ from e2 _), show iN i + (2 : Int32) = iN (i + 2) from iN_add, brS_32 (in_arr (show i + 2 < 240 by omega) (by decide) rfl), iN_nat (by omega), u1_u1, u1_at]
theorem hrV_k (hc : ∀ k, k < n → k < top → c k < 256) (h2 : ch < 256) : hrV n top c st.1 = iN ch ↔ (st.1 < n ∧ st.1 < top ∧ c st.1 = ch) := by rw [hrV_eq hc h2]
theorem r_readAct (h : RD J (u1 B 32 X) rdv n top c) (hb : RB 80 st) (hi : i + 3 ≤ 240) (hl : st.1 < n ∧ st.1 < top) (hk : kdY (c st.1)) : fX12_readAct 45 (iN i) (encC I E L pr ot (encR (pj J st) (u1 B 32 X) M rdv ru T)) = some ((), (encC I E L pr ot (encR (pj J (rdA n top c i st X).1) (u1 B 32 (rdA n top c i st X).2) M rdv ru T))) := by
  have hh := r_here (I := I) (E := E) (L := L) (pr := pr) (ot := ot) (M := M) (ru := ru) (T := T) (st := st) h (show st.1 < 1000 by have := hb.1; omega)
  have key := r_J38 (I := I) (E := E) (L := L) (pr := pr) (ot := ot) (M := M) (ru := ru) (T := T) h hb hi hk
  have q : ∀ m, m < 256 → (iN (c st.1) = iN m) = (c st.1 = m) := fun m hm => iN_eq (by unfold kdY at hk; omega) (by omega)
  unfold fX12_readAct
  rw [brK, hb_of hh, hrV_in hl]
  by_cases d3 : c st.1 = 103
  · rw [if_pos (show iN (c st.1) = 103 by rw [d3]; rfl)]; exact key
  rw [if_neg (show ¬ iN (c st.1) = 103 from fun f => d3 ((q 103 (by decide)).mp f))]
  by_cases d6 : c st.1 = 116
  · rw [if_pos (show iN (c st.1) = 116 by rw [d6]; rfl)]; exact key
  rw [if_neg (show ¬ iN (c st.1) = 116 from fun f => d6 ((q 116 (by decide)).mp f))]
  by_cases d9 : c st.1 = 109
  · rw [if_pos (show iN (c st.1) = 109 by rw [d9]; rfl)]; exact key
  rw [if_neg (show ¬ iN (c st.1) = 109 from fun f => d9 ((q 109 (by decide)).mp f)), if_pos (show iN (c st.1) = 100 by rw [show c st.1 = 100 by unfold kdY at hk; omega]; rfl)]
  exact key
theorem r_readAct0 (h : RD J (u1 B 32 X) rdv n top c) (hb : RB 80 st) (hk : ¬ ((st.1 < n ∧ st.1 < top) ∧ kdY (c st.1))) : fX12_readAct 45 (iN i) (encC I E L pr ot (encR (pj J st) (u1 B 32 X) M rdv ru T)) = some ((), (encC I E L pr ot (encR (pj J (fltP st)) (u1 B 32 X) M rdv ru T))) := by
  have hh := r_here (I := I) (E := E) (L := L) (pr := pr) (ot := ot) (M := M) (ru := ru) (T := T) (st := st) h (show st.1 < 1000 by have := hb.1; omega)
  have q : ∀ m, m < 256 → kdY m → ¬ hrV n top c st.1 = iN m := fun m hm km f => by
    obtain ⟨f1, f2, f3⟩ := (hrV_k h.2.2.2.2.1 hm).mp f
    exact hk ⟨⟨f1, f2⟩, by rw [f3]; exact km⟩
  unfold fX12_readAct
  rw [brK, hb_of hh, if_neg (show ¬ hrV n top c st.1 = 103 from q 103 (by decide) (Or.inr (Or.inl rfl))), if_neg (show ¬ hrV n top c st.1 = 116 from q 116 (by decide) (Or.inr (Or.inr (Or.inr rfl)))), if_neg (show ¬ hrV n top c st.1 = 109 from q 109 (by decide) (Or.inr (Or.inr (Or.inl rfl)))), if_neg (show ¬ hrV n top c st.1 = 100 from q 100 (by decide) (Or.inl rfl)), brG_17, pj_17, brK, hb_of (r_fault hb.2)]
theorem r_yrR (hR : ∀ X, RD J (u1 B 32 X) rdv n 60 c) (kx : Int32 → PH → Option (Int32 × PH)) : ∀ d k st X b, (st.2 = none → 61 ≤ st.1 + d ∧ RB 80 st ∧ st.1 = psY c k ∧ ∀ j, j < k → ALc c (psY c j) ∧ ALv c (psY c j) (3 * j) X) → RB 90 st → Sim tkY mayY n 60 c (0, false) (0, b) st →
    ∃ k' st' X' b', (∀ m, d + 1 < m → fX12_year_L13 45 kx m (iN k) (encC I E L pr ot (encR (pj J st) (u1 B 32 X) M rdv ru T)) = kx (iN k') (encC I E L pr ot (encR (pj J st') (u1 B 32 X') M rdv ru T))) ∧ RB 90 st' ∧ Sim tkY mayY n 60 c (0, false) (0, b') st' ∧ (st'.2 = none → st'.1 = psY c k' ∧ n ≤ st'.1 ∧ ∀ j, j < k' → ALc c (psY c j) ∧ ALv c (psY c j) (3 * j) X') := by
  intro d
  induction d with
  | zero =>
    intro k st X b hx hb hS
    cases e : st.2 with
    | none =>
      have := (hx e).1
      have := (hS.1 e).1
      omega
    | some q =>
      refine ⟨k, st, X, b, fun m hm => ?_, hb, hS, fun f => by rw [e] at f; cases f⟩
      obtain ⟨m, rfl⟩ : ∃ m', m = m' + 1 := ⟨m - 1, by omega⟩
      rw [fX12_year_L13, brK, hb_of (r_fine1 e (hb.2 q e)), if_pos rfl]
  | succ d ih =>
    intro k st X b hx hb hS
    cases e : st.2 with
    | some q =>
      refine ⟨k, st, X, b, fun m hm => ?_, hb, hS, fun f => by rw [e] at f; cases f⟩
      obtain ⟨m, rfl⟩ : ∃ m', m = m' + 1 := ⟨m - 1, by omega⟩
      rw [fX12_year_L13, brK, hb_of (r_fine1 e (hb.2 q e)), if_pos rfl]
    | none =>
      obtain ⟨h1, h2, h3, h4⟩ := hx e
      have hst := (hS.1 e).1
      have hn := (hR X).2.2.1
      have h15 : pj J st 15 = iN n := (pj_ne (by decide) (by decide)).trans (hR X).1
      by_cases dn : n ≤ st.1
      · refine ⟨k, st, X, b, fun m hm => ?_, hb, hS, fun f => ⟨h3, dn, h4⟩⟩
        obtain ⟨m, rfl⟩ : ∃ m', m = m' + 1 := ⟨m - 1, by omega⟩
        rw [fX12_year_L13, brK, hb_of (r_fine0 e), if_neg (by decide), brG_17, pj_17, brG_15, h15, if_pos (show iN n ≤ iN st.1 by rw [iN_le (by omega) (by omega)]; exact dn)]
      · have hg : ¬ iN n ≤ iN st.1 := by rw [iN_le (by omega) (by omega)]; exact dn
        have hk2 := psY_ge (c := c) k
        by_cases kd : (st.1 < n ∧ st.1 < 60) ∧ kdY (c st.1)
        · have ra := r_readAct (I := I) (E := E) (L := L) (pr := pr) (ot := ot) (M := M) (ru := ru) (T := T) (i := 3 * k) (hR X) h2 (by omega) kd.1 kd.2
          obtain ⟨b', hS'⟩ := hS.rdA (i := 3 * k) (X := X) e kd.1 kd.2
          have hb' : RB 90 (rdA n 60 c (3 * k) st X).1 := RB.rdA ⟨by dsimp only; omega, hb.2⟩ (by omega) (by decide)
          obtain ⟨k', st', X', b2, g1, g2⟩ := ih (k + 1) (rdA n 60 c (3 * k) st X).1 (rdA n 60 c (3 * k) st X).2 b' (fun f => by
            obtain ⟨f1, f2, f3, f4, f5, f6⟩ := rdA_none kd.2 f
            refine ⟨by rw [f2]; split <;> omega, ⟨by omega, hb'.2⟩, by rw [f2, h3]; rfl, fun j hj => ?_⟩
            by_cases ej : j = k
            · subst ej
              rw [← h3]
              exact ⟨f5, f6⟩
            · exact ⟨(h4 j (by omega)).1, (h4 j (by omega)).2.congr (fun q h1 h2 => rdA_out (by omega))⟩) hb' hS'
          refine ⟨k', st', X', b2, fun m hm => ?_, g2⟩
          obtain ⟨m, rfl⟩ : ∃ m', m = m' + 1 := ⟨m - 1, by omega⟩
          rw [fX12_year_L13, brK, hb_of (r_fine0 e), if_neg (by decide), brG_17, pj_17, brG_15, h15, if_neg hg, brK, show (3 : Int32) * iN k = iN (3 * k) from iN_mul, hb_of ra, letE_eq, show iN k + (1 : Int32) = iN (k + 1) from iN_add]
          exact g1 m (by omega)
        · have ra := r_readAct0 (I := I) (E := E) (L := L) (pr := pr) (ot := ot) (M := M) (ru := ru) (T := T) (i := 3 * k) (hR X) h2 kd
          have ef : (fltP st).2 = some st.1 := by unfold fltP; rw [if_pos e]
          have hS' : Sim tkY mayY n 60 c (0, false) (0, b) (fltP st) := hS.flt e (fun a b => by rw [tkY_0, if_neg (fun f => kd ⟨⟨a, b⟩, dgY_pos.mp f⟩)]) (fun f => by omega)
          refine ⟨k + 1, fltP st, X, b, fun m hm => ?_, ⟨hb.1, fun q f => by rw [ef] at f; cases f; omega⟩, hS', fun f => by rw [ef] at f; cases f⟩
          obtain ⟨m, rfl⟩ : ∃ m', m = m' + 2 := ⟨m - 2, by omega⟩
          rw [fX12_year_L13, brK, hb_of (r_fine0 e), if_neg (by decide), brG_17, pj_17, brG_15, h15, if_neg hg, brK, show (3 : Int32) * iN k = iN (3 * k) from iN_mul, hb_of ra, letE_eq, show iN k + (1 : Int32) = iN (k + 1) from iN_add, fX12_year_L13, brK, hb_of (r_fine1 ef (by omega)), if_pos rfl]
def bI (b : Bool) : Int32 := if b then 1 else 0
theorem c_digB {h : PH} (hch : ch < 256) : fX10_digitsBehind (iN ch) h = some (iN (dgY ch), h) := by
  have q : ∀ m, m < 256 → (iN ch = iN m) = (ch = m) := fun m hm => iN_eq (by omega) (by omega)
  unfold fX10_digitsBehind fX10_digitsBehind_J26 dgY
  by_cases d0 : ch = 100
  · rw [if_pos (show iN ch = 100 by rw [d0]; rfl), if_pos d0]; rfl
  rw [if_neg (show ¬ iN ch = 100 from fun f => d0 ((q 100 (by decide)).mp f)), if_neg d0]
  by_cases d3 : ch = 103
  · rw [if_pos (show iN ch = 103 by rw [d3]; rfl), if_pos (Or.inl d3)]; rfl
  rw [if_neg (show ¬ iN ch = 103 from fun f => d3 ((q 103 (by decide)).mp f))]
  by_cases d6 : ch = 116
  · rw [if_pos (show iN ch = 116 by rw [d6]; rfl), if_pos (Or.inr (Or.inr d6))]; rfl
  rw [if_neg (show ¬ iN ch = 116 from fun f => d6 ((q 116 (by decide)).mp f))]
  by_cases d9 : ch = 109
  · rw [if_pos (show iN ch = 109 by rw [d9]; rfl), if_pos (Or.inr (Or.inl d9))]; rfl
  rw [if_neg (show ¬ iN ch = 109 from fun f => d9 ((q 109 (by decide)).mp f)), if_neg (by omega)]
  rfl
theorem dgY_lt : dgY ch < 3 := by unfold dgY; split; decide; split <;> decide
theorem c_tyJ19 (hch : ch < 256) (b : Bool) : ∃ I', fX10_takes_J19 6 (iN ch) (bI b) 6 (encC I A L pr ot T) = some ((if 0 < dgY ch then 1 else 0), (encC I' A L pr ot T)) ∧ frF1 6 I I' ∧ I' 6 1 = iN (dgY ch) ∧ I' 6 2 = bI b := by
  refine ⟨u2 (u2 I 6 2 (bI b)) 6 1 (iN (dgY ch)), ?_, fun x k h => (u2_o (by omega)).trans (u2_o (by omega)), u2_at, (u2_o (by decide)).trans u2_at⟩
  have hd := dgY_lt (ch := ch)
  have e : ∀ z : Option (Int32 × PH), h_z (bI b) z = z := fun z => by
    cases b
    · exact h_z0
    · exact h_z1
  unfold fX10_takes_J19
  rw [e, bW_6_2, hb_of (c_digB hch), bW_6_1, bG_6_1, u2_at]
  by_cases d : 0 < dgY ch
  · rw [if_neg (show ¬ iN (dgY ch) ≤ 0 by rw [show (0 : Int32) = iN 0 from rfl, iN_le (by omega) (by omega)]; omega), h_z1, if_pos d]
  · rw [if_pos (show iN (dgY ch) ≤ 0 by rw [show (0 : Int32) = iN 0 from rfl, iN_le (by omega) (by omega)]; omega), h_z0, if_neg d]
theorem c_takesY (h1 : I 6 1 = iN t) (h2 : I 6 2 = bI b) (b1 : t < 3) (hch : ch < 256) :
    ∃ I', fX10_takes 6 (iN ch) (encC I A L pr ot T) = some ((if (tkY (t, b) ch).isSome then 1 else 0), (encC I' A L pr ot T)) ∧ frF1 6 I I' ∧ ∀ s', tkY (t, b) ch = some s' → I' 6 1 = iN s'.1 ∧ I' 6 2 = bI s'.2 ∧ s'.1 < 3 := by
  have q : ∀ m, m < 256 → (iN ch = iN m) = (ch = m) := fun m hm => iN_eq (by omega) (by omega)
  unfold fX10_takes
  rw [bG_6_1, h1]
  by_cases c0 : t = 0
  · subst c0
    rw [if_pos (show iN 0 = 0 from rfl)]
    have fin : ∀ x : Option (Int32 × PH), (∃ I', x = some ((if 0 < dgY ch then 1 else 0), (encC I' A L pr ot T)) ∧ frF1 6 I I' ∧ I' 6 1 = iN (dgY ch) ∧ I' 6 2 = bI (decide (ch = 109))) → ∃ I', x = some ((if (tkY (0, b) ch).isSome then 1 else 0), (encC I' A L pr ot T)) ∧ frF1 6 I I' ∧ ∀ s', tkY (0, b) ch = some s' → I' 6 1 = iN s'.1 ∧ I' 6 2 = bI s'.2 ∧ s'.1 < 3 := by
      rintro x ⟨I', g1, g2, g3, g4⟩
      refine ⟨I', ?_, g2, fun s' e => ?_⟩
      · rw [g1, tkY_0]
        by_cases d : 0 < dgY ch
        · rw [if_pos d, yesW (if_pos d)]
        · rw [if_neg d, noW (if_neg d)]
      · rw [tkY_0] at e
        split at e
        · cases e; exact ⟨g3, g4, dgY_lt⟩
        · cases e
    by_cases d9 : ch = 109
    · rw [if_pos (show iN ch = 109 by rw [d9]; rfl)]
      refine fin _ ?_
      rw [show decide (ch = 109) = true from decide_eq_true d9]
      exact c_tyJ19 hch true
    · rw [if_neg (show ¬ iN ch = 109 from fun f => d9 ((q 109 (by decide)).mp f))]
      refine fin _ ?_
      rw [show decide (ch = 109) = false from decide_eq_false d9]
      exact c_tyJ19 hch false
  · obtain ⟨t, rfl⟩ : ∃ t', t = t' + 1 := ⟨t - 1, by omega⟩
    have i2 : u2 I 6 1 (iN t) 6 2 = bI b := (u2_o (by decide)).trans h2
    rw [if_neg (show ¬ iN (t + 1) = 0 by rw [show (0 : Int32) = iN 0 from rfl, iN_eq (by omega) (by omega)]; omega), bG_6_1, h1, show iN (t + 1) - (1 : Int32) = iN t from iN_pred, bW_6_1, hb_of (isDig hch)]
    refine ⟨u2 I 6 1 (iN t), ?_, fun x k h => u2_o (by omega), fun s' e => ?_⟩
    · rw [tkY_s]
      unfold fX10_takes_J80
      by_cases d : 48 ≤ ch ∧ ch < 58
      · rw [if_pos d, if_neg (by decide), bG_6_2, i2]
        cases b with
        | false =>
          rw [if_pos (show bI false = 0 from rfl), h_z1, yesW (if_pos ⟨d, fun f => by cases f.1⟩)]
        | true =>
          rw [if_neg (show ¬ bI true = 0 by decide), bG_6_1, u2_at]
          by_cases t0 : t = 0
          · subst t0
            rw [if_pos (show iN 0 = 0 from rfl)]
            by_cases d8 : ch = 48
            · rw [if_pos (show iN ch = 48 by rw [d8]; rfl), h_z0, noW (if_neg (fun f => f.2 ⟨rfl, rfl, d8⟩))]
            · rw [if_neg (show ¬ iN ch = 48 from fun f => d8 ((q 48 (by decide)).mp f)), h_z1, yesW (if_pos ⟨d, fun f => d8 f.2.2⟩)]
          · rw [if_neg (show ¬ iN t = 0 by rw [show (0 : Int32) = iN 0 from rfl, iN_eq (by omega) (by omega)]; exact t0), h_z1, yesW (if_pos ⟨d, fun f => by have := f.2.1; omega⟩)]
      · rw [if_neg d, if_pos rfl, h_z0, noW (if_neg (fun f => d f.1))]
    · rw [tkY_s] at e
      split at e
      · cases e
        exact ⟨u2_at, i2, by dsimp only; omega⟩
      · cases e
theorem c_slipY (hm : I 6 0 = iN 60) {rm : Int32} (h1 : I 1 1 = iN n) (hn : n ≤ 80) (hc : ∀ k, k < n → c k < 256 ∧ A 2 k = iN (c k)) :
    ∃ I', fX1_slip_X10 6 1 rm (encC I A L pr ot T) = some (wQ (slF tkY mayY n 60 c (min n 60) (0, false) 0).1, (encC I' A L pr ot T)) ∧ frF1 6 I I' := by
  obtain ⟨I0, hI0⟩ : ∃ I0, I0 = u2 (u2 I 6 1 0) 6 2 0 := ⟨_, rfl⟩
  have fr0 : frF1 6 I I0 := fun x k h => by rw [hI0, u2_o (by omega), u2_o (by omega)]
  have ne1 : ∀ {I' : Nat → Nat → Int32}, frF1 6 I I' → I' 1 1 = iN n := fun f => (f 1 1 (by omega)).trans h1
  have ne0 : ∀ {I' : Nat → Nat → Int32}, frF1 6 I I' → I' 6 0 = iN 60 := fun f => (f 6 0 (by omega)).trans hm
  obtain ⟨h', k1, k2, k3⟩ := slip_lp (tk := tkY) (may := mayY) (n := n) (most := 60) (c := c) (fX1_slip_X10_L13 6 1 (iN n) (fun h4 => (h_gi 9 0 h4 6).bind fun x5 => if (iN n) ≤ x5 then ((h_ck 9 h4 6).bind fun _ => h_bd (fX10_mayEnd 6 h4) fun x6 h7 => if x6 = 0 then (some ((iN n), h7)) else (some ((-1 : Int32), h7))) else ((h_gi 9 0 h4 6).bind fun x8 => some (x8, h4)))) (fun s h => ∃ I', h = (encC I' A L pr ot T) ∧ frF1 6 I I' ∧ I' 6 1 = iN s.1 ∧ I' 6 2 = bI s.2 ∧ s.1 < 3) (fun h => ∃ I', h = (encC I' A L pr ot T) ∧ frF1 6 I I')
    (fun k s h hk ⟨I1, e0, e1, e2, e3, e4⟩ => by
      subst e0
      obtain ⟨t, b⟩ := s
      dsimp only at *
      have hck := hc k (by omega)
      have hat : fX7_at 1 (iN k) (encC I1 A L pr ot T) = some (iN (c k), (encC I1 A L pr ot T)) := by
        rw [c_at (ne1 e1) hn (fun k hk => (hc k hk).2) (by omega)]
        unfold hrV
        rw [if_pos ⟨by omega, by omega⟩]
      obtain ⟨I2, t1, t2, t3⟩ := c_takesY (L := L) (pr := pr) (ot := ot) (T := T) (A := A) (t := t) (b := b) (ch := c k) e2 e3 e4 hck.1
      have fr2 : frF1 6 I I2 := fun x k h => (t2 x k h).trans (e1 x k h)
      have g1 : ¬ (iN n ≤ iN k) := by rw [iN_le (by omega) (by omega)]; omega
      have g2 : ¬ (iN 60 ≤ iN k) := by rw [iN_le (by omega) (by omega)]; omega
      refine ⟨fun e => ⟨(encC I2 A L pr ot T), ⟨I2, rfl, fr2⟩, fun m => ?_⟩, fun s' e => ⟨(encC I2 A L pr ot T), ⟨I2, rfl, fr2, t3 s' e⟩, fun m => ?_⟩⟩
      · rw [e] at t1
        rw [fX1_slip_X10_L13, if_neg g1, bG_6_0, ne0 e1, if_neg g2, bK_1, hb_of hat, bK_6, hb_of t1]
        rfl
      · rw [e] at t1
        rw [fX1_slip_X10_L13, if_neg g1, bG_6_0, ne0 e1, if_neg g2, bK_1, hb_of hat, bK_6, hb_of t1]
        rw [show (if (some s').isSome then (1 : Int32) else 0) = 1 from rfl, if_neg (by decide), letE_eq, show iN k + (1 : Int32) = iN (k + 1) from iN_add])
    (fun s h ⟨I1, e0, e1, e2, e3, e4⟩ => by
      subst e0
      obtain ⟨t, b⟩ := s
      dsimp only at *
      refine ⟨(encC I1 A L pr ot T), ⟨I1, rfl, e1, e2, e3, e4⟩, fun m => ?_⟩
      have st : fX1_slip_X10_L13 6 1 (iN n) (fun h4 => (h_gi 9 0 h4 6).bind fun x5 => if (iN n) ≤ x5 then ((h_ck 9 h4 6).bind fun _ => h_bd (fX10_mayEnd 6 h4) fun x6 h7 => if x6 = 0 then (some ((iN n), h7)) else (some ((-1 : Int32), h7))) else ((h_gi 9 0 h4 6).bind fun x8 => some (x8, h4))) (m + 1) (iN (min n 60)) (encC I1 A L pr ot T) = if (iN n) ≤ iN 60 then ((h_ck 9 (encC I1 A L pr ot T) 6).bind fun _ => h_bd (fX10_mayEnd 6 (encC I1 A L pr ot T)) fun x6 h7 => if x6 = 0 then (some ((iN n), h7)) else (some ((-1 : Int32), h7))) else (some (iN 60, (encC I1 A L pr ot T))) := by
        rw [fX1_slip_X10_L13]
        by_cases d : n ≤ 60
        · rw [if_pos (by rw [iN_le (by omega) (by omega)]; omega), bG_6_0, ne0 e1]
          by_cases d2 : iN n ≤ iN 60
          · rw [if_pos d2, if_pos d2]
          · rw [if_neg d2, if_neg d2, bG_6_0, ne0 e1]
        · rw [if_neg (by rw [iN_le (by omega) (by omega)]; omega), bG_6_0, ne0 e1, if_pos (by rw [iN_le (by omega) (by omega)]; omega), bG_6_0, ne0 e1]
          by_cases d2 : iN n ≤ iN 60
          · rw [if_pos d2, if_pos d2]
          · rw [if_neg d2, if_neg d2, bG_6_0, ne0 e1]
      rw [st]
      by_cases d : n ≤ 60
      · rw [if_pos (by rw [iN_le (by omega) (by omega)]; exact d), bK_6]
        unfold fX10_mayEnd
        rw [bG_6_1, e2]
        by_cases d2 : t = 0
        · rw [if_pos (show iN t = 0 by rw [d2]; rfl), h_z1, hb_some, if_neg (by decide), if_pos ⟨d, by unfold mayY; exact decide_eq_true d2⟩]
          rfl
        · rw [if_neg (show ¬ iN t = 0 by rw [show (0 : Int32) = iN 0 from rfl, iN_eq (by omega) (by omega)]; exact d2), h_z0, hb_some, if_pos rfl, if_neg (fun x => d2 (of_decide_eq_true x.2)), show min n 60 = n by omega]
          rfl
      · rw [if_neg (by rw [iN_le (by omega) (by omega)]; exact d), if_neg (fun x => d x.1), show min n 60 = 60 by omega]
        rfl)
    (fun s h ⟨I1, e0, e1, _⟩ => ⟨I1, e0, e1⟩)
    (min n 60) 0 (0, false) (encC I0 A L pr ot T) (by omega) ⟨I0, rfl, fr0, by rw [hI0, u2_o (by omega), u2_at]; rfl, by rw [hI0, u2_at]; rfl, by decide⟩
  obtain ⟨I1, rfl, e1⟩ := k2
  refine ⟨I1, ?_, e1⟩
  unfold fX1_slip_X10 fX10_begin
  rw [bK_6, bW_6_1, h_z0, bW_6_2, hb_some, bK_1, hb_of c_sizeT]
  have hs1 : (u2 (u2 I 6 1 0) 6 2 0) 1 1 = iN n := by rw [← hI0]; exact ne1 fr0
  rw [hs1, ← hI0]
  exact k1 FU (by unfold FU; omega)
end YR2
