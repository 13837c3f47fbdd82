/-! WANTS: the class's form -/
def frF1 (o : Nat) (I I' : Nat → Nat → Int32) : Prop := ∀ x k, ¬ (x = o ∧ 1 ≤ k) → I' x k = I x k
section WF
variable {I A E I' A' : Nat → Nat → Int32} {L L' : Nat → Int64} {pr ot s : Nat} {J J' : Nat → Int32} {B B' : Nat → Nat → Int32} {M M' : Nat → Int64} {rdv rdv' : Value} {ru : Nat} {T : PH} {G P W n top fi mn w da room most o k N i t l q ch : Nat} {c : Nat → Nat} {st : RSt}
theorem yesW {α : Type} {x : Option α} {y : α} (e : x = some y) : (if x.isSome then (1 : Int32) else 0) = 1 := by rw [e]; rfl
theorem noW {α : Type} {x : Option α} (e : x = none) : (if x.isSome then (1 : Int32) else 0) = 0 := by rw [e]; rfl
theorem c_tfJ37 (h1 : I 5 1 = iN room) (h3 : I 5 3 = iN t) (b1 : room < 100) (b2 : l < 100) (b3 : t < 100) (hch : ch < 256) {v x : Int32} (hv : x + v = iN l) :
    ∃ I', fX9_takesFirst_J37 5 (iN ch) v x 5 (encC I A L pr ot T) = some ((if l ≤ room ∧ t + 1 ≤ 3 ∧ 97 ≤ ch ∧ ch < 101 then 1 else 0), (encC I' A L pr ot T)) ∧ frF1 5 I I' ∧ I' 5 1 = iN room ∧ I' 5 2 = iN l ∧ I' 5 3 = iN (t + 1) ∧ I' 5 4 = iN 1 := by
  refine ⟨u2 (u2 (u2 I 5 2 (iN l)) 5 3 (iN (t + 1))) 5 4 1, ?_, fun x k h => ((u2_o (by omega)).trans (u2_o (by omega))).trans (u2_o (by omega)), (((u2_o (by omega)).trans (u2_o (by omega))).trans (u2_o (by omega))).trans h1, ((u2_o (by omega)).trans (u2_o (by omega))).trans u2_at, (u2_o (by omega)).trans u2_at, u2_at⟩
  unfold fX9_takesFirst_J37
  rw [bW_5_2, hv, bG_5_3, u2_o (by omega), h3, show iN t + (1 : Int32) = iN (t + 1) from iN_add, bW_5_3, bW_5_4, bG_5_2, u2_o (by omega), u2_o (by omega), u2_at, bG_5_1, u2_o (by omega), u2_o (by omega), u2_o (by omega), h1]
  by_cases c1 : l ≤ room
  · rw [if_neg (show ¬ iN room < iN l by rw [iN_lt (by omega) (by omega)]; omega), bG_5_3, u2_o (by omega), u2_at]
    by_cases c2 : t + 1 ≤ 3
    · rw [if_neg (show ¬ (3 : Int32) < iN (t + 1) by rw [show (3 : Int32) = iN 3 from rfl, iN_lt (by omega) (by omega)]; omega)]
      by_cases c3 : 97 ≤ ch ∧ ch < 101
      · rw [hb_of (show fX11_within (iN ch) (97 : Int32) (100 : Int32) _ = _ from within_y c3.1 (show ch ≤ 100 by omega) (by decide)), if_neg (by decide), h_z1, if_pos ⟨c1, c2, c3⟩]
      · rw [hb_of (show fX11_within (iN ch) (97 : Int32) (100 : Int32) _ = some (0, _) from within_n (fun e => c3 (by
          rw [show (97 : Int32) = iN 97 from rfl, show (100 : Int32) = iN 100 from rfl, iN_le (by omega) (by omega), iN_le (by omega) (by omega)] at e
          omega))), if_pos rfl, h_z0, if_neg (fun e => c3 e.2.2)]
    · rw [if_pos (show (3 : Int32) < iN (t + 1) by rw [show (3 : Int32) = iN 3 from rfl, iN_lt (by omega) (by omega)]; omega), h_z0, if_neg (fun e => c2 e.2.1)]
  · rw [if_pos (show iN room < iN l by rw [iN_lt (by omega) (by omega)]; omega), h_z0, if_neg (fun e => c1 e.1)]
theorem c_takesW (h1 : I 5 1 = iN room) (h2 : I 5 2 = iN l) (h3 : I 5 3 = iN t) (h4 : I 5 4 = iN q) (b1 : room < 99) (b2 : l < 99) (b3 : t < 99) (b4 : q < 3) (hch : ch < 256) :
    ∃ I', fX9_takes 5 (iN ch) (encC I A L pr ot T) = some ((if (tkW room (l, t, q) ch).isSome then 1 else 0), (encC I' A L pr ot T)) ∧ frF1 5 I I' ∧ I' 5 1 = iN room ∧ ∀ s', tkW room (l, t, q) ch = some s' → I' 5 2 = iN s'.1 ∧ I' 5 3 = iN s'.2.1 ∧ I' 5 4 = iN s'.2.2 := by
  unfold fX9_takes
  rw [bG_5_4, h4]
  by_cases c0 : q = 0
  · subst c0
    rw [if_pos (show iN 0 = 0 from rfl), bK_5]
    unfold fX9_takesFirst
    rw [bG_5_3, h3]
    have j20 : t = 0 ∨ ch ≠ 59 → ∃ I', fX9_takesFirst_J20 5 (iN ch) (encC I A L pr ot T) = some ((if (tkW room (l, t, 0) ch).isSome then 1 else 0), (encC I' A L pr ot T)) ∧ frF1 5 I I' ∧ I' 5 1 = iN room ∧ ∀ s', tkW room (l, t, 0) ch = some s' → I' 5 2 = iN s'.1 ∧ I' 5 3 = iN s'.2.1 ∧ I' 5 4 = iN s'.2.2 := by
      intro hh
      unfold fX9_takesFirst_J20
      rw [bG_5_2, h2, bG_5_3, h3]
      by_cases t0 : t = 0
      · subst t0
        obtain ⟨I', g1, g2, g3, g4, g5, g6⟩ := c_tfJ37 (A := A) (L := L) (pr := pr) (ot := ot) (T := T) (I := I) (l := l + 1) (v := 1) (x := iN l) h1 h3 (by omega) (by omega) (by omega) hch iN_add
        rw [if_pos (show iN 0 = 0 from rfl), g1]
        refine ⟨I', ?_, g2, g3, fun s' e => ?_⟩
        · rw [tkW_0]
          by_cases d : l + 1 ≤ room ∧ 97 ≤ ch ∧ ch < 101
          · rw [if_pos (show l + 1 ≤ room ∧ 0 + 1 ≤ 3 ∧ 97 ≤ ch ∧ ch < 101 from ⟨d.1, by decide, d.2⟩), yesW (if_pos d)]
          · rw [if_neg (show ¬ (l + 1 ≤ room ∧ 0 + 1 ≤ 3 ∧ 97 ≤ ch ∧ ch < 101) from fun f => d ⟨f.1, f.2.2⟩), noW (if_neg d)]
        · rw [tkW_0] at e
          split at e
          · cases e; exact ⟨g4, g5, g6⟩
          · cases e
      · have h59 : ch ≠ 59 := hh.resolve_left t0
        obtain ⟨I', g1, g2, g3, g4, g5, g6⟩ := c_tfJ37 (A := A) (L := L) (pr := pr) (ot := ot) (T := T) (I := I) (l := l) (v := 0) (x := iN l) h1 h3 (by omega) (by omega) (by omega) hch (iN_add (b := 0))
        rw [if_neg (show ¬ iN t = 0 by rw [show (0 : Int32) = iN 0 from rfl, iN_eq (by omega) (by omega)]; exact t0), g1]
        refine ⟨I', ?_, g2, g3, fun s' e => ?_⟩
        · rw [tkW_t (by omega), if_neg h59]
          by_cases d : l ≤ room ∧ t + 1 ≤ 3 ∧ 97 ≤ ch ∧ ch < 101
          · rw [if_pos d, yesW (if_pos d)]
          · rw [if_neg d, noW (if_neg d)]
        · rw [tkW_t (by omega), if_neg h59] at e
          split at e
          · cases e; exact ⟨g4, g5, g6⟩
          · cases e
    have wrap : ∀ {f : Option (Int32 × PH)}, (∃ I', f = some ((if (tkW room (l, t, 0) ch).isSome then 1 else 0), (encC I' A L pr ot T)) ∧ frF1 5 I I' ∧ I' 5 1 = iN room ∧ ∀ s', tkW room (l, t, 0) ch = some s' → I' 5 2 = iN s'.1 ∧ I' 5 3 = iN s'.2.1 ∧ I' 5 4 = iN s'.2.2) → ∃ I', (h_bd f fun x7 h8 => h_z x7 (some (x7, h8))) = some ((if (tkW room (l, t, 0) ch).isSome then 1 else 0), (encC I' A L pr ot T)) ∧ frF1 5 I I' ∧ I' 5 1 = iN room ∧ ∀ s', tkW room (l, t, 0) ch = some s' → I' 5 2 = iN s'.1 ∧ I' 5 3 = iN s'.2.1 ∧ I' 5 4 = iN s'.2.2 := by
      rintro f ⟨I', g1, g2⟩
      refine ⟨I', ?_, g2⟩
      rw [g1, hb_some]
      split
      · exact h_z1
      · exact h_z0
    by_cases t0 : t = 0
    · rw [if_pos (show iN t ≤ 0 by rw [show (0 : Int32) = iN 0 from rfl, iN_le (by omega) (by omega)]; omega)]
      exact wrap (j20 (Or.inl t0))
    · rw [if_neg (show ¬ iN t ≤ 0 by rw [show (0 : Int32) = iN 0 from rfl, iN_le (by omega) (by omega)]; omega)]
      by_cases c59 : ch = 59
      · have et : tkW room (l, t, 0) ch = some (l, 0, 0) := by rw [tkW_t (by omega), if_pos c59]
        rw [if_pos (show iN ch = 59 by rw [c59]; rfl), bW_5_3]
        refine wrap ⟨u2 I 5 3 0, by rw [yesW et, h_z1], fun x k h => u2_o (by omega), (u2_o (by omega)).trans h1, fun s' e => ?_⟩
        rw [et] at e
        cases e
        exact ⟨(u2_o (by omega)).trans h2, u2_at, (u2_o (by omega)).trans h4⟩
      · rw [if_neg (show ¬ iN ch = 59 by rw [show (59 : Int32) = iN 59 from rfl, iN_eq (by omega) (by omega)]; exact c59)]
        exact wrap (j20 (Or.inr c59))
  · rw [if_neg (show ¬ iN q = 0 by rw [show (0 : Int32) = iN 0 from rfl, iN_eq (by omega) (by omega)]; exact c0), bG_5_4, h4]
    by_cases c1 : q = 1
    · subst c1
      rw [if_pos (show iN 1 = 1 from rfl), bW_5_4]
      refine ⟨u2 I 5 4 2, ?_, fun x k h => u2_o (by omega), (u2_o (by omega)).trans h1, fun s' e => ?_⟩
      · rw [tkW_1]
        unfold fX9_takes_J38
        by_cases d60 : ch = 60
        · rw [if_pos (show iN ch = 60 by rw [d60]; rfl), h_z1, yesW (if_pos (Or.inl d60))]
        · rw [if_neg (show ¬ iN ch = 60 by rw [show (60 : Int32) = iN 60 from rfl, iN_eq (by omega) (by omega)]; exact d60)]
          by_cases d62 : ch = 62
          · rw [if_pos (show iN ch = 62 by rw [d62]; rfl), h_z1, yesW (if_pos (Or.inr d62))]
          · rw [if_neg (show ¬ iN ch = 62 by rw [show (62 : Int32) = iN 62 from rfl, iN_eq (by omega) (by omega)]; exact d62), h_z0, noW (if_neg (by omega))]
      · rw [tkW_1] at e
        split at e
        · cases e
          exact ⟨(u2_o (by omega)).trans h2, (u2_o (by omega)).trans h3, u2_at⟩
        · cases e
    · cases (show q = 2 by omega)
      rw [if_neg (show ¬ iN 2 = 1 by decide), bW_5_4, hb_of (isDig hch)]
      refine ⟨u2 I 5 4 0, ?_, fun x k h => u2_o (by omega), (u2_o (by omega)).trans h1, fun s' e => ?_⟩
      · rw [tkW_2]
        by_cases d : 48 ≤ ch ∧ ch < 58
        · rw [if_pos d, h_z1, yesW (if_pos d)]
        · rw [if_neg d, h_z0, noW (if_neg d)]
      · rw [tkW_2] at e
        split at e
        · cases e
          exact ⟨(u2_o (by omega)).trans h2, (u2_o (by omega)).trans h3, u2_at⟩
        · cases e
theorem tkW_le {s s' : Nat × Nat × Nat} (h : tkW room s ch = some s') (hb : s.1 ≤ room ∧ s.2.1 ≤ 3 ∧ s.2.2 < 3) : s'.1 ≤ room ∧ s'.2.1 ≤ 3 ∧ s'.2.2 < 3 := by
  obtain ⟨l, t, q⟩ := s
  dsimp only at hb
  by_cases q0 : q = 0
  · subst q0
    by_cases t0 : t = 0
    · subst t0
      rw [tkW_0] at h
      split at h
      · rename_i e; cases h; exact ⟨e.1, by dsimp only; omega, by dsimp only; omega⟩
      · cases h
    · rw [tkW_t (by omega)] at h
      split at h
      · cases h; exact ⟨hb.1, Nat.zero_le _, by dsimp only; omega⟩
      · split at h
        · rename_i e; cases h; exact ⟨e.1, e.2.1, by dsimp only; omega⟩
        · cases h
  · by_cases q1 : q = 1
    · subst q1
      rw [tkW_1] at h
      split at h
      · cases h; exact ⟨hb.1, hb.2.1, by dsimp only; omega⟩
      · cases h
    · cases (show q = 2 by omega)
      rw [tkW_2] at h
      split at h
      · cases h; exact ⟨hb.1, hb.2.1, by dsimp only; omega⟩
      · cases h
theorem c_slipW (hm : I 5 0 = iN 59) (b3 : room < 90) (h1 : I 1 1 = iN n) (hn : n ≤ 80) (hc : ∀ k, k < n → c k < 256 ∧ A 2 k = iN (c k)) :
    ∃ I', fX1_slip_X9 5 1 (iN room) (encC I A L pr ot T) = some (wQ (slF (tkW room) mayW n 59 c (min n 59) (0, 0, 0) 0).1, (encC I' A L pr ot T)) ∧ frF1 5 I I' ∧ ((slF (tkW room) mayW n 59 c (min n 59) (0, 0, 0) 0).1 = none → I' 5 2 = iN (slF (tkW room) mayW n 59 c (min n 59) (0, 0, 0) 0).2.1) := by
  obtain ⟨I0, hI0⟩ : ∃ I0, I0 = u2 (u2 (u2 (u2 I 5 1 (iN room)) 5 2 0) 5 3 0) 5 4 0 := ⟨_, rfl⟩
  have fr0 : frF1 5 I I0 := fun x k h => by rw [hI0, u2_o (by omega), u2_o (by omega), u2_o (by omega), u2_o (by omega)]
  have ne1 : ∀ {I' : Nat → Nat → Int32}, frF1 5 I I' → I' 1 1 = iN n := fun f => (f 1 1 (by omega)).trans h1
  have ne0 : ∀ {I' : Nat → Nat → Int32}, frF1 5 I I' → I' 5 0 = iN 59 := fun f => (f 5 0 (by omega)).trans hm
  obtain ⟨h', k1, k2, k3⟩ := slip_lp (tk := tkW room) (may := mayW) (n := n) (most := 59) (c := c) (fX1_slip_X9_L13 5 1 (iN n) (fun h4 => (h_gi 8 0 h4 5).bind fun x5 => if (iN n) ≤ x5 then ((h_ck 8 h4 5).bind fun _ => h_bd (fX9_mayEnd 5 h4) fun x6 h7 => if x6 = 0 then (some ((iN n), h7)) else (some ((-1 : Int32), h7))) else ((h_gi 8 0 h4 5).bind fun x8 => some (x8, h4)))) (fun s h => ∃ I', h = (encC I' A L pr ot T) ∧ frF1 5 I I' ∧ I' 5 1 = iN room ∧ I' 5 2 = iN s.1 ∧ I' 5 3 = iN s.2.1 ∧ I' 5 4 = iN s.2.2 ∧ s.1 ≤ room ∧ s.2.1 ≤ 3 ∧ s.2.2 < 3) (fun h => ∃ I', h = (encC I' A L pr ot T) ∧ frF1 5 I I')
    (fun k s h hk ⟨I1, e0, e1, e2, e3, e4, e5, e6⟩ => by
      subst e0
      obtain ⟨l, t, q⟩ := s
      dsimp only at *
      have hck := hc k (by omega)
      have hat : fX7_at 1 (iN k) (encC I1 A L pr ot T) = some (iN (c k), (encC I1 A L pr ot T)) := by
        rw [c_at (ne1 e1) hn (fun k hk => (hc k hk).2) (by omega)]
        unfold hrV
        rw [if_pos ⟨by omega, by omega⟩]
      obtain ⟨I2, t1, t2, t4, t3⟩ := c_takesW (L := L) (pr := pr) (ot := ot) (T := T) (A := A) (room := room) (l := l) (t := t) (q := q) (ch := c k) e2 e3 e4 e5 (by omega) (by omega) (by omega) e6.2.2 hck.1
      have fr2 : frF1 5 I I2 := fun x k h => (t2 x k h).trans (e1 x k h)
      have g1 : ¬ (iN n ≤ iN k) := by rw [iN_le (by omega) (by omega)]; omega
      have g2 : ¬ (iN 59 ≤ iN k) := by rw [iN_le (by omega) (by omega)]; omega
      refine ⟨fun e => ⟨(encC I2 A L pr ot T), ⟨I2, rfl, fr2⟩, fun m => ?_⟩, fun s' e => ⟨(encC I2 A L pr ot T), ⟨I2, rfl, fr2, t4, (t3 s' e).1, (t3 s' e).2.1, (t3 s' e).2.2, tkW_le e e6⟩, fun m => ?_⟩⟩
      · rw [e] at t1
        rw [fX1_slip_X9_L13, if_neg g1, bG_5_0, ne0 e1, if_neg g2, bK_1, hb_of hat, bK_5, hb_of t1]
        rfl
      · rw [e] at t1
        rw [fX1_slip_X9_L13, if_neg g1, bG_5_0, ne0 e1, if_neg g2, bK_1, hb_of hat, bK_5, hb_of t1]
        rw [show (if (some s').isSome then (1 : Int32) else 0) = 1 from rfl, if_neg (by decide), letE_eq, show iN k + (1 : Int32) = iN (k + 1) from iN_add])
    (fun s h ⟨I1, e0, e1, e2, e3, e4, e5, e6⟩ => by
      subst e0
      obtain ⟨l, t, q⟩ := s
      dsimp only at *
      refine ⟨(encC I1 A L pr ot T), ⟨I1, rfl, e1, e2, e3, e4, e5, e6⟩, fun m => ?_⟩
      have st : fX1_slip_X9_L13 5 1 (iN n) (fun h4 => (h_gi 8 0 h4 5).bind fun x5 => if (iN n) ≤ x5 then ((h_ck 8 h4 5).bind fun _ => h_bd (fX9_mayEnd 5 h4) fun x6 h7 => if x6 = 0 then (some ((iN n), h7)) else (some ((-1 : Int32), h7))) else ((h_gi 8 0 h4 5).bind fun x8 => some (x8, h4))) (m + 1) (iN (min n 59)) (encC I1 A L pr ot T) = if (iN n) ≤ iN 59 then ((h_ck 8 (encC I1 A L pr ot T) 5).bind fun _ => h_bd (fX9_mayEnd 5 (encC I1 A L pr ot T)) fun x6 h7 => if x6 = 0 then (some ((iN n), h7)) else (some ((-1 : Int32), h7))) else (some (iN 59, (encC I1 A L pr ot T))) := by
        rw [fX1_slip_X9_L13]
        by_cases d : n ≤ 59
        · rw [if_pos (by rw [iN_le (by omega) (by omega)]; omega), bG_5_0, ne0 e1]
          by_cases d2 : iN n ≤ iN 59
          · rw [if_pos d2, if_pos d2]
          · rw [if_neg d2, if_neg d2, bG_5_0, ne0 e1]
        · rw [if_neg (by rw [iN_le (by omega) (by omega)]; omega), bG_5_0, ne0 e1, if_pos (by rw [iN_le (by omega) (by omega)]; omega), bG_5_0, ne0 e1]
          by_cases d2 : iN n ≤ iN 59
          · rw [if_pos d2, if_pos d2]
          · rw [if_neg d2, if_neg d2, bG_5_0, ne0 e1]
      rw [st]
      by_cases d : n ≤ 59
      · rw [if_pos (by rw [iN_le (by omega) (by omega)]; exact d), bK_5]
        unfold fX9_mayEnd
        rw [bG_5_4, e5]
        by_cases d2 : q = 0
        · rw [if_pos (show iN q = 0 by rw [d2]; rfl), bG_5_3, e4]
          by_cases d3 : t = 0
          · rw [if_pos (show iN t ≤ 0 by rw [d3]; decide), h_z0, hb_some, if_pos rfl, if_neg (fun x => by have := of_decide_eq_true x.2; dsimp only at this; omega), show min n 59 = n by omega]
            rfl
          · rw [if_neg (show ¬ iN t ≤ 0 by rw [show (0 : Int32) = iN 0 from rfl, iN_le (by omega) (by omega)]; omega), h_z1, hb_some, if_neg (by decide), if_pos ⟨d, by unfold mayW; exact decide_eq_true ⟨d2, by dsimp only; omega⟩⟩]
            rfl
        · rw [if_neg (show ¬ iN q = 0 by rw [show (0 : Int32) = iN 0 from rfl, iN_eq (by omega) (by omega)]; exact d2), h_z0, hb_some, if_pos rfl, if_neg (fun x => d2 (of_decide_eq_true x.2).1), show min n 59 = n by omega]
          rfl
      · rw [if_neg (by rw [iN_le (by omega) (by omega)]; exact d), if_neg (fun x => d x.1), show min n 59 = 59 by omega]
        rfl)
    (fun s h ⟨I1, e0, e1, _⟩ => ⟨I1, e0, e1⟩)
    (min n 59) 0 (0, 0, 0) (encC I0 A L pr ot T) (by omega) ⟨I0, rfl, fr0, by rw [hI0, u2_o (by omega), u2_o (by omega), u2_o (by omega), u2_at], by rw [hI0, u2_o (by omega), u2_o (by omega), u2_at]; rfl, by rw [hI0, u2_o (by omega), u2_at]; rfl, by rw [hI0, u2_at]; rfl, Nat.zero_le _, Nat.zero_le _, by decide⟩
  obtain ⟨I1, rfl, e1⟩ := k2
  refine ⟨I1, ?_, e1, fun e => ?_⟩
  · unfold fX1_slip_X9 fX9_begin
    rw [bK_5, bW_5_1, bW_5_2, bW_5_3, bW_5_4, hb_some, bK_1, hb_of c_sizeT]
    have hs1 : (u2 (u2 (u2 (u2 I 5 1 (iN room)) 5 2 0) 5 3 0) 5 4 0) 1 1 = iN n := by rw [← hI0]; exact ne1 fr0
    rw [hs1, ← hI0]
    exact k1 FU (by unfold FU; omega)
  · obtain ⟨I2, q0, q1, q2, q3, -⟩ := k3 e
    have : I1 5 2 = I2 5 2 := by
      have := congrArg (fun h => (h_gi 8 2 h 5).bind fun x => some (x, h)) q0
      rw [bG_5_2, bG_5_2] at this
      exact congrArg (fun q => (q.getD (0, [])).1) this
    rw [this]
    exact q3
end WF
