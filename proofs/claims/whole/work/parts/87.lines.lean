/-! LINES of digits: the class's form, sign by sign -/
def tkL (w da room : Nat) (s : Nat × Nat) (ch : Nat) : Option (Nat × Nat) :=
  if s.2 = w then (if ch = 59 then some (s.1, 0) else none)
  else if s.2 = 0 then (if s.1 + 1 ≤ room ∧ 49 ≤ ch ∧ ch < 58 then some (s.1 + 1, 1) else none)
  else if (48 ≤ ch ∧ ch < 58) ∨ (da < s.2 + 1 ∧ ch = 45) then some (s.1, s.2 + 1) else none
def mayL (w : Nat) (s : Nat × Nat) : Bool := decide (s.2 = w)
theorem u2_at {α : Type} {F : Nat → Nat → α} {o k : Nat} {v : α} : u2 F o k v o k = v := by rw [u2_eq, if_pos ⟨rfl, rfl⟩]
theorem u2_o {α : Type} {F : Nat → Nat → α} {o k o' k' : Nat} {v : α} (h : ¬ (o' = o ∧ k' = k)) : u2 F o k v o' k' = F o' k' := by rw [u2_eq, if_neg h]
theorem u1_at {α : Type} {F : Nat → α} {o : Nat} {v : α} : u1 F o v o = v := by rw [u1_eq, if_pos rfl]
theorem u1_o {α : Type} {F : Nat → α} {o o' : Nat} {v : α} (h : o' ≠ o) : u1 F o v o' = F o' := by rw [u1_eq, if_neg h]
section LF
variable {I A E I' A' : Nat → Nat → Int32} {L L' : Nat → Int64} {pr ot s : Nat} {J J' : Nat → Int32} {B B' : Nat → Nat → Int32} {M M' : Nat → Int64} {rdv rdv' : Value} {ru : Nat} {T : PH} {G P W n top fi mn w da room most o : Nat} {c : Nat → Nat} {st : RSt} {l col ch : Nat}
theorem isDig {h : PH} (hc : ch < 256) : fX11_isDigit (iN ch) h = some ((if 48 ≤ ch ∧ ch < 58 then 1 else 0), h) := by
  unfold fX11_isDigit
  by_cases d : 48 ≤ ch ∧ ch < 58
  · rw [if_pos d, hb_of (show fX11_within (iN ch) (48 : Int32) (57 : Int32) h = _ from within_y d.1 (show ch ≤ 57 by omega) (by decide)), h_z1]
  · rw [if_neg d, hb_of (show fX11_within (iN ch) (48 : Int32) (57 : Int32) h = some (0, h) from within_n (fun e => d (by
      rw [show (48 : Int32) = iN 48 from rfl, show (57 : Int32) = iN 57 from rfl, iN_le (by omega) (by omega), iN_le (by omega) (by omega)] at e
      omega))), h_z0]
/-- the form's own fields are all that change -/
def frF (o : Nat) (I I' : Nat → Nat → Int32) : Prop := ∀ x k, ¬ (x = o ∧ 3 ≤ k) → I' x k = I x k
theorem c_takesL (ho : o = 3 ∨ o = 4) (hw : I o 1 = iN w) (hd : I o 2 = iN da) (hr : I o 3 = iN room) (h4 : I o 4 = iN l) (h5 : I o 5 = iN col) (b1 : w < 100) (b2 : da < 100) (b3 : room < 100) (b4 : l < 100) (b5 : col < 100) (hw0 : 0 < w) (hch : ch < 256) :
    ∃ I', fX2_takes o (iN ch) (encC I A L pr ot T) = some ((if (tkL w da room (l, col) ch).isSome then 1 else 0), (encC I' A L pr ot T)) ∧ frF o I I' ∧ I' o 3 = iN room ∧ ∀ s', tkL w da room (l, col) ch = some s' → I' o 4 = iN s'.1 ∧ I' o 5 = iN s'.2 := by
  have eK : ∀ {I : Nat → Nat → Int32} {β : Type} {f : Int32 → Option β} (k : Nat), k < 6 → (h_gi 1 k (encC I A L pr ot T) o).bind f = f (I o k) := by
    intro I β f k hk
    rcases ho with rfl | rfl <;> (match k, hk with
      | 0, _ => rfl
      | 1, _ => rfl
      | 2, _ => rfl
      | 3, _ => rfl
      | 4, _ => rfl
      | 5, _ => rfl)
  have eW : ∀ {I : Nat → Nat → Int32} {β : Type} {f : PH → Option β} (k : Nat) (v : Int32), 3 ≤ k → k < 6 → (h_pv 1 k (encC I A L pr ot T) o (.int v)).bind f = f (encC (u2 I o k v) A L pr ot T) := by
    intro I β f k v h3 hk
    rcases ho with rfl | rfl <;> (match k, h3, hk with
      | 3, _, _ => rfl
      | 4, _, _ => rfl
      | 5, _, _ => rfl)
  have ew : col = w → tkL w da room (l, col) ch = if ch = 59 then some (l, 0) else none := fun e => if_pos e
  have e0 : col = 0 → tkL w da room (l, col) ch = if l + 1 ≤ room ∧ 49 ≤ ch ∧ ch < 58 then some (l + 1, 1) else none := fun e => (if_neg (show ¬ col = w by omega)).trans (if_pos e)
  have em : col ≠ w → col ≠ 0 → tkL w da room (l, col) ch = if (48 ≤ ch ∧ ch < 58) ∨ (da < col + 1 ∧ ch = 45) then some (l, col + 1) else none := fun e f => (if_neg e).trans (if_neg f)
  have yes : ∀ {x : Option (Nat × Nat)} {y : Nat × Nat}, x = some y → (if x.isSome then (1 : Int32) else 0) = 1 := fun e => by rw [e]; rfl
  have no : ∀ {x : Option (Nat × Nat)}, x = none → (if x.isSome then (1 : Int32) else 0) = 0 := fun e => by rw [e]; rfl
  unfold fX2_takes
  rw [eK 5 (by decide), eK 1 (by decide), h5, hw]
  by_cases c1 : col = w
  · have et := ew c1
    rw [if_pos (show iN col = iN w by rw [c1]), eW 5 _ (by decide) (by decide)]
    refine ⟨u2 I o 5 0, ?_, fun x k h => u2_o (by omega), (u2_o (by omega)).trans hr, ?_⟩
    · by_cases c2 : ch = 59
      · rw [if_pos c2] at et
        rw [yes et, if_pos (show iN ch = 59 by rw [c2]; rfl), h_z1]
      · rw [if_neg c2] at et
        rw [no et, if_neg (show ¬ iN ch = 59 by rw [show (59 : Int32) = iN 59 from rfl, iN_eq (by omega) (by omega)]; exact c2), h_z0]
    · intro s' e
      rw [et] at e
      split at e
      · cases e
        exact ⟨(u2_o (by omega)).trans h4, u2_at⟩
      · cases e
  · rw [if_neg (show ¬ iN col = iN w by rw [iN_eq (by omega) (by omega)]; exact c1), eK 5 (by decide), h5, show iN col + (1 : Int32) = iN (col + 1) from iN_add, eW 5 _ (by decide) (by decide), eK 5 (by decide), u2_at]
    by_cases c2 : col = 0
    · have et := e0 c2
      subst c2
      rw [if_pos (show iN (0 + 1) = (1 : Int32) from rfl), eK 4 (by decide), u2_o (by omega), h4, show iN l + (1 : Int32) = iN (l + 1) from iN_add, eW 4 _ (by decide) (by decide), eK 4 (by decide), u2_at, eK 3 (by decide), u2_o (by omega), u2_o (by omega), hr]
      refine ⟨u2 (u2 I o 5 (iN (0 + 1))) o 4 (iN (l + 1)), ?_, fun x k h => (u2_o (by omega)).trans (u2_o (by omega)), ((u2_o (by omega)).trans (u2_o (by omega))).trans hr, ?_⟩
      · by_cases c3 : l + 1 ≤ room
        · rw [if_neg (show ¬ iN room < iN (l + 1) by rw [iN_lt (by omega) (by omega)]; omega), hb_of (isDig hch)]
          by_cases c4 : 48 ≤ ch ∧ ch < 58
          · rw [if_pos c4, if_neg (by decide)]
            by_cases c5 : ch = 48
            · rw [if_neg (by omega)] at et
              rw [no et, if_pos (show iN ch = 48 by rw [c5]; rfl), h_z0]
            · rw [if_pos (by omega)] at et
              rw [yes et, if_neg (show ¬ iN ch = 48 by rw [show (48 : Int32) = iN 48 from rfl, iN_eq (by omega) (by omega)]; exact c5), h_z1]
          · rw [if_neg (by omega)] at et
            rw [no et, if_neg c4, if_pos rfl, h_z0]
        · rw [if_neg (by omega)] at et
          rw [no et, if_pos (show iN room < iN (l + 1) by rw [iN_lt (by omega) (by omega)]; omega), h_z0]
      · intro s' e
        rw [et] at e
        split at e
        · cases e
          exact ⟨u2_at, (u2_o (by omega)).trans u2_at⟩
        · cases e
    · have et := em c1 c2
      rw [if_neg (show ¬ iN (col + 1) = 1 by rw [show (1 : Int32) = iN 1 from rfl, iN_eq (by omega) (by omega)]; omega), hb_of (isDig hch)]
      refine ⟨u2 I o 5 (iN (col + 1)), ?_, fun x k h => u2_o (by omega), (u2_o (by omega)).trans hr, ?_⟩
      · by_cases c3 : 48 ≤ ch ∧ ch < 58
        · rw [if_pos (Or.inl c3)] at et
          rw [yes et, if_pos c3, if_neg (by decide)]
          unfold fX2_takes_J110
          rw [h_z1]
        · rw [if_neg c3, if_pos rfl, eK 5 (by decide), u2_at, eK 2 (by decide), u2_o (by omega), hd]
          by_cases c4 : da < col + 1
          · rw [if_neg (show ¬ iN (col + 1) ≤ iN da by rw [iN_le (by omega) (by omega)]; omega)]
            by_cases c5 : ch = 45
            · rw [if_pos (Or.inr ⟨c4, c5⟩)] at et
              rw [yes et, if_pos (show iN ch = 45 by rw [c5]; rfl)]
              unfold fX2_takes_J110
              rw [h_z1]
            · rw [if_neg (by omega)] at et
              rw [no et, if_neg (show ¬ iN ch = 45 by rw [show (45 : Int32) = iN 45 from rfl, iN_eq (by omega) (by omega)]; exact c5), h_z0]
          · rw [if_neg (by omega)] at et
            rw [no et, if_pos (show iN (col + 1) ≤ iN da by rw [iN_le (by omega) (by omega)]; omega), h_z0]
      · intro s' e
        rw [et] at e
        split at e
        · cases e
          exact ⟨(u2_o (by omega)).trans h4, u2_at⟩
        · cases e
theorem tkL_le {s s' : Nat × Nat} (h : tkL w da room s ch = some s') (hb : s.1 ≤ room) : s'.1 ≤ room := by
  unfold tkL at h
  split at h
  · split at h <;> cases h; exact hb
  · split at h
    · split at h
      · rename_i e; cases h; exact e.1
      · cases h
    · split at h <;> cases h; exact hb
theorem tkL_col {s s' : Nat × Nat} (h : tkL w da room s ch = some s') (hb : s.2 ≤ w) (hw0 : 0 < w) : s'.2 ≤ w := by
  unfold tkL at h
  split at h
  · split at h <;> cases h; exact Nat.zero_le _
  · split at h
    · split at h
      · cases h; exact hw0
      · cases h
    · split at h <;> cases h
      show s.2 + 1 ≤ w
      omega
theorem c_slipL (ho : o = 3 ∨ o = 4) (hm : I o 0 = iN most) (hw : I o 1 = iN w) (hd : I o 2 = iN da) (b0 : most < 100) (b1 : w < 100) (b2 : da < 100) (b3 : room < 100) (hw0 : 0 < w) (h1 : I 1 1 = iN n) (hn : n ≤ 80) (hc : ∀ k, k < n → c k < 256 ∧ A 2 k = iN (c k)) :
    ∃ I', fX1_slip_X2 o 1 (iN room) (encC I A L pr ot T) = some (wQ (slF (tkL w da room) (mayL w) n most c (min n most) (0, 0) 0).1, (encC I' A L pr ot T)) ∧ frF o I I' ∧ ((slF (tkL w da room) (mayL w) n most c (min n most) (0, 0) 0).1 = none → I' o 4 = iN (slF (tkL w da room) (mayL w) n most c (min n most) (0, 0) 0).2.1) := by
  have eK : ∀ {I : Nat → Nat → Int32} {β : Type} {f : Int32 → Option β} (k : Nat), k < 6 → (h_gi 1 k (encC I A L pr ot T) o).bind f = f (I o k) := by
    intro I β f k hk
    rcases ho with rfl | rfl <;> (match k, hk with
      | 0, _ => rfl
      | 1, _ => rfl
      | 2, _ => rfl
      | 3, _ => rfl
      | 4, _ => rfl
      | 5, _ => rfl)
  have eW : ∀ {I : Nat → Nat → Int32} {β : Type} {f : PH → Option β} (k : Nat) (v : Int32), 3 ≤ k → k < 6 → (h_pv 1 k (encC I A L pr ot T) o (.int v)).bind f = f (encC (u2 I o k v) A L pr ot T) := by
    intro I β f k v h3 hk
    rcases ho with rfl | rfl <;> (match k, h3, hk with
      | 3, _, _ => rfl
      | 4, _, _ => rfl
      | 5, _, _ => rfl)
  have cK : ∀ {I : Nat → Nat → Int32} {β : Type} {f : Unit → Option β}, (h_ck 1 (encC I A L pr ot T) o).bind f = f () := by
    intro I β f
    rcases ho with rfl | rfl <;> rfl
  obtain ⟨I0, hI0⟩ : ∃ I0, I0 = u2 (u2 (u2 I o 3 (iN room)) o 4 0) o 5 0 := ⟨_, rfl⟩
  have fr0 : frF o I I0 := fun x k h => by rw [hI0, u2_eq, if_neg (by omega), u2_eq, if_neg (by omega), u2_eq, if_neg (by omega)]
  have ne1 : ∀ {I' : Nat → Nat → Int32}, frF o I I' → I' 1 1 = iN n := fun f => (f 1 1 (by omega)).trans h1
  obtain ⟨h', k1, k2, k3⟩ := slip_lp (tk := tkL w da room) (may := mayL w) (n := n) (most := most) (c := c) (fX1_slip_X2_L13 o 1 (iN n) (fun h4 => (h_gi 1 0 h4 o).bind fun x5 => if (iN n) ≤ x5 then ((h_ck 1 h4 o).bind fun _ => h_bd (fX2_mayEnd o h4) fun x6 h7 => if x6 = 0 then (some ((iN n), h7)) else (some ((-1 : Int32), h7))) else ((h_gi 1 0 h4 o).bind fun x8 => some (x8, h4)))) (fun s h => ∃ I', h = (encC I' A L pr ot T) ∧ frF o I I' ∧ I' o 3 = iN room ∧ I' o 4 = iN s.1 ∧ I' o 5 = iN s.2 ∧ s.1 ≤ room ∧ s.2 ≤ w) (fun h => ∃ I', h = (encC I' A L pr ot T) ∧ frF o I I')
    (fun k s h hk ⟨I1, e0, e1, e2, e3, e4, e5, e6⟩ => by
      subst e0
      obtain ⟨l, col⟩ := s
      dsimp only at *
      have hck := hc k (by omega)
      have hat : fX7_at 1 (iN k) (encC I1 A L pr ot T) = some (iN (c k), (encC I1 A L pr ot T)) := by
        rw [c_at (ne1 e1) hn (fun k hk => (hc k hk).2) (by omega)]
        unfold hrV
        rw [if_pos ⟨by omega, by omega⟩]
      obtain ⟨I2, t1, t2, t4, t3⟩ := c_takesL (L := L) (pr := pr) (ot := ot) (T := T) (A := A) (w := w) (da := da) (room := room) (l := l) (col := col) (ch := c k) ho ((e1 o 1 (by omega)).trans hw) ((e1 o 2 (by omega)).trans hd) e2 e3 e4 b1 b2 b3 (by omega) (by omega) hw0 hck.1
      have fr2 : frF o I I2 := fun x k h => (t2 x k h).trans (e1 x k h)
      have g1 : ¬ (iN n ≤ iN k) := by rw [iN_le (by omega) (by omega)]; omega
      have g2 : ¬ (iN most ≤ iN k) := by rw [iN_le (by omega) (by omega)]; omega
      refine ⟨fun e => ⟨(encC I2 A L pr ot T), ⟨I2, rfl, fr2⟩, fun m => ?_⟩, fun s' e => ⟨(encC I2 A L pr ot T), ⟨I2, rfl, fr2, t4, (t3 s' e).1, (t3 s' e).2, tkL_le e e5, tkL_col e e6 hw0⟩, fun m => ?_⟩⟩
      · rw [e] at t1
        rw [fX1_slip_X2_L13, if_neg g1, eK 0 (by decide), (e1 o 0 (by omega)).trans hm, if_neg g2, bK_1, hb_of hat, cK, hb_of t1]
        rfl
      · rw [e] at t1
        rw [fX1_slip_X2_L13, if_neg g1, eK 0 (by decide), (e1 o 0 (by omega)).trans hm, if_neg g2, bK_1, hb_of hat, cK, hb_of t1]
        rw [show (if (some s').isSome then (1 : Int32) else 0) = 1 from rfl, if_neg (by decide), letE_eq, show iN k + (1 : Int32) = iN (k + 1) from iN_add])
    (fun s h ⟨I1, e0, e1, e2, e3, e4, e5, e6⟩ => by
      subst e0
      obtain ⟨l, col⟩ := s
      dsimp only at *
      refine ⟨(encC I1 A L pr ot T), ⟨I1, rfl, e1, e2, e3, e4, e5, e6⟩, fun m => ?_⟩
      have hm1 := (e1 o 0 (by omega)).trans hm
      have hw1 := (e1 o 1 (by omega)).trans hw
      have st : fX1_slip_X2_L13 o 1 (iN n) (fun h4 => (h_gi 1 0 h4 o).bind fun x5 => if (iN n) ≤ x5 then ((h_ck 1 h4 o).bind fun _ => h_bd (fX2_mayEnd o h4) fun x6 h7 => if x6 = 0 then (some ((iN n), h7)) else (some ((-1 : Int32), h7))) else ((h_gi 1 0 h4 o).bind fun x8 => some (x8, h4))) (m + 1) (iN (min n most)) (encC I1 A L pr ot T) = if (iN n) ≤ iN most then ((h_ck 1 (encC I1 A L pr ot T) o).bind fun _ => h_bd (fX2_mayEnd o (encC I1 A L pr ot T)) fun x6 h7 => if x6 = 0 then (some ((iN n), h7)) else (some ((-1 : Int32), h7))) else (some (iN most, (encC I1 A L pr ot T))) := by
        rw [fX1_slip_X2_L13]
        by_cases d : n ≤ most
        · rw [if_pos (by rw [iN_le (by omega) (by omega)]; omega), eK 0 (by decide), hm1]
          by_cases d2 : iN n ≤ iN most
          · rw [if_pos d2, if_pos d2]
          · rw [if_neg d2, if_neg d2, eK 0 (by decide), hm1]
        · rw [if_neg (by rw [iN_le (by omega) (by omega)]; omega), eK 0 (by decide), hm1, if_pos (by rw [iN_le (by omega) (by omega)]; omega), eK 0 (by decide), hm1]
          by_cases d2 : iN n ≤ iN most
          · rw [if_pos d2, if_pos d2]
          · rw [if_neg d2, if_neg d2, eK 0 (by decide), hm1]
      rw [st]
      by_cases d : n ≤ most
      · rw [if_pos (by rw [iN_le (by omega) (by omega)]; exact d), cK]
        unfold fX2_mayEnd
        rw [eK 5 (by decide), eK 1 (by decide), e4, hw1]
        by_cases d2 : col = w
        · rw [if_pos (by rw [d2]), h_z1, hb_some, if_neg (by decide), if_pos ⟨d, by unfold mayL; exact decide_eq_true d2⟩]
          rfl
        · rw [if_neg (by rw [iN_eq (by omega) (by omega)]; exact d2), h_z0, hb_some, if_pos rfl, if_neg (fun x => d2 (of_decide_eq_true x.2)), show min n most = n by omega]
          rfl
      · rw [if_neg (by rw [iN_le (by omega) (by omega)]; exact d), if_neg (fun x => d x.1), show min n most = most by omega]
        rfl)
    (fun s h ⟨I1, e0, e1, _⟩ => ⟨I1, e0, e1⟩)
    (min n most) 0 (0, 0) (encC I0 A L pr ot T) (by omega) ⟨I0, rfl, fr0, by rw [hI0, u2_eq, if_neg (by omega), u2_eq, if_neg (by omega), u2_eq, if_pos ⟨rfl, rfl⟩], by rw [hI0, u2_eq, if_neg (by omega), u2_eq, if_pos ⟨rfl, rfl⟩]; rfl, by rw [hI0, u2_eq, if_pos ⟨rfl, rfl⟩]; rfl, Nat.zero_le _, Nat.zero_le _⟩
  obtain ⟨I1, rfl, e1⟩ := k2
  refine ⟨I1, ?_, e1, fun e => ?_⟩
  · unfold fX1_slip_X2 fX2_begin
    rw [cK, eW 3 _ (by decide) (by decide), eW 4 _ (by decide) (by decide), eW 5 _ (by decide) (by decide), hb_some, bK_1, hb_of c_sizeT]
    have hs1 : (u2 (u2 (u2 I o 3 (iN room)) o 4 0) o 5 0) 1 1 = iN n := by rw [← hI0]; exact ne1 fr0
    rw [hs1, ← hI0]
    exact k1 FU (by unfold FU; omega)
  · obtain ⟨I2, q0, q1, q2, q3, -⟩ := k3 e
    have : I1 o 4 = I2 o 4 := by
      have := congrArg (fun h => (h_gi 1 4 h o).bind fun x => some (x, h)) q0
      rw [eK 4 (by decide), eK 4 (by decide)] at this
      exact congrArg (fun q => (q.getD (0, [])).1) this
    rw [this]
    exact q3
end LF
