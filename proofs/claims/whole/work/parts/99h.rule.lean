/-! RULE: what waits and what is laid out; a machine that takes sign by sign -/
def rkN (w : Nat) : Nat := if w = 42 ∨ w = 47 then 3 else if w = 43 ∨ w = 45 then 2 else if w = 60 ∨ w = 61 ∨ w = 62 then 1 else if w = 256 then 4 else 0
/-- what waits and binds as closely is laid out -/
def layP (r : Nat) : List Nat → List Int32 → List Int32 × List Nat
  | [], o => (o, [])
  | w :: ws, o => if r ≤ rkN w then layP r ws (-(iN w) :: o) else (o, w :: ws)
def ltN (ch : Nat) : Option Nat := if ch = 118 then some 0 else if ch = 116 then some 1 else if ch = 103 then some 2 else if ch = 101 then some 3 else if ch = 100 then some 4 else if ch = 115 then some 5 else if ch = 110 then some 6 else none
/-- laid out, waiting, in how many brackets, digits, compared, a thing is next -/
abbrev RuS := List Int32 × List Nat × Nat × Nat × (Nat → Bool) × Bool
def tkR (s : RuS) (ch : Nat) : Option RuS :=
  match s with
  | (o, w, p, d, cm, true) =>
    if ch = 45 then some (o, 256 :: w, p, d, cm, true)
    else if ch = 40 then (if p + 1 ≤ 4 then some (o, 40 :: w, p + 1, d, fun i => !(i == p + 1) && cm i, true) else none)
    else if 48 ≤ ch ∧ ch < 58 then some (iN (ch - 48) :: o, w, p, 1, cm, false)
    else (match ltN ch with
      | some l => some (iN (1000 + l) :: o, w, p, d, cm, false)
      | none => none)
  | (o, w, p, d, cm, false) =>
    if 0 < d ∧ 48 ≤ ch ∧ ch < 58 then (match o with
      | [] => none
      | x :: o' => if d + 1 ≤ 3 then some ((x * 10 + iN ch - 48) :: o', w, p, d + 1, cm, false) else none)
    else if ch = 41 then (if p = 0 then none else some ((layP 1 w o).1, (layP 1 w o).2.tail, p - 1, 0, cm, false))
    else if rkN ch = 0 then none
    else if rkN ch = 1 ∧ cm p = true then none
    else some ((layP (rkN ch) w o).1, ch :: (layP (rkN ch) w o).2, p, 0, (if rkN ch = 1 then fun i => (i == p) || cm i else cm), true)
def mayR (s : RuS) : Bool := !s.2.2.2.2.2 && s.2.2.1 == 0
def ruS0 : RuS := ([], [], 0, 0, fun _ => false, true)
section SL
variable {σ : Type} {tk : σ → Nat → Option σ} {may : σ → Bool} {n most fi mn : Nat} {c : Nat → Nat} {s0 s s' : σ} {st : RSt}
/-- as slip_lp, with the place -/
theorem slip_lp2 {H : Type} (F : Nat → Int32 → H → Option (Int32 × H)) (Rel : Nat → σ → H → Prop) (Any : H → Prop)
    (hs : ∀ k s h, k < min n most → Rel k s h → (tk s (c k) = none → ∃ h', Any h' ∧ ∀ m, F (m + 1) (iN k) h = some (iN k, h')) ∧ (∀ s', tk s (c k) = some s' → ∃ h', Rel (k + 1) s' h' ∧ ∀ m, F (m + 1) (iN k) h = F m (iN (k + 1)) h'))
    (he : ∀ s h, Rel (min n most) s h → ∃ h', Rel (min n most) s h' ∧ ∀ m, F (m + 1) (iN (min n most)) h = some (wQ (if n ≤ most ∧ may s = true then none else some (min n most)), h'))
    (hr : ∀ k s h, Rel k s h → Any h) :
    ∀ (d k : Nat) (s : σ) (h : H), k + d = min n most → Rel k s h → ∃ h', (∀ m, d < m → F m (iN k) h = some (wQ (slF tk may n most c d s k).1, h')) ∧ Any h' ∧ ((slF tk may n most c d s k).1 = none → Rel (min n most) (slF tk may n most c d s k).2 h') := by
  intro d
  induction d with
  | zero =>
    intro k s h hk hR
    have ek : k = min n most := by omega
    subst ek
    obtain ⟨h', h1, h2⟩ := he s h hR
    refine ⟨h', fun m hm => ?_, hr _ _ _ h1, fun _ => h1⟩
    obtain ⟨j, rfl⟩ : ∃ j, m = j + 1 := ⟨m - 1, by omega⟩
    exact h2 j
  | succ d ih =>
    intro k s h hk hR
    obtain ⟨h1, h2⟩ := hs k s h (by omega) hR
    cases e : tk s (c k) with
    | none =>
      obtain ⟨h', h3, h4⟩ := h1 e
      have e2 : slF tk may n most c (d + 1) s k = (some k, s) := by
        show (match tk s (c k) with | none => (some k, s) | some s' => slF tk may n most c d s' (k + 1)) = _
        rw [e]
      rw [e2]
      refine ⟨h', fun m hm => ?_, h3, fun d => by cases d⟩
      obtain ⟨j, rfl⟩ : ∃ j, m = j + 1 := ⟨m - 1, by omega⟩
      exact h4 j
    | some s' =>
      obtain ⟨h', h3, h4⟩ := h2 s' e
      have e2 : slF tk may n most c (d + 1) s k = slF tk may n most c d s' (k + 1) := by
        show (match tk s (c k) with | none => (some k, s) | some s' => slF tk may n most c d s' (k + 1)) = _
        rw [e]
      rw [e2]
      obtain ⟨h5, h6, h7, h8⟩ := ih (k + 1) s' h' (by omega) h3
      refine ⟨h5, fun m hm => ?_, h7, h8⟩
      obtain ⟨j, rfl⟩ : ∃ j, m = j + 1 := ⟨m - 1, by omega⟩
      rw [h4 j]
      exact h6 j (by omega)
theorem slF_all : ∀ (d : Nat) (s : σ) (p : Nat), (slF tk may n most c d s p).1 = none → ∀ q, p ≤ q → q < p + d → ∃ x y, tk x (c q) = some y
  | 0, s, p, _, q, h1, h2 => by omega
  | d + 1, s, p, h, q, h1, h2 => by
    change (match tk s (c p) with | none => (some p, s) | some s' => slF tk may n most c d s' (p + 1)).1 = none at h
    cases e : tk s (c p) with
    | none => rw [e] at h; cases h
    | some s' =>
      rw [e] at h
      by_cases eq : q = p
      · subst eq; exact ⟨s, s', e⟩
      · exact slF_all d s' (p + 1) h q (by omega) (by omega)
end SL
section RL
variable {r r' w ch l k p d : Nat} {o o' : List Int32} {ws W : List Nat} {ft ft' : Nat → Int32} {V : List Int32} {v v0 a b : Int32} {cm : Nat → Bool}
theorem layP_c (h : r ≤ rkN w) : layP r (w :: ws) o = layP r ws (-(iN w) :: o) := if_pos h
theorem layP_n (h : ¬ r ≤ rkN w) : layP r (w :: ws) o = (o, w :: ws) := if_neg h
theorem layP_len : ∀ (ws : List Nat) (o : List Int32), (layP r ws o).1.length + (layP r ws o).2.length = o.length + ws.length
  | [], o => rfl
  | w :: ws, o => by
    by_cases h : r ≤ rkN w
    · rw [layP_c h, layP_len ws]
      simp only [List.length_cons]
      omega
    · rw [layP_n h]
theorem layP_two (h : r ≤ r') : ∀ (ws : List Nat) (o : List Int32), layP r ws o = layP r (layP r' ws o).2 (layP r' ws o).1
  | [], o => rfl
  | w :: ws, o => by
    by_cases h1 : r' ≤ rkN w
    · rw [layP_c h1, layP_c (by omega)]
      exact layP_two h ws _
    · rw [layP_n h1]
/-- nothing of it is laid out -/
def stP (r : Nat) (W : List Nat) : Prop := ∀ w ws, W = w :: ws → rkN w < r
theorem stP.eq (h : stP r W) : layP r W o = (o, W) := by
  cases W with
  | nil => rfl
  | cons w ws => exact layP_n (by have := h w ws rfl; omega)
theorem stP.le (h : stP r W) (hr : r ≤ r') : stP r' W := fun w ws e => Nat.lt_of_lt_of_le (h w ws e) hr
theorem stP_cons (h : rkN w < r) : stP r (w :: ws) := fun w' ws' e => by cases e; exact h
theorem stP_nil : stP r [] := fun w ws e => by cases e
def ngN : Nat → Int32 → Int32
  | 0, v => v
  | k + 1, v => -(ngN k v)
def rep (k : Nat) (W : List Nat) : List Nat := List.replicate k 256 ++ W
theorem rep_0 : rep 0 W = W := rfl
theorem rep_s : rep (k + 1) W = 256 :: rep k W := rfl
theorem rep_in : rep k (256 :: W) = rep (k + 1) W := by
  induction k with
  | zero => rfl
  | succ k ih => rw [rep_s, ih]; rfl
theorem rep_len : (rep k W).length = k + W.length := by unfold rep; rw [List.length_append, List.length_replicate]
/-- the numbers that what is laid out leaves, the latest first -/
def evL (ft : Nat → Int32) : List Int32 → List Int32
  | [] => []
  | x :: o => lStep ft x (evL ft o)
theorem evL_c {x : Int32} : evL ft (x :: o) = lStep ft x (evL ft o) := rfl
theorem lStep_neg : lStep ft (-(iN 256)) (a :: V) = -a :: V := by
  unfold lStep
  rw [if_pos (by decide)]
  cases V with
  | nil => show (if -(iN 256) = -256 then [-a] else [a]) = _; rw [if_pos (by decide)]
  | cons b V => show (if -(iN 256) = -256 then -a :: b :: V else _) = _; rw [if_pos (by decide)]
theorem lStep_bin (h : rkN w = 1 ∨ rkN w = 2 ∨ rkN w = 3) : lStep ft (-(iN w)) (b :: a :: V) = outc (iN w) a b :: V := by
  have key : -(iN w) < 0 ∧ ¬ -(iN w) = -256 ∧ -(-(iN w)) = iN w := by
    unfold rkN at h
    have : w = 42 ∨ w = 47 ∨ w = 43 ∨ w = 45 ∨ w = 60 ∨ w = 61 ∨ w = 62 := by
      split at h
      · omega
      · split at h
        · omega
        · split at h
          · omega
          · split at h <;> omega
    rcases this with e | e | e | e | e | e | e <;> subst e <;> decide
  unfold lStep
  rw [if_pos key.1]
  show (if -(iN w) = -256 then -b :: a :: V else outc (-(-(iN w))) a b :: V) = _
  rw [if_neg key.2.1, key.2.2]
theorem lStep_num (h : k < 1000) : lStep ft (iN k) V = iN k :: V := by
  unfold lStep thg
  rw [if_neg (show ¬ iN k < 0 by rw [show (0 : Int32) = iN 0 from rfl, iN_lt (by omega) (by omega)]; omega), if_pos]
  rw [Int32.lt_iff_toInt_lt, Int32.toInt_sub, iN_int (by omega), show (1000 : Int32).toInt = 1000 by decide, show (0 : Int32).toInt = 0 by decide]
  have : ((k : Int) - 1000).bmod (2 ^ 32) = (k : Int) - 1000 := by
    rw [Int.bmod_eq_of_le] <;> omega
  omega
theorem lStep_let (h : l < 7) : lStep ft (iN (1000 + l)) V = ft l :: V := by
  unfold lStep thg
  have e : iN (1000 + l) - 1000 = iN l := by rw [show (1000 : Int32) = iN 1000 from rfl, iN_sub (by omega), Nat.add_sub_cancel_left]
  rw [if_neg (show ¬ iN (1000 + l) < 0 by rw [show (0 : Int32) = iN 0 from rfl, iN_lt (by omega) (by omega)]; omega), e, if_neg (show ¬ iN l < 0 by rw [show (0 : Int32) = iN 0 from rfl, iN_lt (by omega) (by omega)]; omega), if_neg (show ¬ (7 : Int32) ≤ iN l by rw [show (7 : Int32) = iN 7 from rfl, iN_le (by omega) (by omega)]; omega), iN_nat (by omega)]
theorem evL_stk {S : Nat → Int32} : ∀ o : List Int32, stk S o → evS ft S o.length = evL ft o
  | [], _ => rfl
  | x :: o, h => by
    show lStep ft (S o.length) (evS ft S o.length) = lStep ft x (evL ft o)
    rw [h.1, evL_stk o h.2]
theorem thg_congr {w : Int32} (h : ∀ k, k < 7 → ft k = ft' k) : thg ft w = thg ft' w := by
  unfold thg
  by_cases c1 : w - 1000 < 0
  · rw [if_pos c1, if_pos c1]
  · rw [if_neg c1, if_neg c1]
    by_cases c2 : (7 : Int32) ≤ w - 1000
    · rw [if_pos c2, if_pos c2]
    · rw [if_neg c2, if_neg c2]
      refine h _ ?_
      rw [Int32.lt_iff_toInt_lt, show (0 : Int32).toInt = 0 by decide] at c1
      rw [Int32.le_iff_toInt_le, show (7 : Int32).toInt = 7 by decide] at c2
      unfold Int32.toNatClampNeg
      omega
theorem evL_congr (h : ∀ k, k < 7 → ft k = ft' k) : ∀ o, evL ft o = evL ft' o
  | [] => rfl
  | x :: o => by
    show lStep ft x (evL ft o) = lStep ft' x (evL ft' o)
    rw [evL_congr h o]
    unfold lStep
    rw [thg_congr h]
/-- what is laid out and waits leaves v on V, and W waits -/
def Pnd (ft : Nat → Int32) (r : Nat) (o : List Int32) (w : List Nat) (v : Int32) (V : List Int32) (W : List Nat) : Prop := ∃ o', layP r w o = (o', W) ∧ evL ft o' = v :: V
theorem Pnd.negs (hr : r ≤ 4) (hW : stP r W) : ∀ (k : Nat) (o : List Int32) (v0 : Int32), evL ft o = v0 :: V → Pnd ft r o (rep k W) (ngN k v0) V W
  | 0, o, v0, h => ⟨o, hW.eq, h⟩
  | k + 1, o, v0, h => by
    obtain ⟨o', h1, h2⟩ := Pnd.negs hr hW k (-(iN 256) :: o) (-v0) (by rw [evL_c, h, lStep_neg])
    refine ⟨o', ?_, ?_⟩
    · rw [rep_s, layP_c (show r ≤ 4 from hr)]
      exact h1
    · rw [h2]
      congr 1
      have : ∀ k v, ngN k (-v) = -(ngN k v) := by
        intro k
        induction k with
        | zero => intro v; rfl
        | succ k ih => intro v; show -(ngN k (-v)) = -(-(ngN k v)); rw [ih]
      exact this k v0
theorem Pnd.low (h : Pnd ft r' o ws v V W) (hr : r ≤ r') (hW : stP r W) : Pnd ft r o ws v V W := by
  obtain ⟨o', h1, h2⟩ := h
  refine ⟨o', ?_, h2⟩
  rw [layP_two hr, h1]
  exact hW.eq
theorem Pnd.bin (h : Pnd ft r' o ws b (a :: V) (w :: W)) (hr : r ≤ r') (hw : rkN w = r) (h13 : rkN w = 1 ∨ rkN w = 2 ∨ rkN w = 3) (hW : stP r W) : Pnd ft r o ws (outc (iN w) a b) V W := by
  obtain ⟨o', h1, h2⟩ := h
  refine ⟨-(iN w) :: o', ?_, ?_⟩
  · rw [layP_two hr, h1]
    show layP r (w :: W) o' = _
    rw [layP_c (by omega)]
    exact hW.eq
  · rw [evL_c, h2, lStep_bin h13]
end RL
