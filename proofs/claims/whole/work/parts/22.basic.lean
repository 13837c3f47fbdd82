/-! SMALL NUMBERS as Int32, loops, ends -/
abbrev iN (n : Nat) : Int32 := Int32.ofNat n
theorem iN_lit (n : Nat) : (@OfNat.ofNat Int32 n Int32.instOfNat) = iN (@OfNat.ofNat Nat n (instOfNatNat n)) := rfl
theorem iN_add {a b : Nat} : iN a + iN b = iN (a + b) := (Int32.ofNat_add a b).symm
theorem iN_mul {a b : Nat} : iN a * iN b = iN (a * b) := (Int32.ofNat_mul a b).symm
theorem iN_int {a : Nat} (h : a < 2147483648) : (iN a).toInt = (a : Int) := Int32.toInt_ofNat_of_lt h
theorem iN_nat {a : Nat} (h : a < 2147483648) : (iN a).toNatClampNeg = a := by
  show (iN a).toInt.toNat = a
  rw [iN_int h]; rfl
theorem iN_lt {a b : Nat} (ha : a < 2147483648) (hb : b < 2147483648) : (iN a < iN b) = (a < b) := by
  apply propext
  rw [Int32.lt_iff_toInt_lt, iN_int ha, iN_int hb]; omega
theorem iN_le {a b : Nat} (ha : a < 2147483648) (hb : b < 2147483648) : (iN a ≤ iN b) = (a ≤ b) := by
  apply propext
  rw [Int32.le_iff_toInt_le, iN_int ha, iN_int hb]; omega
theorem iN_eq {a b : Nat} (ha : a < 2147483648) (hb : b < 2147483648) : (iN a = iN b) = (a = b) := by
  apply propext
  constructor
  · intro h
    have h2 := congrArg Int32.toInt h
    rw [iN_int ha, iN_int hb] at h2; omega
  · intro h; rw [h]
theorem iN_sub {a b : Nat} (h : b ≤ a) : iN a - iN b = iN (a - b) := (Int32.ofNat_sub a b h).symm
theorem iN_pred {a : Nat} : iN (a + 1) - iN 1 = iN a := by rw [iN_sub (by omega), Nat.add_sub_cancel]
theorem iN_pred' {a : Nat} : iN (a + 1) + -iN 1 = iN a := by rw [← Int32.sub_eq_add_neg]; exact iN_pred
theorem nlt_t {a b : Nat} (h : a < b) : (a < b) = True := eq_true h
theorem nlt_f {a b : Nat} (h : b ≤ a) : (a < b) = False := eq_false (Nat.not_lt.mpr h)
theorem nle_t {a b : Nat} (h : a ≤ b) : (a ≤ b) = True := eq_true h
theorem nle_f {a b : Nat} (h : b < a) : (a ≤ b) = False := eq_false (Nat.not_le.mpr h)
theorem neq_t {a b : Nat} (h : a = b) : (a = b) = True := eq_true h
theorem neq_f {a b : Nat} (h : a ≠ b) : (a = b) = False := eq_false h
theorem iN_of {x : Int32} {n : Nat} (h0 : 0 ≤ x) (h1 : x < iN n) (hn : n < 2147483648) : ∃ k, k < n ∧ x = iN k := by
  rw [Int32.lt_iff_toInt_lt, iN_int hn] at h1
  rw [Int32.le_iff_toInt_le] at h0
  have h0' : 0 ≤ x.toInt := h0
  refine ⟨x.toInt.toNat, by omega, ?_⟩
  apply Int32.toInt_inj.mp
  rw [iN_int (by omega)]; omega
theorem iN_of' {x : Int32} {n : Nat} (h0 : 0 ≤ x) (h1 : x ≤ iN n) (hn : n < 2147483647) : ∃ k, k ≤ n ∧ x = iN k := by
  rw [Int32.le_iff_toInt_le, iN_int (by omega)] at h1
  rw [Int32.le_iff_toInt_le] at h0
  have h0' : 0 ≤ x.toInt := h0
  refine ⟨x.toInt.toNat, by omega, ?_⟩
  apply Int32.toInt_inj.mp
  rw [iN_int (by omega)]; omega
theorem hb_some {α β : Type} {a : α} {h : PH} {k : α → PH → Option β} : h_bd (some (a, h)) k = k a h := rfl
theorem letE_eq {α β : Type} {e : α} {k : α → β} : letE e k = k e := rfl
theorem h_z0 {γ : Type} {z : Option γ} : h_z (0 : Int32) z = z := if_pos (Or.inl rfl)
theorem h_z1 {γ : Type} {z : Option γ} : h_z (1 : Int32) z = z := if_pos (Or.inr rfl)
theorem h_zi0 {γ : Type} {z : Option γ} : h_z (iN 0) z = z := if_pos (Or.inl rfl)
theorem h_zi1 {γ : Type} {z : Option γ} : h_z (iN 1) z = z := if_pos (Or.inr rfl)
theorem in_arr {i : Int32} {n k : Nat} (h : k < n) (hn : n < 2147483648) (e : i = iN k) : ¬ (i < 0 ∨ n ≤ i.toNatClampNeg) := by
  subst e
  rw [iN_nat (by omega)]
  rintro (h1 | h1)
  · rw [show (0 : Int32) = iN 0 from rfl, iN_lt (by omega) (by omega)] at h1; omega
  · omega
theorem neg_arr {n k : Nat} (h : k < n) (hn : n < 2147483648) : (¬ (iN k < 0 ∨ n ≤ (iN k).toNatClampNeg)) = True := eq_true (in_arr h hn rfl)
/-- the loop upward from k to N: each step leads from a state that is right before k to one that is right before k + 1 -/
theorem lp_up {σ α : Type} (F : Nat → Nat → σ → Option α) (kx : σ → Option α) (Inv : Nat → σ → Prop) (N : Nat)
    (hs : ∀ k s, k < N → Inv k s → ∃ s', Inv (k + 1) s' ∧ ∀ n, F (n + 1) k s = F n (k + 1) s')
    (he : ∀ s, Inv N s → ∀ n, F (n + 1) N s = kx s) :
    ∀ (d k : Nat) (s : σ), k + d = N → Inv k s → ∃ s', Inv N s' ∧ ∀ n, d < n → F n k s = kx s' := by
  intro d
  induction d with
  | zero =>
    intro k s hk hi
    cases hk
    refine ⟨s, hi, fun n hn => ?_⟩
    obtain ⟨m, rfl⟩ : ∃ m, n = m + 1 := ⟨n - 1, by omega⟩
    exact he s hi m
  | succ d ih =>
    intro k s hk hi
    obtain ⟨s1, h1, h2⟩ := hs k s (by omega) hi
    obtain ⟨s2, h3, h4⟩ := ih (k + 1) s1 (by omega) h1
    refine ⟨s2, h3, fun n hn => ?_⟩
    obtain ⟨m, rfl⟩ : ∃ m, n = m + 1 := ⟨n - 1, by omega⟩
    rw [h2 m]
    exact h4 m (by omega)
/-- a loop that may end before: either a step is left with an answer, or it goes on -/
theorem lp_br {σ α : Type} (F : Nat → Nat → σ → Option α) (Inv : Nat → σ → Prop) (P : Option α → Prop) (N : Nat)
    (hs : ∀ k s, k < N → Inv k s → (∃ z, P z ∧ ∀ n, F (n + 1) k s = z) ∨ ∃ s', Inv (k + 1) s' ∧ ∀ n, F (n + 1) k s = F n (k + 1) s')
    (he : ∀ s, Inv N s → ∃ z, P z ∧ ∀ n, F (n + 1) N s = z) :
    ∀ (d k : Nat) (s : σ), k + d = N → Inv k s → ∃ z, P z ∧ ∀ n, d < n → F n k s = z := by
  intro d
  induction d with
  | zero =>
    intro k s hk hi
    cases hk
    obtain ⟨z, h1, h2⟩ := he s hi
    refine ⟨z, h1, fun n hn => ?_⟩
    obtain ⟨m, rfl⟩ : ∃ m, n = m + 1 := ⟨n - 1, by omega⟩
    exact h2 m
  | succ d ih =>
    intro k s hk hi
    rcases hs k s (by omega) hi with ⟨z, h1, h2⟩ | ⟨s1, h1, h2⟩
    · refine ⟨z, h1, fun n hn => ?_⟩
      obtain ⟨m, rfl⟩ : ∃ m, n = m + 1 := ⟨n - 1, by omega⟩
      exact h2 m
    · obtain ⟨z, h3, h4⟩ := ih (k + 1) s1 (by omega) h1
      refine ⟨z, h3, fun n hn => ?_⟩
      obtain ⟨m, rfl⟩ : ∃ m, n = m + 1 := ⟨n - 1, by omega⟩
      rw [h2 m]
      exact h4 m (by omega)
theorem u1_eq {α : Type} {F : Nat → α} {o o' : Nat} {v : α} : u1 F o v o' = if o' = o then v else F o' := rfl
theorem u2_eq {α : Type} {F : Nat → Nat → α} {o k o' k' : Nat} {v : α} : u2 F o k v o' k' = if o' = o ∧ k' = k then v else F o' k' := rfl
/-- bits below n -/
def bt (f : Nat → Bool) : Nat → Int32
  | 0 => 0
  | k + 1 => bt f k ||| (if f k then (1 : Int32) <<< (iN k &&& 31) else 0)
/-- a loop whose state before step k is known -/
theorem lp_det {σ α : Type} (F : Nat → Nat → σ → Option α) (kx : σ → Option α) (sp : Nat → σ) (N : Nat)
    (hs : ∀ k, k < N → ∀ n, F (n + 1) k (sp k) = F n (k + 1) (sp (k + 1)))
    (he : ∀ n, F (n + 1) N (sp N) = kx (sp N)) (n : Nat) (hn : N < n) : F n 0 (sp 0) = kx (sp N) := by
  obtain ⟨s', h1, h2⟩ := lp_up F kx (fun k s => s = sp k) N (fun k s hk hi => ⟨sp (k + 1), rfl, fun n => by rw [hi]; exact hs k hk n⟩) (fun s hi n => by rw [hi]; exact he n) N 0 (sp 0) (by omega) rfl
  rw [h2 n hn, h1]
/-- sums and joins below n -/
def sm (f : Nat → Int32) : Nat → Int32
  | 0 => 0
  | k + 1 => sm f k + f k
def allB (f : Nat → Bool) : Nat → Bool
  | 0 => true
  | k + 1 => allB f k && f k
theorem allB_lt {f : Nat → Bool} {k : Nat} : ∀ {n : Nat}, k < n → f k = false → allB f n = false
  | 0, h, _ => absurd h (Nat.not_lt_zero _)
  | n + 1, h, hf => by
    show (allB f n && f n) = false
    by_cases hk : k = n
    · subst hk; rw [hf, Bool.and_false]
    · rw [allB_lt (n := n) (by omega) hf, Bool.false_and]
theorem bt_congr {f g : Nat → Bool} {n : Nat} (h : ∀ k, k < n → f k = g k) : bt f n = bt g n := by
  induction n with
  | zero => rfl
  | succ n ih => show bt f n ||| _ = bt g n ||| _; rw [ih (fun k hk => h k (by omega)), h n (by omega)]
theorem sm_congr {f g : Nat → Int32} {n : Nat} (h : ∀ k, k < n → f k = g k) : sm f n = sm g n := by
  induction n with
  | zero => rfl
  | succ n ih => show sm f n + _ = sm g n + _; rw [ih (fun k hk => h k (by omega)), h n (by omega)]
theorem allB_congr {f g : Nat → Bool} {n : Nat} (h : ∀ k, k < n → f k = g k) : allB f n = allB g n := by
  induction n with
  | zero => rfl
  | succ n ih => show (allB f n && _) = (allB g n && _); rw [ih (fun k hk => h k (by omega)), h n (by omega)]
