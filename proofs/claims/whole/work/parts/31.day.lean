/-! DAYS: one of PEOPLE behind the other, and day behind day -/
/-- p's humours are moved; p's DAYS are more by 1 -/
def gmZ (A : Nat → Nat → Int32) (pu : (Nat → Int32) → Int32) (G p : Nat) (Z : Nat → Int32) : Nat → Int32 := fun j =>
  if 8 + p * 4 ≤ j ∧ j < 8 + p * 4 + 4 then cl9 (Z j + mvS A Z pu G p (dy7 Z) (j - (8 + p * 4)) G) else Z j
def hdZ (G p : Nat) (Z : Nat → Int32) : Nat → Int32 := fun j =>
  if 32 + p * 8 ≤ j ∧ j < 32 + p * 8 + G ∧ ¬ Z j = -1 then mn99 (Z j + 1) else Z j
def gmF (A : Nat → Nat → Int32) (pu : (Nat → Int32) → Int32) (G : Nat) (Z : Nat → Int32) : Nat → Nat → Int32
  | 0 => Z
  | p + 1 => gmZ A pu G p (gmF A pu G Z p)
def hdF (G : Nat) (Z : Nat → Int32) : Nat → Nat → Int32
  | 0 => Z
  | p + 1 => hdZ G p (hdF G Z p)
/-- a day of all -/
def daM (A : Nat → Nat → Int32) (pu : (Nat → Int32) → Int32) (G P : Nat) (Z : Nat → Int32) : Nat → Int32 := upd (hdF G (gmF A pu G Z P) P) 80 (Z 80 + 1)
def daN (A : Nat → Nat → Int32) (pu : (Nat → Int32) → Int32) (G P : Nat) (Z : Nat → Int32) : Nat → Nat → Int32
  | 0 => Z
  | n + 1 => daM A pu G P (daN A pu G P Z n)
/-- p's cells -/
def blk (p j : Nat) : Prop := (8 + p * 4 ≤ j ∧ j < 8 + p * 4 + 4) ∨ (32 + p * 8 ≤ j ∧ j < 32 + p * 8 + 8)
def agr (p : Nat) (Y Z : Nat → Int32) : Prop := (∀ j, blk p j → Y j = Z j) ∧ Y 80 = Z 80
section DM
variable {A : Nat → Nat → Int32} {pu : (Nat → Int32) → Int32} {G P W p q : Nat} {Y Z : Nat → Int32}
theorem hdB_agr (h : agr p Y Z) {g : Nat} (hg : g < 8) : hdB Y p g = hdB Z p g := by
  unfold hdB
  rw [h.1 _ (Or.inr ⟨by omega, by omega⟩)]
theorem gsS_agr (h : agr p Y Z) (h8 : G ≤ 8) : gsS Y G p = gsS Z G p := bt_congr (fun k hk => hdB_agr h (by omega))
theorem mvS_agr (h : agr p Y Z) (h8 : G ≤ 8) {k : Nat} (hk : k < 4) : mvS A Y pu G p (dy7 Y) k G = mvS A Z pu G p (dy7 Z) k G := by
  unfold mvS
  refine sm_congr (fun g hg => ?_)
  rw [hdB_agr h (by omega), gsS_agr h h8, h.1 _ (Or.inl ⟨by omega, by omega⟩), h.1 (32 + p * 8 + g) (Or.inr ⟨by omega, by omega⟩)]
  unfold dy7
  rw [h.2]
theorem lvZ_agr (h : agr p Y Z) (h8 : G ≤ 8) {j : Nat} (hj : blk p j) : lvZ A pu G p Y j = lvZ A pu G p Z j := by
  unfold lvZ
  rw [h.1 j hj]
  by_cases c : 8 + p * 4 ≤ j ∧ j < 8 + p * 4 + 4
  · rw [if_pos c, if_pos c, mvS_agr h h8 (by omega)]
  · rw [if_neg c, if_neg c]
theorem blk_80 (hp : p < 6) : ¬ blk p 80 := by
  unfold blk; omega
theorem blk80 (hp : p < 6) {i : Nat} (hi : blk p i) : i ≠ 80 := by
  unfold blk at hi; omega
theorem dyP_agr (h : agr p Y Z) (h8 : G ≤ 8) (hp : p < 6) : agr p (dyP A pu G p Y) (dyP A pu G p Z) := by
  refine ⟨fun j hj => ?_, ?_⟩
  · unfold dyP upd
    have : j ≠ 80 := blk80 hp hj
    rw [if_neg this, if_neg this]
    exact lvZ_agr h h8 hj
  · unfold dyP upd
    rw [if_pos rfl, if_pos rfl, h.2]
theorem psZ_agr (h : agr p Y Z) (h8 : G ≤ 8) (hp : p < 6) : ∀ n, agr p (psZ A pu G p Y n) (psZ A pu G p Z n)
  | 0 => h
  | n + 1 => dyP_agr (psZ_agr h h8 hp n) h8 hp
theorem dyP_out {j : Nat} (h8 : G ≤ 8) (hj : ¬ blk p j) (h : j ≠ 80) : dyP A pu G p Z j = Z j := by
  unfold dyP upd
  rw [if_neg h]
  unfold lvZ
  unfold blk at hj
  rw [if_neg (fun c => hj (Or.inl c)), if_neg (fun c => hj (Or.inr ⟨c.1, by omega⟩))]
theorem psZ_out {j : Nat} (h8 : G ≤ 8) (hj : ¬ blk p j) (h : j ≠ 80) : ∀ n, psZ A pu G p Z n j = Z j
  | 0 => rfl
  | n + 1 => (dyP_out h8 hj h).trans (psZ_out h8 hj h n)
theorem psZ_80 : ∀ n, psZ A pu G p Z n 80 = Z 80 + iN n
  | 0 => (Int32.add_zero _).symm
  | n + 1 => by
    show upd (lvZ A pu G p (psZ A pu G p Z n)) 80 (psZ A pu G p Z n 80 + 1) 80 = _
    rw [upd_eq, psZ_80 n, Int32.add_assoc]
    rw [show (1 : Int32) = iN 1 from rfl, iN_add]
theorem gmZ_out {j : Nat} (hj : ¬ (8 + p * 4 ≤ j ∧ j < 8 + p * 4 + 4)) : gmZ A pu G p Z j = Z j := if_neg hj
theorem blk_ne (hp : p < 6) (hq : q < 6) (h : p ≠ q) {j : Nat} (hj : blk p j) : ¬ blk q j := by
  unfold blk at *; omega
theorem gmF_out {j : Nat} : ∀ k, ¬ (8 ≤ j ∧ j < 8 + k * 4) → gmF A pu G Z k j = Z j
  | 0, _ => rfl
  | k + 1, h => by
    show gmZ A pu G k (gmF A pu G Z k) j = Z j
    rw [gmZ_out (by omega)]
    exact gmF_out k (by omega)
theorem gmF_in {j : Nat} (h8 : G ≤ 8) : ∀ k, k ≤ 6 → p < k → 8 + p * 4 ≤ j → j < 8 + p * 4 + 4 → gmF A pu G Z k j = lvZ A pu G p Z j
  | 0, _, h, _, _ => absurd h (Nat.not_lt_zero _)
  | k + 1, hk, h, h1, h2 => by
    show gmZ A pu G k (gmF A pu G Z k) j = _
    by_cases e : p = k
    · subst e
      have ha : agr p (gmF A pu G Z p) Z := ⟨fun i hi => gmF_out p (by unfold blk at hi; omega), gmF_out p (by omega)⟩
      unfold gmZ lvZ
      rw [if_pos ⟨h1, h2⟩, if_pos ⟨h1, h2⟩, gmF_out p (by omega), mvS_agr ha h8 (by omega)]
    · rw [gmZ_out (by omega)]
      exact gmF_in h8 k (by omega) (by omega) h1 h2
theorem hdF_out {j : Nat} (h8 : G ≤ 8) : ∀ k, ¬ (32 ≤ j ∧ j < 32 + k * 8) → hdF G Z k j = Z j
  | 0, _ => rfl
  | k + 1, h => by
    show hdZ G k (hdF G Z k) j = Z j
    unfold hdZ
    rw [if_neg (fun c => h ⟨by omega, by have := c.2.1; omega⟩)]
    exact hdF_out h8 k (by omega)
theorem hdF_in {j : Nat} (h8 : G ≤ 8) : ∀ k, p < k → 32 + p * 8 ≤ j → j < 32 + p * 8 + 8 → hdF G Z k j = (if 32 + p * 8 ≤ j ∧ j < 32 + p * 8 + G ∧ ¬ Z j = -1 then mn99 (Z j + 1) else Z j)
  | 0, h, _, _ => absurd h (Nat.not_lt_zero _)
  | k + 1, h, h1, h2 => by
    show hdZ G k (hdF G Z k) j = _
    by_cases e : p = k
    · subst e
      unfold hdZ
      rw [hdF_out h8 p (by omega)]
    · unfold hdZ
      rw [if_neg (fun c => by have := c.1; have := c.2.1; omega)]
      exact hdF_in h8 k (by omega) h1 h2
theorem daM_in {j : Nat} (h8 : G ≤ 8) (h6 : P ≤ 6) (hp : p < P) (hj : blk p j) : daM A pu G P Z j = dyP A pu G p Z j := by
  unfold daM dyP
  have h80 : j ≠ 80 := blk80 (by omega) hj
  rw [upd_ne h80, upd_ne h80]
  rcases hj with ⟨h1, h2⟩ | ⟨h1, h2⟩
  · rw [hdF_out h8 P (by omega)]
    exact gmF_in h8 P h6 hp h1 h2
  · rw [hdF_in h8 P hp h1 h2, gmF_out P (by omega)]
    unfold lvZ
    rw [if_neg (c := 8 + p * 4 ≤ j ∧ j < 8 + p * 4 + 4) (by omega)]
theorem daM_out {j : Nat} (h8 : G ≤ 8) (hj : ∀ p, p < P → ¬ blk p j) (h6 : P ≤ 6) (h80 : j ≠ 80) : daM A pu G P Z j = Z j := by
  unfold daM
  rw [upd_ne h80, hdF_out h8 P, gmF_out P]
  · intro c
    exact hj ((j - 8) / 4) (by omega) (Or.inl ⟨by omega, by omega⟩)
  · intro c
    exact hj ((j - 32) / 8) (by omega) (Or.inr ⟨by omega, by omega⟩)
theorem daM_80 : daM A pu G P Z 80 = Z 80 + 1 := upd_eq
theorem daN_80 : ∀ n, daN A pu G P Z n 80 = Z 80 + iN n
  | 0 => (Int32.add_zero _).symm
  | n + 1 => by
    show daM A pu G P _ 80 = _
    rw [daM_80, daN_80 n, Int32.add_assoc, show (1 : Int32) = iN 1 from rfl, iN_add]
/-- day behind day, p's cells go as if p were alone -/
theorem daN_agr (h8 : G ≤ 8) (h6 : P ≤ 6) (hp : p < P) : ∀ n, agr p (daN A pu G P Z n) (psZ A pu G p Z n)
  | 0 => ⟨fun _ _ => rfl, rfl⟩
  | n + 1 => by
    have ih := daN_agr h8 h6 hp n
    have h2 := dyP_agr (A := A) (pu := pu) ih h8 (by omega)
    refine ⟨fun j hj => ?_, ?_⟩
    · show daM A pu G P _ j = _
      rw [daM_in h8 h6 hp hj]
      exact h2.1 j hj
    · show daM A pu G P _ 80 = _
      rw [daM_80]
      show _ = upd (lvZ A pu G p (psZ A pu G p Z n)) 80 (psZ A pu G p Z n 80 + 1) 80
      rw [upd_eq, ih.2]
theorem daN_out {j : Nat} (h8 : G ≤ 8) (hj : ∀ p, p < P → ¬ blk p j) (h6 : P ≤ 6) (h80 : j ≠ 80) : ∀ n, daN A pu G P Z n j = Z j
  | 0 => rfl
  | n + 1 => (daM_out h8 hj h6 h80).trans (daN_out h8 hj h6 h80 n)
theorem paF_agr {n : Nat} (h8 : G ≤ 8) (hp : p < 6) : ∀ k, k ≤ p → ∀ j, blk p j → paF A pu G n Z k j = Z j
  | 0, _, _, _ => rfl
  | k + 1, hk, j, hj => by
    show psZ A pu G k _ n j = _
    have h80 : j ≠ 80 := blk80 hp hj
    rw [psZ_out h8 (blk_ne hp (by omega) (by omega) hj) h80, upd_ne h80]
    exact paF_agr h8 hp k (by omega) j hj
theorem paF_in {n : Nat} (h8 : G ≤ 8) (hp : p < 6) : ∀ k, p < k → k ≤ 6 → ∀ j, blk p j → paF A pu G n Z k j = psZ A pu G p Z n j
  | 0, h, _, _, _ => absurd h (Nat.not_lt_zero _)
  | k + 1, h, hk, j, hj => by
    show psZ A pu G k _ n j = _
    have h80 : j ≠ 80 := blk80 hp hj
    by_cases e : p = k
    · subst e
      have ha : agr p (upd (paF A pu G n Z p) 80 (Z 80)) Z := ⟨fun i hi => by
        rw [upd_ne (blk80 hp hi)]
        exact paF_agr h8 hp p (Nat.le_refl _) i hi, upd_eq⟩
      exact (psZ_agr ha h8 hp n).1 j hj
    · rw [psZ_out h8 (blk_ne hp (by omega) (by omega) hj) h80, upd_ne h80]
      exact paF_in h8 hp k (by omega) (by omega) j hj
theorem paF_out {n j : Nat} (h8 : G ≤ 8) (h80 : j ≠ 80) : ∀ k, (∀ p, p < k → ¬ blk p j) → paF A pu G n Z k j = Z j
  | 0, _ => rfl
  | k + 1, h => by
    show psZ A pu G k _ n j = _
    rw [psZ_out h8 (h k (by omega)) h80, upd_ne h80]
    exact paF_out h8 h80 k (fun p hp => h p (by omega))
theorem paZ_daN {n : Nat} (h8 : G ≤ 8) (h6 : P ≤ 6) : paZ A pu G P n Z = daN A pu G P Z n := by
  funext j
  unfold paZ
  by_cases h80 : j = 80
  · subst h80
    rw [upd_eq, daN_80]
  · rw [upd_ne h80]
    by_cases hb : ∃ p, p < P ∧ blk p j
    · obtain ⟨p, hp, hj⟩ := hb
      rw [paF_in h8 (by omega) P hp h6 j hj, (daN_agr h8 h6 hp n).1 j hj]
    · have hb' : ∀ p, p < P → ¬ blk p j := fun p hp hj => hb ⟨p, hp, hj⟩
      rw [paF_out h8 h80 P hb', daN_out h8 hb' h6 h80]
theorem waS_agr (h : ∀ j, 8 + p * 4 ≤ j → j < 8 + p * 4 + 4 → Y j = Z j) (hT : TS A W) : waS A Y W p = waS A Z W p := by
  refine bt_congr (fun w hw => ?_)
  obtain ⟨n, hn, e1, h1⟩ := hT w hw
  unfold hwB
  rw [e1, iN_nat (by omega)]
  refine allB_congr (fun t ht => ?_)
  obtain ⟨k, hk, e2⟩ := h1 t ht
  unfold tmB
  rw [e2, iN_nat (by omega), h _ (by omega) (by omega)]
theorem sm_add {f g : Nat → Int32} : ∀ n, sm (fun k => f k + g k) n = sm f n + sm g n
  | 0 => rfl
  | n + 1 => by
    show sm (fun k => f k + g k) n + (f n + g n) = (sm f n + f n) + (sm g n + g n)
    rw [sm_add n]
    rw [Int32.add_assoc, Int32.add_assoc, ← Int32.add_assoc (sm g n), Int32.add_comm (sm g n) (f n), Int32.add_assoc (f n)]
theorem sm_zero : ∀ n, sm (fun _ => (0 : Int32)) n = 0
  | 0 => rfl
  | n + 1 => by
    show sm (fun _ => (0 : Int32)) n + 0 = 0
    rw [sm_zero n]; rfl
theorem sm_comm {f : Nat → Nat → Int32} {m : Nat} : ∀ n, sm (fun i => sm (fun j => f i j) m) n = sm (fun j => sm (fun i => f i j) n) m
  | 0 => (sm_zero m).symm
  | n + 1 => by
    show sm (fun i => sm (fun j => f i j) m) n + sm (fun j => f n j) m = sm (fun j => sm (fun i => f i j) n + f n j) m
    rw [sm_comm n, sm_add]
/-- how often one came to have a WANT on a day -/
def cmD (A : Nat → Nat → Int32) (pu : (Nat → Int32) → Int32) (G W : Nat) (Z : Nat → Int32) (p : Nat) : Int32 :=
  bc (waS A (gmF A pu G Z (p + 1)) W p &&& (waS A (gmF A pu G Z p) W p ^^^ (-1 : Int32)))
theorem cmS_day {n : Nat} (h8 : G ≤ 8) (h6 : P ≤ 6) (hT : TS A W) : spC A pu G W n Z P = sm (fun k => sm (fun p => cmD A pu G W (daN A pu G P Z k) p) P) n := by
  rw [← sm_comm]
  unfold spC
  refine sm_congr (fun p hp => ?_)
  unfold cmS
  refine sm_congr (fun k hk => ?_)
  have ha : agr p (upd (paF A pu G n Z p) 80 (Z 80)) Z := ⟨fun i hi => by
    rw [upd_ne (blk80 (by omega) hi)]
    exact paF_agr h8 (by omega) p (Nat.le_refl _) i hi, upd_eq⟩
  have a1 := psZ_agr (A := A) (pu := pu) ha h8 (show p < 6 by omega) (k + 1)
  have a2 := psZ_agr (A := A) (pu := pu) ha h8 (show p < 6 by omega) k
  have b1 := daN_agr (A := A) (pu := pu) (Z := Z) h8 h6 hp (k + 1)
  have b2 := daN_agr (A := A) (pu := pu) (Z := Z) h8 h6 hp k
  unfold cmD
  rw [waS_agr (Y := psZ A pu G p (upd (paF A pu G n Z p) 80 (Z 80)) (k + 1)) (Z := gmF A pu G (daN A pu G P Z k) (p + 1)) (fun j h1 h2 => ?_) hT, waS_agr (Y := psZ A pu G p (upd (paF A pu G n Z p) 80 (Z 80)) k) (Z := gmF A pu G (daN A pu G P Z k) p) (fun j h1 h2 => ?_) hT]
  · rw [a2.1 j (Or.inl ⟨h1, h2⟩), gmF_out p (by omega), b2.1 j (Or.inl ⟨h1, h2⟩)]
  · rw [a1.1 j (Or.inl ⟨h1, h2⟩), gmF_in h8 (p + 1) (by omega) (by omega) h1 h2, ← b1.1 j (Or.inl ⟨h1, h2⟩)]
    show daM A pu G P _ j = _
    rw [daM_in h8 h6 hp (Or.inl ⟨h1, h2⟩)]
    unfold dyP
    rw [upd_ne (by omega)]
/-! what stands right stays right -/
theorem mn99_ok {v : Int32} (h : 0 ≤ v) (h9 : v ≤ 99) : 0 ≤ mn99 (v + 1) ∧ mn99 (v + 1) ≤ 99 := by
  obtain ⟨k, hk, rfl⟩ := iN_of' h (show v ≤ iN 99 from h9) (by decide)
  have key : ∀ k : Fin 100, 0 ≤ mn99 (iN k.val + 1) ∧ mn99 (iN k.val + 1) ≤ 99 := by decide +kernel
  exact key ⟨k, by omega⟩
theorem hdB_hdZ (hz : ∀ g, g < 8 → hdB Z p g = true → 0 ≤ Z (32 + p * 8 + g) ∧ Z (32 + p * 8 + g) ≤ 99) (q : Nat) (hp : p < 6) (hq : q < 6) {g : Nat} (hg : g < 8) (h8 : G ≤ 8) : hdB (hdZ G q Z) p g = hdB Z p g := by
  unfold hdB hdZ
  split
  · rename_i c
    have hb : hdB Z p g = true := by unfold hdB; simpa using c.2.2
    have h0 := (mn99_ok (hz g hg hb).1 (hz g hg hb).2).1
    have e1 : (Z (32 + p * 8 + g) == -1) = false := by simpa using c.2.2
    rw [e1]
    have e2 : ¬ mn99 (Z (32 + p * 8 + g) + 1) = -1 := fun e => by
      rw [e] at h0
      exact absurd h0 (by decide)
    have e3 : (mn99 (Z (32 + p * 8 + g) + 1) == -1) = false := by simpa using e2
    rw [e3]
  · rfl
end DM
