/-! READING A TEXT: signs, where a reader stands, taking sign by sign -/
/-- where the model's reader stands, and where it slipped -/
abbrev RSt := Nat × Option Nat
def wQ : Option Nat → Int32
  | none => -1
  | some q => iN q
def pj (J : Nat → Int32) (st : RSt) : Nat → Int32 := u1 (u1 J 17 (iN st.1)) 18 (wQ st.2)
theorem pj_17 {J : Nat → Int32} {st : RSt} : pj J st 17 = iN st.1 := by unfold pj; rw [u1_eq, if_neg (by decide), u1_eq, if_pos rfl]
theorem pj_18 {J : Nat → Int32} {st : RSt} : pj J st 18 = wQ st.2 := by unfold pj; rw [u1_eq, if_pos rfl]
theorem pj_ne {J : Nat → Int32} {st : RSt} {x : Nat} (h1 : x ≠ 17) (h2 : x ≠ 18) : pj J st x = J x := by unfold pj; rw [u1_eq, if_neg h2, u1_eq, if_neg h1]
theorem pj_w17 {J : Nat → Int32} {st : RSt} {a : Nat} : u1 (pj J st) 17 (iN a) = pj J (a, st.2) := by
  funext x
  unfold pj
  simp only [u1_eq]
  by_cases h : x = 17
  · subst h; rfl
  · rw [if_neg h, if_neg h, if_neg h]
theorem pj_w18 {J : Nat → Int32} {st : RSt} {w : Option Nat} : u1 (pj J st) 18 (wQ w) = pj J (st.1, w) := by
  unfold pj
  rw [u1_u1]
def oneP (n top : Nat) (c : Nat → Nat) (fi mn : Nat) (st : RSt) : Nat × RSt :=
  if st.2 = none then (if st.1 < n ∧ st.1 < top ∧ fi ≤ c st.1 ∧ c st.1 < fi + mn then (c st.1 - fi, (st.1 + 1, none)) else (0, (st.1, some st.1))) else (0, st)
def pasP (n top : Nat) (c : Nat → Nat) (ch : Nat) (st : RSt) : Bool × RSt :=
  if st.2 = none ∧ st.1 < n ∧ st.1 < top ∧ c st.1 = ch then (true, (st.1 + 1, none)) else (false, st)
def fltP (st : RSt) : RSt := (st.1, if st.2 = none then some st.1 else st.2)
def rgtP (n : Nat) (st : RSt) : RSt := if st.1 < n then fltP st else st
def hrV (n top : Nat) (c : Nat → Nat) (a : Nat) : Int32 := if a < n ∧ a < top then iN (c a) else -1
/-- what is read, and through what -/
def RD (J : Nat → Int32) (B : Nat → Nat → Int32) (rdv : Value) (n top : Nat) (c : Nat → Nat) : Prop :=
  J 15 = iN n ∧ J 16 = iN top ∧ n ≤ 80 ∧ top ≤ 80 ∧ (∀ k, k < n → k < top → c k < 256) ∧ ∃ b r, rdv = .ref r ∧ ((r = 52 ∧ b = 9) ∨ (r = 56 ∧ b = 21 ∧ top ≤ 40) ∨ (r = 57 ∧ b = 22 ∧ top ≤ 40)) ∧ ∀ k, k < n → k < top → B b k &&& 255 = iN (c k) ∧ (c k < 128 → B b k = iN (c k))
theorem wQ_ne {q : Nat} (h : q < 1000) : ¬ (wQ (some q) = -1) := by
  intro e
  have e2 := congrArg Int32.toInt e
  rw [show wQ (some q) = iN q from rfl, iN_int (by omega), show (-1 : Int32).toInt = -1 by decide] at e2
  omega
theorem iN_ne1 {q : Nat} (h : q < 2147483648) : ¬ (iN q = (-1 : Int32)) := by
  intro e
  have e2 := congrArg Int32.toInt e
  rw [iN_int h, show (-1 : Int32).toInt = -1 by decide] at e2
  omega
section RT
variable {I A E I' A' : Nat → Nat → Int32} {L L' : Nat → Int64} {pr ot s : Nat} {J J' : Nat → Int32} {B B' : Nat → Nat → Int32} {M M' : Nat → Int64} {rdv rdv' : Value} {ru : Nat} {T : PH} {G P W n top fi mn : Nat} {c : Nat → Nat} {st : RSt}
theorem RD.fr (h : RD J B rdv n top c) (h15 : J' 15 = J 15) (h16 : J' 16 = J 16) (hb : ∀ x, (x = 9 ∨ x = 21 ∨ x = 22) → B' x = B x) : RD J' B' rdv n top c := by
  obtain ⟨h1, h2, h3, h4, h5, b, r, h6, h7, h8⟩ := h
  refine ⟨h15.trans h1, h16.trans h2, h3, h4, h5, b, r, h6, h7, ?_⟩
  rw [hb b (by omega)]
  exact h8
theorem r_hereG (h : RD J B rdv n top c) (h17 : J 17 = iN st.1) (ha : st.1 < 1000) : fX12_here 45 (encC I E L pr ot (encR J B M rdv ru T)) = some (hrV n top c st.1, (encC I E L pr ot (encR J B M rdv ru T))) := by
  obtain ⟨h1, h2, h3, h4, h5, b, r, rfl, h7, h8⟩ := h
  unfold fX12_here hrV
  rw [brG_17, brG_15, h17, h1]
  by_cases c1 : st.1 < n
  · rw [if_neg (by rw [iN_le (by omega) (by omega)]; omega), brG_17, brG_16, h17, h2]
    by_cases c2 : st.1 < top
    · rw [if_neg (by rw [iN_le (by omega) (by omega)]; omega), brR_14 (rdv := .null), brG_17, h17, if_pos ⟨c1, c2⟩]
      obtain ⟨e1, e2⟩ := h8 st.1 c1 c2
      rcases h7 with ⟨rfl, rfl⟩ | ⟨rfl, rfl, h9⟩ | ⟨rfl, rfl, h9⟩
      · rw [brA_9 (in_arr (show st.1 < 80 by omega) (by decide) rfl), iN_nat (by omega), e1]
      · rw [brA_21 (in_arr (show st.1 < 40 by omega) (by decide) rfl), iN_nat (by omega), e1]
      · rw [brA_22 (in_arr (show st.1 < 40 by omega) (by decide) rfl), iN_nat (by omega), e1]
    · rw [if_pos (by rw [iN_le (by omega) (by omega)]; omega), if_neg (by omega)]
  · rw [if_pos (by rw [iN_le (by omega) (by omega)]; omega), if_neg (by omega)]
theorem RD.pj (h : RD J B rdv n top c) : RD (pj J st) B rdv n top c := h.fr (pj_ne (by decide) (by decide)) (pj_ne (by decide) (by decide)) (fun _ _ => rfl)
theorem r_here (h : RD J B rdv n top c) (ha : st.1 < 1000) : fX12_here 45 (encC I E L pr ot (encR (pj J st) B M rdv ru T)) = some (hrV n top c st.1, (encC I E L pr ot (encR (pj J st) B M rdv ru T))) := r_hereG h.pj pj_17 ha
theorem r_fine0 (h : st.2 = none) : fX12_fine 45 (encC I E L pr ot (encR (pj J st) B M rdv ru T)) = some (1, (encC I E L pr ot (encR (pj J st) B M rdv ru T))) := by
  unfold fX12_fine
  rw [brG_18, pj_18, h, if_pos (show wQ none = -1 from rfl), h_z1]
theorem r_fine1 {q : Nat} (h : st.2 = some q) (hq : q < 1000) : fX12_fine 45 (encC I E L pr ot (encR (pj J st) B M rdv ru T)) = some (0, (encC I E L pr ot (encR (pj J st) B M rdv ru T))) := by
  unfold fX12_fine
  rw [brG_18, pj_18, h, if_neg (wQ_ne hq), h_z0]
theorem r_fault (hq : ∀ q, st.2 = some q → q < 1000) : fX12_fault 45 (iN st.1) (encC I E L pr ot (encR (pj J st) B M rdv ru T)) = some ((), (encC I E L pr ot (encR (pj J (fltP st)) B M rdv ru T))) := by
  unfold fX12_fault fltP
  rw [brK]
  cases e : st.2 with
  | none =>
    rw [hb_of (r_fine0 e), if_neg (by decide), brW_18, if_pos rfl, show iN st.1 = wQ (some st.1) from rfl, pj_w18]
  | some q =>
    rw [hb_of (r_fine1 e (hq q e)), if_pos rfl, if_neg (by simp)]
    rw [← e]
theorem hrV_in (ha : st.1 < n ∧ st.1 < top) : hrV n top c st.1 = iN (c st.1) := if_pos ha
theorem hrV_eq {ch : Nat} (hc : ∀ k, k < n → k < top → c k < 256) (h2 : ch < 256) : (hrV n top c st.1 = iN ch) = (st.1 < n ∧ st.1 < top ∧ c st.1 = ch) := by
  unfold hrV
  apply propext
  by_cases h : st.1 < n ∧ st.1 < top
  · rw [if_pos h, iN_eq (by have := hc st.1 h.1 h.2; omega) (by omega)]
    exact ⟨fun e => ⟨h.1, h.2, e⟩, fun e => e.2.2⟩
  · rw [if_neg h]
    exact ⟨fun e => absurd e.symm (iN_ne1 (by omega)), fun e => absurd ⟨e.1, e.2.1⟩ h⟩
theorem r_passes {ch : Nat} (h : RD J B rdv n top c) (ha : st.1 < 1000) (hq : ∀ q, st.2 = some q → q < 1000) (h2 : ch < 256) : fX12_passes 45 (iN ch) (encC I E L pr ot (encR (pj J st) B M rdv ru T)) = some ((if (pasP n top c ch st).1 then 1 else 0), (encC I E L pr ot (encR (pj J (pasP n top c ch st).2) B M rdv ru T))) := by
  have pt : st.2 = none → (st.1 < n ∧ st.1 < top ∧ c st.1 = ch) → pasP n top c ch st = (true, (st.1 + 1, none)) := fun e c1 => if_pos ⟨e, c1⟩
  have pf : ¬ (st.2 = none ∧ st.1 < n ∧ st.1 < top ∧ c st.1 = ch) → pasP n top c ch st = (false, st) := fun d => if_neg d
  have hE := hrV_eq (st := st) h.2.2.2.2.1 h2
  unfold fX12_passes
  rw [brK]
  cases e : st.2 with
  | none =>
    rw [hb_of (r_fine0 e), if_neg (by decide), brK, hb_of (r_here h ha)]
    by_cases c1 : st.1 < n ∧ st.1 < top ∧ c st.1 = ch
    · rw [if_pos (hE.mpr c1), pt e c1, brG_17, pj_17, brW_17, show iN st.1 + (1 : Int32) = iN (st.1 + 1) from iN_add, pj_w17, e, h_z1]
      rfl
    · rw [if_neg (fun d => c1 (hE.mp d)), pf (fun d => c1 d.2), h_z0]
      rfl
  | some q =>
    rw [hb_of (r_fine1 e (hq q e)), if_pos rfl, h_z0, pf (fun d => by rw [e] at d; cases d.1)]
    rfl
theorem r_oneOf (h : RD J B rdv n top c) (ha : st.1 < 1000) (hq : ∀ q, st.2 = some q → q < 1000) (hm : 0 < mn) (hf : fi + mn ≤ 128) : fX12_oneOf 45 (iN fi) (iN mn) (encC I E L pr ot (encR (pj J st) B M rdv ru T)) = some (iN (oneP n top c fi mn st).1, (encC I E L pr ot (encR (pj J (oneP n top c fi mn st).2) B M rdv ru T))) := by
  unfold fX12_oneOf oneP
  rw [brK]
  cases e : st.2 with
  | none =>
    rw [hb_of (r_fine0 e), if_neg (by decide), brK, hb_of (r_here h ha), if_pos rfl]
    have e2 : iN fi + iN mn - (1 : Int32) = iN (fi + mn - 1) := by
      rw [iN_add]; exact iN_sub (b := 1) (by omega)
    rw [e2]
    have hno : ¬ (st.1 < n ∧ st.1 < top ∧ fi ≤ c st.1 ∧ c st.1 < fi + mn) → ¬ (iN fi ≤ hrV n top c st.1 ∧ hrV n top c st.1 ≤ iN (fi + mn - 1)) := by
      intro c1 d
      by_cases c2 : st.1 < n ∧ st.1 < top
      · rw [hrV_in c2] at d
        have := h.2.2.2.2.1 st.1 c2.1 c2.2
        rw [iN_le (by omega) (by omega), iN_le (by omega) (by omega)] at d
        exact c1 ⟨c2.1, c2.2, by omega, by omega⟩
      · have d1 := d.1
        unfold hrV at d1
        rw [if_neg c2, Int32.le_iff_toInt_le, iN_int (by omega), show (-1 : Int32).toInt = -1 by decide] at d1
        omega
    by_cases c1 : st.1 < n ∧ st.1 < top ∧ fi ≤ c st.1 ∧ c st.1 < fi + mn
    · have eh : hrV n top c st.1 = iN (c st.1) := if_pos ⟨c1.1, c1.2.1⟩
      rw [eh, hb_of (in_y c1.2.2.1 (show c st.1 ≤ fi + mn - 1 by omega) (by omega)), if_neg (by decide), if_pos c1, brG_17, pj_17, brW_17, show iN st.1 + (1 : Int32) = iN (st.1 + 1) from iN_add, pj_w17, e]
      obtain ⟨h1, h2, h3, h4, h5, b, r, rfl, h7, h8⟩ := h
      obtain ⟨e3, e4⟩ := h8 st.1 c1.1 c1.2.1
      rw [brR_14 (rdv := .null), brG_17, pj_17, show iN (st.1 + 1) - (1 : Int32) = iN st.1 from iN_pred]
      have e5 : iN (c st.1) - iN fi = iN (c st.1 - fi) := iN_sub c1.2.2.1
      rcases h7 with ⟨rfl, rfl⟩ | ⟨rfl, rfl, h9⟩ | ⟨rfl, rfl, h9⟩
      · rw [brA_9 (in_arr (show st.1 < 80 by omega) (by decide) rfl), iN_nat (by omega), e4 (by omega), e5]
      · rw [brA_21 (in_arr (show st.1 < 40 by omega) (by decide) rfl), iN_nat (by omega), e4 (by omega), e5]
      · rw [brA_22 (in_arr (show st.1 < 40 by omega) (by decide) rfl), iN_nat (by omega), e4 (by omega), e5]
    · rw [hb_of (in_n (hno c1)), if_pos rfl, if_neg c1, brG_17, pj_17, brK, hb_of (r_fault hq)]
      unfold fltP
      rw [e]
      rfl
  | some q =>
    rw [hb_of (r_fine1 e (hq q e)), if_pos rfl, if_neg (by simp)]
    rfl
theorem r_wasRight (h15 : J 15 = iN n) (hn : n ≤ 80) (ha : st.1 < 1000) (hq : ∀ q, st.2 = some q → q < 1000) : fX12_wasRight 45 (encC I E L pr ot (encR (pj J st) B M rdv ru T)) = some ((if (rgtP n st).2 = none then 1 else 0), (encC I E L pr ot (encR (pj J (rgtP n st)) B M rdv ru T))) := by
  have j19 : ∀ st : RSt, (∀ q, st.2 = some q → q < 1000) → fX12_wasRight_J19 45 (encC I E L pr ot (encR (pj J st) B M rdv ru T)) = some ((if st.2 = none then 1 else 0), (encC I E L pr ot (encR (pj J st) B M rdv ru T))) := by
    intro st hq
    unfold fX12_wasRight_J19
    rw [brK]
    cases e : st.2 with
    | none => rw [hb_of (r_fine0 e), h_z1]; rfl
    | some q => rw [hb_of (r_fine1 e (hq q e)), h_z0]; rfl
  unfold fX12_wasRight rgtP
  rw [brG_17, brG_15, pj_17, pj_ne (by decide) (by decide), h15]
  by_cases c1 : st.1 < n
  · rw [if_neg (by rw [iN_le (by omega) (by omega)]; omega), if_pos c1, brG_17, pj_17, brK, hb_of (r_fault hq), j19]
    intro q e
    unfold fltP at e
    dsimp only at e
    split at e
    · cases e; omega
    · exact hq q e
  · rw [if_pos (by rw [iN_le (by omega) (by omega)]; omega), if_neg c1, j19 st hq]
theorem c_at (h1 : I 1 1 = iN n) (hn : n ≤ 80) (hc : ∀ k, k < n → A 2 k = iN (c k)) {p : Nat} (hp : p < 1000) : fX7_at 1 (iN p) (encC I A L pr ot T) = some (hrV n 1000 c p, (encC I A L pr ot T)) := by
  unfold fX7_at hrV
  rw [bG_1_1, h1]
  by_cases c1 : p < n
  · rw [hb_of (show fX11_within (iN p) (0 : Int32) (iN n - 1) (encC I A L pr ot T) = _ by rw [show iN n - 1 = iN (n - 1) from iN_sub (b := 1) (by omega)]; exact within_y (Nat.zero_le p) (by omega) (by omega)), if_neg (by decide), bR_1_0, bA_2 (in_arr (show p < 80 by omega) (by decide) rfl), iN_nat (by omega), hc p c1, if_pos ⟨c1, hp⟩]
  · rw [if_neg (by omega)]
    have e : fX11_within (iN p) (0 : Int32) (iN n - 1) (encC I A L pr ot T) = some (0, (encC I A L pr ot T)) := by
      refine within_n (fun d => ?_)
      have d2 := d.2
      rw [Int32.le_iff_toInt_le, iN_int (by omega), Int32.toInt_sub, iN_int (by omega), show (1 : Int32).toInt = 1 by decide] at d2
      have : ((n : Int) - 1).bmod (2 ^ 32) = (n : Int) - 1 := by
        rw [Int.bmod_eq_of_le] <;> omega
      omega
    rw [hb_of e, if_pos rfl]
theorem c_digitAt (h1 : I 1 1 = iN n) (hn : n ≤ 80) (hc : ∀ k, k < n → A 2 k = iN (c k)) {p : Nat} (hp : p < n) (h48 : 48 ≤ c p) : fX7_digitAt 1 (iN p) (encC I A L pr ot T) = some (iN (c p - 48), (encC I A L pr ot T)) := by
  unfold fX7_digitAt
  rw [bK_1, hb_of (c_at h1 hn hc (by omega))]
  unfold hrV
  rw [if_pos ⟨hp, by omega⟩, show iN (c p) - (48 : Int32) = iN (c p - 48) from iN_sub h48]
theorem c_cut0 (h1 : I 1 1 = iN n) (hn : n ≤ 80) : fX7_cut 1 (0 : Int32) (encC I A L pr ot T) = some (1, (encC (u2 I 1 1 0) A L pr ot T)) := by
  unfold fX7_cut
  rw [bG_1_1, h1, hb_of (show fX11_within (0 : Int32) (0 : Int32) (iN n) (encC I A L pr ot T) = _ from within_y (Nat.le_refl 0) (Nat.zero_le n) (by omega)), if_neg (by decide), bW_1_1, h_z1]
theorem c_sizeT : fX7_size 1 (encC I A L pr ot T) = some (I 1 1, (encC I A L pr ot T)) := by
  unfold fX7_size
  rw [bG_1_1]
end RT
/-! sign by sign -/
section SL
variable {σ : Type} (tk : σ → Nat → Option σ) (may : σ → Bool) (n most : Nat) (c : Nat → Nat)
def slF : Nat → σ → Nat → Option Nat × σ
  | 0, s, p => (if n ≤ most ∧ may s = true then none else some p, s)
  | d + 1, s, p => match tk s (c p) with
    | none => (some p, s)
    | some s' => slF d s' (p + 1)
def Sim (s0 s : σ) (st : RSt) : Prop :=
  (st.2 = none → st.1 ≤ min n most ∧ slF tk may n most c (min n most) s0 0 = slF tk may n most c (min n most - st.1) s st.1) ∧ ∀ q, st.2 = some q → (slF tk may n most c (min n most) s0 0).1 = some q ∧ q ≤ min n most
end SL
section SL
variable {σ : Type} {tk : σ → Nat → Option σ} {may : σ → Bool} {n most fi mn : Nat} {c : Nat → Nat} {s0 s s' : σ} {st : RSt}
theorem Sim.start : Sim tk may n most c s0 s0 (0, none) := ⟨fun _ => ⟨Nat.zero_le _, rfl⟩, fun _ h => by cases h⟩
theorem Sim.any (h : Sim tk may n most c s0 s st) (he : st.2 ≠ none) : Sim tk may n most c s0 s' st := ⟨fun e => absurd e he, h.2⟩
theorem Sim.ok (h : Sim tk may n most c s0 s st) (he : st.2 = none) (hl : st.1 < n ∧ st.1 < most) (ht : tk s (c st.1) = some s') : Sim tk may n most c s0 s' (st.1 + 1, none) := by
  refine ⟨fun _ => ⟨by dsimp only; omega, ?_⟩, fun _ e => by cases e⟩
  rw [(h.1 he).2]
  dsimp only
  obtain ⟨d, hd⟩ : ∃ d, min n most - st.1 = d + 1 := ⟨min n most - st.1 - 1, by omega⟩
  rw [hd, show min n most - (st.1 + 1) = d by omega]
  show (match tk s (c st.1) with | none => _ | some s' => _) = _
  rw [ht]
theorem Sim.flt (h : Sim tk may n most c s0 s st) (he : st.2 = none) (hno : st.1 < n → st.1 < most → tk s (c st.1) = none) (hm : st.1 = n → n ≤ most → may s = false) : Sim tk may n most c s0 s' (fltP st) := by
  unfold fltP
  rw [if_pos he]
  obtain ⟨h1, h2⟩ := h.1 he
  refine ⟨fun e => (by cases e), fun q e => ?_⟩
  cases e
  refine ⟨?_, h1⟩
  rw [h2]
  by_cases c1 : st.1 < min n most
  · obtain ⟨d, hd⟩ : ∃ d, min n most - st.1 = d + 1 := ⟨min n most - st.1 - 1, by omega⟩
    rw [hd]
    show (match tk s (c st.1) with | none => (some st.1, s) | some s' => slF tk may n most c d s' (st.1 + 1)).1 = _
    rw [hno (by omega) (by omega)]
  · rw [show min n most - st.1 = 0 by omega]
    show (if n ≤ most ∧ may s = true then none else some st.1) = some st.1
    rw [if_neg]
    rintro ⟨d1, d2⟩
    rw [hm (by omega) d1] at d2
    cases d2
theorem Sim.one (h : Sim tk may n most c s0 s st) (ht : ∀ ch, tk s ch = if fi ≤ ch ∧ ch < fi + mn then some s' else none) (hm : may s = false) : Sim tk may n most c s0 s' (oneP n most c fi mn st).2 := by
  unfold oneP
  by_cases e : st.2 = none
  · rw [if_pos e]
    by_cases c1 : st.1 < n ∧ st.1 < most ∧ fi ≤ c st.1 ∧ c st.1 < fi + mn
    · rw [if_pos c1]
      exact h.ok e ⟨c1.1, c1.2.1⟩ (by rw [ht, if_pos c1.2.2])
    · rw [if_neg c1]
      have := h.flt (s' := s') e (fun a b => by rw [ht, if_neg (fun d => c1 ⟨a, b, d⟩)]) (fun _ _ => hm)
      unfold fltP at this
      rw [if_pos e] at this
      exact this
  · rw [if_neg e]
    exact h.any e
theorem Sim.fin (h : Sim tk may n most c s0 s st) (hno : st.2 = none → st.1 < n → st.1 < most → tk s (c st.1) = none) (hm : st.2 = none → may s = true) : (slF tk may n most c (min n most) s0 0).1 = (rgtP n st).2 ∧ ((rgtP n st).2 = none → st.2 = none ∧ st.1 = n ∧ n ≤ most ∧ (slF tk may n most c (min n most) s0 0).2 = s) := by
  unfold rgtP
  by_cases e : st.2 = none
  · obtain ⟨h1, h2⟩ := h.1 e
    by_cases c1 : st.1 < n
    · rw [if_pos c1]
      have e2 : (fltP st).2 = some st.1 := by unfold fltP; rw [if_pos e]
      have := (h.flt (s' := s) e (hno e) (fun d => by omega)).2 st.1 e2
      exact ⟨this.1.trans e2.symm, fun d => by rw [e2] at d; cases d⟩
    · rw [if_neg c1]
      have h3 : st.1 = n := by omega
      have h4 : n ≤ most := by omega
      rw [h2, show min n most - st.1 = 0 by omega]
      have e3 : slF tk may n most c 0 s st.1 = (none, s) := by
        show (if n ≤ most ∧ may s = true then none else some st.1, s) = _
        rw [if_pos ⟨h4, hm e⟩]
      rw [e3]
      exact ⟨e.symm, fun _ => ⟨e, h3, h4, rfl⟩⟩
  · obtain ⟨q, hq⟩ : ∃ q, st.2 = some q := Option.ne_none_iff_exists'.mp e
    have e2 : (if st.1 < n then fltP st else st).2 = some q := by
      split
      · unfold fltP; rw [if_neg e]; exact hq
      · exact hq
    rw [e2]
    exact ⟨(h.2 q hq).1, fun d => by cases d⟩
theorem slF_le : ∀ (d : Nat) (s : σ) (p q : Nat), (slF tk may n most c d s p).1 = some q → p ≤ q ∧ q ≤ p + d
  | 0, s, p, q, h => by
    change (if n ≤ most ∧ may s = true then none else some p) = some q at h
    split at h
    · cases h
    · cases h; omega
  | d + 1, s, p, q, h => by
    change (match tk s (c p) with | none => (some p, s) | some s' => slF tk may n most c d s' (p + 1)).1 = some q at h
    split at h
    · cases h; omega
    · have := slF_le d _ _ q h; omega
/-- the class's loop over the signs -/
theorem slip_lp {H : Type} (F : Nat → Int32 → H → Option (Int32 × H)) (Rel : σ → H → Prop) (Any : H → Prop)
    (hs : ∀ k s h, k < min n most → Rel s h → (tk s (c k) = none → ∃ h', Any h' ∧ ∀ m, F (m + 1) (iN k) h = some (iN k, h')) ∧ (∀ s', tk s (c k) = some s' → ∃ h', Rel s' h' ∧ ∀ m, F (m + 1) (iN k) h = F m (iN (k + 1)) h'))
    (he : ∀ s h, Rel s h → ∃ h', Rel s h' ∧ ∀ m, F (m + 1) (iN (min n most)) h = some (wQ (if n ≤ most ∧ may s = true then none else some (min n most)), h'))
    (hr : ∀ s h, Rel s h → Any h) :
    ∀ (d k : Nat) (s : σ) (h : H), k + d = min n most → Rel s h → ∃ h', (∀ m, d < m → F m (iN k) h = some (wQ (slF tk may n most c d s k).1, h')) ∧ Any h' ∧ ((slF tk may n most c d s k).1 = none → Rel (slF tk may n most c d s k).2 h') := by
  intro d
  induction d with
  | zero =>
    intro k s h hk hR
    obtain ⟨h', h1, h2⟩ := he s h hR
    cases (show k = min n most by omega)
    refine ⟨h', fun m hm => ?_, hr _ _ h1, fun _ => h1⟩
    obtain ⟨j, rfl⟩ : ∃ j, m = j + 1 := ⟨m - 1, by omega⟩
    exact h2 j
  | succ d ih =>
    intro k s h hk hR
    obtain ⟨h1, h2⟩ := hs k s h (by omega) hR
    cases e : tk s (c k) with
    | none =>
      obtain ⟨h', h3, h4⟩ := h1 e
      have e2 : slF tk may n most c (d + 1) s k = (some k, s) := by
        show (match tk s (c k) with | none => (some k, s) | some s' => slF tk may n most c d s' (k + 1)) = _
        rw [e]
      rw [e2]
      refine ⟨h', fun m hm => ?_, h3, fun d => by cases d⟩
      obtain ⟨j, rfl⟩ : ∃ j, m = j + 1 := ⟨m - 1, by omega⟩
      exact h4 j
    | some s' =>
      obtain ⟨h', h3, h4⟩ := h2 s' e
      have e2 : slF tk may n most c (d + 1) s k = slF tk may n most c d s' (k + 1) := by
        show (match tk s (c k) with | none => (some k, s) | some s' => slF tk may n most c d s' (k + 1)) = _
        rw [e]
      rw [e2]
      obtain ⟨h5, h6, h7, h8⟩ := ih (k + 1) s' h' (by omega) h3
      refine ⟨h5, fun m hm => ?_, h7, h8⟩
      obtain ⟨j, rfl⟩ : ∃ j, m = j + 1 := ⟨m - 1, by omega⟩
      rw [h4 j]
      exact h6 j (by omega)
end SL
