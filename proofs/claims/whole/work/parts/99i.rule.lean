/-! RULE: the model's reader against the machine -/
def XD (s : RuS) (ch : Nat) : Prop := 48 ≤ ch → ch < 58 → tkR s ch = none
def X3 (s : RuS) (ch : Nat) : Prop := XD s ch ∧ ch ≠ 42 ∧ ch ≠ 47
def X2 (s : RuS) (ch : Nat) : Prop := X3 s ch ∧ ch ≠ 43 ∧ ch ≠ 45
def XH (s : RuS) (ch : Nat) : Prop := ch ≠ 41 → tkR s ch = none
/-- a part was read: what the machine has then -/
def Good (ft : Nat → Int32) (n : Nat) (c : Nat → Nat) (q p : Nat) (cm0 : Nat → Bool) (r : Nat) (V : List Int32) (W : List Nat) (X : RuS → Nat → Prop) (v : Int32) (st : RSt) : Prop :=
  ∃ o w d cm, Sim tkR mayR n 40 c ruS0 (o, w, p, d, cm, false) st ∧ (st.2 = none → (∀ b, b < q → cm b = cm0 b) ∧ Pnd ft r o w v V W ∧ (st.1 < n → st.1 < 40 → X (o, w, p, d, cm, false) (c st.1)))
section RM
variable {n p d k l ch a q r D : Nat} {c : Nat → Nat} {o : List Int32} {w W : List Nat} {cm cm0 : Nat → Bool} {ft : Nat → Int32} {v : Int32} {V : List Int32} {st : RSt} {X Y : RuS → Nat → Prop}
theorem Good.imp (h : Good ft n c q p cm0 r V W X v st) (e : ∀ s ch, st.2 = none → st.1 < n → st.1 < 40 → ch = c st.1 → X s ch → Y s ch) : Good ft n c q p cm0 r V W Y v st := by
  obtain ⟨o, w, d, cm, h1, h2⟩ := h
  refine ⟨o, w, d, cm, h1, fun f => ?_⟩
  obtain ⟨g1, g2, g3⟩ := h2 f
  exact ⟨g1, g2, fun a b => e _ _ f a b rfl (g3 a b)⟩
theorem tkR_t : tkR (o, w, p, d, cm, true) ch = (if ch = 45 then some (o, 256 :: w, p, d, cm, true)
    else if ch = 40 then (if p + 1 ≤ 4 then some (o, 40 :: w, p + 1, d, fun i => !(i == p + 1) && cm i, true) else none)
    else if 48 ≤ ch ∧ ch < 58 then some (iN (ch - 48) :: o, w, p, 1, cm, false)
    else (match ltN ch with
      | some l => some (iN (1000 + l) :: o, w, p, d, cm, false)
      | none => none)) := rfl
theorem tkR_f : tkR (o, w, p, d, cm, false) ch = (if 0 < d ∧ 48 ≤ ch ∧ ch < 58 then (match o with
      | [] => none
      | x :: o' => if d + 1 ≤ 3 then some ((x * 10 + iN ch - 48) :: o', w, p, d + 1, cm, false) else none)
    else if ch = 41 then (if p = 0 then none else some ((layP 1 w o).1, (layP 1 w o).2.tail, p - 1, 0, cm, false))
    else if rkN ch = 0 then none
    else if rkN ch = 1 ∧ cm p = true then none
    else some ((layP (rkN ch) w o).1, ch :: (layP (rkN ch) w o).2, p, 0, (if rkN ch = 1 then fun i => (i == p) || cm i else cm), true)) := rfl
theorem tkR_op (h : rkN ch = 2 ∨ rkN ch = 3) (hc : ch < 48) : tkR (o, w, p, d, cm, false) ch = some ((layP (rkN ch) w o).1, ch :: (layP (rkN ch) w o).2, p, 0, cm, true) := by
  rw [tkR_f, if_neg (show ¬ (0 < d ∧ 48 ≤ ch ∧ ch < 58) by omega), if_neg (show ¬ ch = 41 by intro e; subst e; revert h; decide), if_neg (show ¬ rkN ch = 0 by omega), if_neg (show ¬ (rkN ch = 1 ∧ cm p = true) by omega), if_neg (show ¬ rkN ch = 1 by omega)]
theorem tkR_cmp (h : rkN ch = 1) (hc : 58 ≤ ch) (hm : cm p = false) : tkR (o, w, p, d, cm, false) ch = some ((layP (rkN ch) w o).1, ch :: (layP (rkN ch) w o).2, p, 0, fun i => (i == p) || cm i, true) := by
  rw [tkR_f, if_neg (show ¬ (0 < d ∧ 48 ≤ ch ∧ ch < 58) by omega), if_neg (show ¬ ch = 41 by omega), if_neg (show ¬ rkN ch = 0 by omega), if_neg (show ¬ (rkN ch = 1 ∧ cm p = true) by rw [hm]; intro f; cases f.2), if_pos h]
theorem tkR_close (hp : p ≠ 0) (h : ch = 41) : tkR (o, w, p, d, cm, false) ch = some ((layP 1 w o).1, (layP 1 w o).2.tail, p - 1, 0, cm, false) := by
  rw [tkR_f, if_neg (show ¬ (0 < d ∧ 48 ≤ ch ∧ ch < 58) by omega), if_pos h, if_neg hp]
theorem rk_lt (h : ch < 256) : rkN ch ≤ 3 := by
  unfold rkN
  split
  · omega
  · split
    · omega
    · split
      · omega
      · rw [if_neg (by omega)]; omega
theorem rk_23 (h : rkN ch = 2 ∨ rkN ch = 3) (hc : ch < 256) : ch = 42 ∨ ch = 47 ∨ ch = 43 ∨ ch = 45 := by
  unfold rkN at h
  split at h
  · omega
  · split at h
    · omega
    · split at h
      · omega
      · rw [if_neg (by omega)] at h; omega
theorem rk_1 (h : rkN ch = 1) (hc : ch < 256) : ch = 60 ∨ ch = 61 ∨ ch = 62 := by
  unfold rkN at h
  split at h
  · omega
  · split at h
    · omega
    · split at h
      · omega
      · rw [if_neg (by omega)] at h; omega
/-- nothing but a bracket that closes can follow -/
theorem XH.of (h : X2 (o, w, p, d, cm, false) ch) (hc : ch < 256) (h1 : cm p = true ∨ (ch ≠ 60 ∧ ch ≠ 61 ∧ ch ≠ 62)) : XH (o, w, p, d, cm, false) ch := by
  intro h41
  obtain ⟨⟨h2, h3, h4⟩, h5, h6⟩ := h
  by_cases dg : 48 ≤ ch ∧ ch < 58
  · exact h2 dg.1 dg.2
  · rw [tkR_f, if_neg (show ¬ (0 < d ∧ 48 ≤ ch ∧ ch < 58) from fun f => dg f.2), if_neg h41]
    by_cases r0 : rkN ch = 0
    · rw [if_pos r0]
    · rw [if_neg r0]
      by_cases r1 : rkN ch = 1
      · rcases h1 with e | e
        · rw [if_pos ⟨r1, e⟩]
        · have := rk_1 r1 hc
          omega
      · have := rk_lt hc
        have := rk_23 (show rkN ch = 2 ∨ rkN ch = 3 by omega) hc
        omega
theorem tkR_45 (h : ch = 45) : tkR (o, w, p, d, cm, true) ch = some (o, 256 :: w, p, d, cm, true) := by
  rw [tkR_t, if_pos h]
theorem tkR_40 (h : p + 1 ≤ 4) (e : ch = 40) : tkR (o, w, p, d, cm, true) ch = some (o, 40 :: w, p + 1, d, fun i => !(i == p + 1) && cm i, true) := by
  rw [tkR_t, if_neg (show ¬ ch = 45 by omega), if_pos e, if_pos h]
theorem tkR_40n (h : ¬ p + 1 ≤ 4) (e : ch = 40) : tkR (o, w, p, d, cm, true) ch = none := by
  rw [tkR_t, if_neg (show ¬ ch = 45 by omega), if_pos e, if_neg h]
theorem tkR_dig (h : 48 ≤ ch ∧ ch < 58) : tkR (o, w, p, d, cm, true) ch = some (iN (ch - 48) :: o, w, p, 1, cm, false) := by
  rw [tkR_t, if_neg (show ¬ ch = 45 by omega), if_neg (show ¬ ch = 40 by omega), if_pos h]
theorem tkR_let (h : ¬ (48 ≤ ch ∧ ch < 58)) (h1 : ch ≠ 45) (h2 : ch ≠ 40) : tkR (o, w, p, d, cm, true) ch = (match ltN ch with | some l => some (iN (1000 + l) :: o, w, p, d, cm, false) | none => none) := by
  rw [tkR_t, if_neg h1, if_neg h2, if_neg h]
theorem tkR_more {x : Int32} (h : 48 ≤ ch ∧ ch < 58) (hd : 0 < d) : tkR (x :: o, w, p, d, cm, false) ch = if d + 1 ≤ 3 then some ((x * 10 + iN ch - 48) :: o, w, p, d + 1, cm, false) else none := by
  rw [tkR_f, if_pos (show 0 < d ∧ 48 ≤ ch ∧ ch < 58 from ⟨hd, h⟩)]
theorem XD_0 : XD (o, w, p, 0, cm, false) ch := by
  intro h1 h2
  have r0 : rkN ch = 0 := by
    unfold rkN
    rw [if_neg (by omega), if_neg (by omega), if_neg (by omega), if_neg (by omega)]
  rw [tkR_f, if_neg (show ¬ (0 < 0 ∧ 48 ≤ ch ∧ ch < 58) by omega), if_neg (show ¬ ch = 41 by omega), if_pos r0]
end RM
section RT
variable {I A E I' A' : Nat → Nat → Int32} {L L' : Nat → Int64} {pr ot s : Nat} {J J' : Nat → Int32} {B B' : Nat → Nat → Int32} {M M' : Nat → Int64} {rdv rdv' : Value} {ru : Nat} {T : PH} {n p d k l ch a q r D deep : Nat} {c : Nat → Nat} {o : List Int32} {w W : List Nat} {cm cm0 : Nat → Bool} {ft : Nat → Int32} {v : Int32} {V : List Int32} {st : RSt} {X Y : RuS → Nat → Prop}
/-- a thing is read as the machine takes it -/
def okT (I E : Nat → Nat → Int32) (L : Nat → Int64) (pr ot : Nat) (J : Nat → Int32) (B : Nat → Nat → Int32) (M : Nat → Int64) (rdv : Value) (ru : Nat) (T : PH) (n : Nat) (c : Nat → Nat) (ft : Nat → Int32) (rF : Nat → Int32 → PH → Option (Int32 × PH)) (D : Nat) : Prop :=
  ∀ deep a o w cm, deep ≤ 4 → Sim tkR mayR n 40 c ruS0 (o, w, deep, 0, cm, true) (a, none) → 40 < a + D → ∃ v st', rF 45 (iN deep) (encC I E L pr ot (encR (pj J (a, none)) B M rdv ru T)) = some (v, (encC I E L pr ot (encR (pj J st') B M rdv ru T))) ∧ RB 80 st' ∧ (st'.2 = none → a < st'.1) ∧
    ∃ o' k v0 d cm', Sim tkR mayR n 40 c ruS0 (o', rep k w, deep, d, cm', false) st' ∧ (st'.2 = none → (∀ b, b < deep + 1 → cm' b = cm b) ∧ evL ft o' = v0 :: evL ft o ∧ ngN k v0 = v ∧ (st'.1 < n → st'.1 < 40 → XD (o', rep k w, deep, d, cm', false) (c st'.1)))
def okR (I E : Nat → Nat → Int32) (L : Nat → Int64) (pr ot : Nat) (J : Nat → Int32) (B : Nat → Nat → Int32) (M : Nat → Int64) (rdv : Value) (ru : Nat) (T : PH) (n : Nat) (c : Nat → Nat) (ft : Nat → Int32) (rF : Nat → Int32 → PH → Option (Int32 × PH)) (D r qd : Nat) (X : RuS → Nat → Prop) (cl : Bool) : Prop :=
  ∀ deep a o w cm, deep ≤ 4 → Sim tkR mayR n 40 c ruS0 (o, w, deep, 0, cm, true) (a, none) → stP r w → 40 < a + D → (cl = true → cm deep = false) → ∃ v st', rF 45 (iN deep) (encC I E L pr ot (encR (pj J (a, none)) B M rdv ru T)) = some (v, (encC I E L pr ot (encR (pj J st') B M rdv ru T))) ∧ RB 80 st' ∧ (st'.2 = none → a < st'.1) ∧ Good ft n c (deep + 1 - qd) deep cm r (evL ft o) w X v st'
theorem prodL {rT : Nat → Int32 → PH → Option (Int32 × PH)} (hR : RD J B rdv n 40 c) (hT : okT I E L pr ot J B M rdv ru T n c ft rT D) (hd : deep ≤ 4) (hW : stP 3 W) (kx : Int32 → PH → Option (Int32 × PH)) : ∀ d v st, RB 80 st → Good ft n c (deep + 1) deep cm0 3 V W XD v st → (st.2 = none → 40 < st.1 + d ∧ 40 < st.1 + D) →
    ∃ v' st', (∀ m, d + 1 < m → fX12_product_L6 rT 45 (iN deep) kx m v (encC I E L pr ot (encR (pj J st) B M rdv ru T)) = kx v' (encC I E L pr ot (encR (pj J st') B M rdv ru T))) ∧ RB 80 st' ∧ (st'.2 = none → st.2 = none ∧ st.1 ≤ st'.1) ∧ Good ft n c (deep + 1) deep cm0 3 V W X3 v' st' := by
  intro d
  induction d with
  | zero =>
    intro v st hb hG hf
    cases e : st.2 with
    | none =>
      exfalso
      obtain ⟨o, w, dg, cm, g1, g2⟩ := hG
      have := (g1.1 e).1
      have := (hf e).1
      omega
    | some q =>
      refine ⟨v, st, fun m hm => ?_, hb, fun f => (by rw [e] at f; cases f), hG.imp (fun s ch f => by rw [e] at f; cases f)⟩
      obtain ⟨m, rfl⟩ : ∃ m', m = m' + 1 := ⟨m - 1, by omega⟩
      rw [fX12_product_L6, brK, hb_of (r_fine1 e (hb.2 q e)), if_pos rfl]
  | succ d ih =>
    intro v st hb hG hf
    cases e : st.2 with
    | some q =>
      refine ⟨v, st, fun m hm => ?_, hb, fun f => (by rw [e] at f; cases f), hG.imp (fun s ch f => by rw [e] at f; cases f)⟩
      obtain ⟨m, rfl⟩ : ∃ m', m = m' + 1 := ⟨m - 1, by omega⟩
      rw [fX12_product_L6, brK, hb_of (r_fine1 e (hb.2 q e)), if_pos rfl]
    | none =>
      have hh := r_here (I := I) (E := E) (L := L) (pr := pr) (ot := ot) (M := M) (ru := ru) (T := T) (st := st) hR (show st.1 < 1000 by have := hb.1; omega)
      have h42 := hrV_k (st := st) hR.2.2.2.2.1 (show 42 < 256 by decide)
      have h47 := hrV_k (st := st) hR.2.2.2.2.1 (show 47 < 256 by decide)
      by_cases yes : st.1 < n ∧ st.1 < 40 ∧ (c st.1 = 42 ∨ c st.1 = 47)
      · obtain ⟨o, w, dg, cm, g1, g2⟩ := hG
        obtain ⟨g3, ⟨o', g4, g5⟩, g6⟩ := g2 e
        have rk3 : rkN (c st.1) = 3 := by unfold rkN; rw [if_pos yes.2.2]
        have tk := tkR_op (o := o) (w := w) (p := deep) (d := dg) (cm := cm) (Or.inr rk3) (by omega)
        rw [rk3, g4] at tk
        have S1 := g1.ok e ⟨yes.1, yes.2.1⟩ tk
        obtain ⟨v2, st2, f1, f2, f3, o2, k, v0, d2, cm2, f4, f5⟩ := hT deep (st.1 + 1) o' (c st.1 :: W) cm hd S1 (by have := (hf e).2; omega)
        have G2 : Good ft n c (deep + 1) deep cm0 3 V W XD (outc (iN (c st.1)) v v2) st2 := by
          refine ⟨o2, _, d2, cm2, f4, fun e2 => ?_⟩
          obtain ⟨a1, a2, a3, a4⟩ := f5 e2
          refine ⟨fun b hb => (a1 b hb).trans (g3 b hb), ?_, a4⟩
          have pn := Pnd.negs (ft := ft) (r := 4) (W := c st.1 :: W) (V := evL ft o') (Nat.le_refl 4) (stP_cons (by omega)) k o2 v0 a2
          rw [a3, g5] at pn
          exact pn.bin (by decide) rk3 (Or.inr (Or.inr rk3)) hW
        obtain ⟨v', st', q1, q2, q3, q4⟩ := ih (outc (iN (c st.1)) v v2) st2 f2 G2 (fun e2 => by have := f3 e2; have := hf e; omega)
        refine ⟨v', st', fun m hm => ?_, q2, fun e2 => ⟨rfl, by have := q3 e2; have := f3 this.1; omega⟩, q4⟩
        obtain ⟨m, rfl⟩ : ∃ m', m = m' + 1 := ⟨m - 1, by omega⟩
        rw [← q1 m (by omega), fX12_product_L6, brK, hb_of (r_fine0 e), if_neg (by decide), brK, hb_of hh]
        have est : (st.1 + 1, st.2) = (st.1 + 1, (none : Option Nat)) := by rw [e]
        by_cases d42 : c st.1 = 42
        · rw [if_pos (show hrV n 40 c st.1 = 42 from h42.mpr ⟨yes.1, yes.2.1, d42⟩)]
          unfold fX12_product_J31_6 fX12_product_J45_6 fX12_product_J87_6
          rw [brK, hb_of hh, if_pos (show hrV n 40 c st.1 = 42 from h42.mpr ⟨yes.1, yes.2.1, d42⟩), brG_17, pj_17, show iN st.1 + (1 : Int32) = iN (st.1 + 1) from iN_add, brW_17, pj_w17, est, brK, hb_of f1, if_neg (by decide), d42]
          rfl
        · have d47 : c st.1 = 47 := yes.2.2.resolve_left d42
          have no42 : ¬ hrV n 40 c st.1 = 42 := fun f => d42 (h42.mp f).2.2
          rw [if_neg no42, brK, hb_of hh, if_pos (show hrV n 40 c st.1 = 47 from h47.mpr ⟨yes.1, yes.2.1, d47⟩)]
          unfold fX12_product_J31_6 fX12_product_J45_6 fX12_product_J87_6
          rw [brK, hb_of hh, if_neg no42, brG_17, pj_17, show iN st.1 + (1 : Int32) = iN (st.1 + 1) from iN_add, brW_17, pj_w17, est, brK, hb_of f1, if_pos rfl, d47]
          have eo : outc (iN 47) v v2 = if v2 = 0 then 0 else v / v2 := rfl
          rw [eo]
          by_cases z : v2 = 0
          · rw [if_pos z, if_pos z]
          · rw [if_neg z, if_neg z, if_neg z]
      · refine ⟨v, st, fun m hm => ?_, hb, fun _ => ⟨rfl, Nat.le_refl _⟩, hG.imp (fun s ch f a b e2 x => ⟨x, fun f => yes ⟨a, b, by omega⟩, fun f => yes ⟨a, b, by omega⟩⟩)⟩
        obtain ⟨m, rfl⟩ : ∃ m', m = m' + 1 := ⟨m - 1, by omega⟩
        rw [fX12_product_L6, brK, hb_of (r_fine0 e), if_neg (by decide), brK, hb_of hh, if_neg (show ¬ hrV n 40 c st.1 = 42 from fun f => yes ⟨(h42.mp f).1, (h42.mp f).2.1, Or.inl (h42.mp f).2.2⟩), brK, hb_of hh, if_neg (show ¬ hrV n 40 c st.1 = 47 from fun f => yes ⟨(h47.mp f).1, (h47.mp f).2.1, Or.inr (h47.mp f).2.2⟩)]
theorem okProd {rT : Nat → Int32 → PH → Option (Int32 × PH)} (hR : RD J B rdv n 40 c) (hT : okT I E L pr ot J B M rdv ru T n c ft rT D) : okR I E L pr ot J B M rdv ru T n c ft (fX12_product rT) D 3 0 X3 false := by
  intro deep a o w cm hd hS hw hD _
  obtain ⟨v, st, f1, f2, f3, o2, k, v0, d2, cm2, f4, f5⟩ := hT deep a o w cm hd hS hD
  have G2 : Good ft n c (deep + 1) deep cm 3 (evL ft o) w XD v st := by
    refine ⟨o2, _, d2, cm2, f4, fun e2 => ?_⟩
    obtain ⟨a1, a2, a3, a4⟩ := f5 e2
    refine ⟨a1, ?_, a4⟩
    have pn := Pnd.negs (ft := ft) (r := 3) (W := w) (V := evL ft o) (by decide) hw k o2 v0 a2
    rw [a3] at pn
    exact pn
  obtain ⟨v', st', q1, q2, q3, q4⟩ := prodL hR hT hd hw (fun x3 h4 => some (x3, h4)) 50 v st f2 G2 (fun e => by have := f3 e; omega)
  refine ⟨v', st', ?_, q2, fun e => by have := q3 e; have := f3 this.1; omega, q4⟩
  unfold fX12_product
  rw [brK, hb_of f1]
  exact q1 FU (by unfold FU; omega)
theorem sumL {rP : Nat → Int32 → PH → Option (Int32 × PH)} (hR : RD J B rdv n 40 c) (hT : okR I E L pr ot J B M rdv ru T n c ft rP D 3 0 X3 false) (hd : deep ≤ 4) (hW : stP 2 W) (kx : Int32 → PH → Option (Int32 × PH)) : ∀ d v st, RB 80 st → Good ft n c (deep + 1) deep cm0 2 V W X3 v st → (st.2 = none → 40 < st.1 + d ∧ 40 < st.1 + D) →
    ∃ v' st', (∀ m, d + 1 < m → fX12_sum_L6 rP 45 (iN deep) kx m v (encC I E L pr ot (encR (pj J st) B M rdv ru T)) = kx v' (encC I E L pr ot (encR (pj J st') B M rdv ru T))) ∧ RB 80 st' ∧ (st'.2 = none → st.2 = none ∧ st.1 ≤ st'.1) ∧ Good ft n c (deep + 1) deep cm0 2 V W X2 v' st' := by
  intro d
  induction d with
  | zero =>
    intro v st hb hG hf
    cases e : st.2 with
    | none =>
      exfalso
      obtain ⟨o, w, dg, cm, g1, g2⟩ := hG
      have := (g1.1 e).1
      have := (hf e).1
      omega
    | some q =>
      refine ⟨v, st, fun m hm => ?_, hb, fun f => (by rw [e] at f; cases f), hG.imp (fun s ch f => by rw [e] at f; cases f)⟩
      obtain ⟨m, rfl⟩ : ∃ m', m = m' + 1 := ⟨m - 1, by omega⟩
      rw [fX12_sum_L6, brK, hb_of (r_fine1 e (hb.2 q e)), if_pos rfl]
  | succ d ih =>
    intro v st hb hG hf
    cases e : st.2 with
    | some q =>
      refine ⟨v, st, fun m hm => ?_, hb, fun f => (by rw [e] at f; cases f), hG.imp (fun s ch f => by rw [e] at f; cases f)⟩
      obtain ⟨m, rfl⟩ : ∃ m', m = m' + 1 := ⟨m - 1, by omega⟩
      rw [fX12_sum_L6, brK, hb_of (r_fine1 e (hb.2 q e)), if_pos rfl]
    | none =>
      have hh := r_here (I := I) (E := E) (L := L) (pr := pr) (ot := ot) (M := M) (ru := ru) (T := T) (st := st) hR (show st.1 < 1000 by have := hb.1; omega)
      have h43 := hrV_k (st := st) hR.2.2.2.2.1 (show 43 < 256 by decide)
      have h45 := hrV_k (st := st) hR.2.2.2.2.1 (show 45 < 256 by decide)
      by_cases yes : st.1 < n ∧ st.1 < 40 ∧ (c st.1 = 43 ∨ c st.1 = 45)
      · obtain ⟨o, w, dg, cm, g1, g2⟩ := hG
        obtain ⟨g3, ⟨o', g4, g5⟩, g6⟩ := g2 e
        have rk2 : rkN (c st.1) = 2 := by unfold rkN; rw [if_neg (by omega), if_pos yes.2.2]
        have tk := tkR_op (o := o) (w := w) (p := deep) (d := dg) (cm := cm) (Or.inl rk2) (by omega)
        rw [rk2, g4] at tk
        have S1 := g1.ok e ⟨yes.1, yes.2.1⟩ tk
        obtain ⟨v2, st2, f1, f2, f3, o2, w2, d2, cm2, f4, f5⟩ := hT deep (st.1 + 1) o' (c st.1 :: W) cm hd S1 (stP_cons (by omega)) (by have := (hf e).2; omega) (fun f => by cases f)
        have G2 : Good ft n c (deep + 1) deep cm0 2 V W X3 (outc (iN (c st.1)) v v2) st2 := by
          refine ⟨o2, w2, d2, cm2, f4, fun e2 => ?_⟩
          obtain ⟨a1, a2, a4⟩ := f5 e2
          refine ⟨fun b hb => (a1 b hb).trans (g3 b hb), ?_, a4⟩
          rw [g5] at a2
          exact a2.bin (by decide) rk2 (Or.inr (Or.inl rk2)) hW
        obtain ⟨v', st', q1, q2, q3, q4⟩ := ih (outc (iN (c st.1)) v v2) st2 f2 G2 (fun e2 => by have := f3 e2; have := hf e; omega)
        refine ⟨v', st', fun m hm => ?_, q2, fun e2 => ⟨rfl, by have := q3 e2; have := f3 this.1; omega⟩, q4⟩
        obtain ⟨m, rfl⟩ : ∃ m', m = m' + 1 := ⟨m - 1, by omega⟩
        rw [← q1 m (by omega), fX12_sum_L6, brK, hb_of (r_fine0 e), if_neg (by decide), brK, hb_of hh]
        have est : (st.1 + 1, st.2) = (st.1 + 1, (none : Option Nat)) := by rw [e]
        by_cases d43 : c st.1 = 43
        · rw [if_pos (show hrV n 40 c st.1 = 43 from h43.mpr ⟨yes.1, yes.2.1, d43⟩)]
          unfold fX12_sum_J31_6 fX12_sum_J45_6 fX12_sum_J78_6
          rw [brK, hb_of hh, if_pos (show hrV n 40 c st.1 = 43 from h43.mpr ⟨yes.1, yes.2.1, d43⟩), brG_17, pj_17, show iN st.1 + (1 : Int32) = iN (st.1 + 1) from iN_add, brW_17, pj_w17, est, brK, hb_of f1, if_neg (by decide), d43]
          rfl
        · have d45 : c st.1 = 45 := yes.2.2.resolve_left d43
          have no43 : ¬ hrV n 40 c st.1 = 43 := fun f => d43 (h43.mp f).2.2
          rw [if_neg no43, brK, hb_of hh, if_pos (show hrV n 40 c st.1 = 45 from h45.mpr ⟨yes.1, yes.2.1, d45⟩)]
          unfold fX12_sum_J31_6 fX12_sum_J45_6 fX12_sum_J78_6
          rw [brK, hb_of hh, if_neg no43, brG_17, pj_17, show iN st.1 + (1 : Int32) = iN (st.1 + 1) from iN_add, brW_17, pj_w17, est, brK, hb_of f1, if_pos rfl, d45]
          rfl
      · refine ⟨v, st, fun m hm => ?_, hb, fun _ => ⟨rfl, Nat.le_refl _⟩, hG.imp (fun s ch f a b e2 x => ⟨x, fun f => yes ⟨a, b, by omega⟩, fun f => yes ⟨a, b, by omega⟩⟩)⟩
        obtain ⟨m, rfl⟩ : ∃ m', m = m' + 1 := ⟨m - 1, by omega⟩
        rw [fX12_sum_L6, brK, hb_of (r_fine0 e), if_neg (by decide), brK, hb_of hh, if_neg (show ¬ hrV n 40 c st.1 = 43 from fun f => yes ⟨(h43.mp f).1, (h43.mp f).2.1, Or.inl (h43.mp f).2.2⟩), brK, hb_of hh, if_neg (show ¬ hrV n 40 c st.1 = 45 from fun f => yes ⟨(h45.mp f).1, (h45.mp f).2.1, Or.inr (h45.mp f).2.2⟩)]
theorem okSum {rP : Nat → Int32 → PH → Option (Int32 × PH)} (hR : RD J B rdv n 40 c) (hT : okR I E L pr ot J B M rdv ru T n c ft rP D 3 0 X3 false) : okR I E L pr ot J B M rdv ru T n c ft (fX12_sum rP) D 2 0 X2 false := by
  intro deep a o w cm hd hS hw hD _
  obtain ⟨v, st, f1, f2, f3, o2, w2, d2, cm2, f4, f5⟩ := hT deep a o w cm hd hS (hw.le (by decide)) hD (fun f => by cases f)
  have G2 : Good ft n c (deep + 1) deep cm 2 (evL ft o) w X3 v st := by
    refine ⟨o2, w2, d2, cm2, f4, fun e2 => ?_⟩
    obtain ⟨a1, a2, a4⟩ := f5 e2
    exact ⟨a1, a2.low (by decide) hw, a4⟩
  obtain ⟨v', st', q1, q2, q3, q4⟩ := sumL hR hT hd hw (fun x3 h4 => some (x3, h4)) 50 v st f2 G2 (fun e => by have := f3 e; omega)
  refine ⟨v', st', ?_, q2, fun e => by have := q3 e; have := f3 this.1; omega, q4⟩
  unfold fX12_sum
  rw [brK, hb_of f1]
  exact q1 FU (by unfold FU; omega)
end RT
