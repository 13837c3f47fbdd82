/-! RULE: the model's reader, things and the whole -/
def bnd : Nat → Nat
  | 0 => 1
  | i + 1 => 10 * bnd i
section RT
variable {I A E I' A' : Nat → Nat → Int32} {L L' : Nat → Int64} {pr ot s : Nat} {J J' : Nat → Int32} {B B' : Nat → Nat → Int32} {M M' : Nat → Int64} {rdv rdv' : Value} {ru : Nat} {T : PH} {n p d k l ch a q r D deep : Nat} {c : Nat → Nat} {o : List Int32} {w W : List Nat} {cm cm0 : Nat → Bool} {ft : Nat → Int32} {v : Int32} {V : List Int32} {st : RSt} {X Y : RuS → Nat → Prop}
theorem okHeld {rS : Nat → Int32 → PH → Option (Int32 × PH)} (hR : RD J B rdv n 40 c) (hT : okR I E L pr ot J B M rdv ru T n c ft rS D 2 0 X2 false) : okR I E L pr ot J B M rdv ru T n c ft (fX12_heldBy rS) D 1 1 XH true := by
  intro deep a o w cm hd hS hw hD hcm
  obtain ⟨v, st, f1, f2, f3, G⟩ := hT deep a o w cm hd hS (hw.le (by decide)) hD (fun f => by cases f)
  have e60 := r_passes (I := I) (E := E) (L := L) (pr := pr) (ot := ot) (M := M) (ru := ru) (T := T) (ch := 60) (st := st) hR (show st.1 < 1000 by have := f2.1; omega) f2.2 (by decide)
  have e61 := r_passes (I := I) (E := E) (L := L) (pr := pr) (ot := ot) (M := M) (ru := ru) (T := T) (ch := 61) (st := st) hR (show st.1 < 1000 by have := f2.1; omega) f2.2 (by decide)
  have e62 := r_passes (I := I) (E := E) (L := L) (pr := pr) (ot := ot) (M := M) (ru := ru) (T := T) (ch := 62) (st := st) hR (show st.1 < 1000 by have := f2.1; omega) f2.2 (by decide)
  have cmpC : ∀ ch, (ch = 60 ∨ ch = 61 ∨ ch = 62) → (pasP n 40 c ch st).1 = true → ∃ v2 st2, rS 45 (iN deep) (encC I E L pr ot (encR (pj J (pasP n 40 c ch st).2) B M rdv ru T)) = some (v2, (encC I E L pr ot (encR (pj J st2) B M rdv ru T))) ∧ RB 80 st2 ∧ (st2.2 = none → a < st2.1) ∧ Good ft n c (deep + 1 - 1) deep cm 1 (evL ft o) w XH (outc (iN ch) v v2) st2 := by
    intro ch hch hp
    obtain ⟨p1, p2, p3, p4, p5⟩ := pasP_t hp
    obtain ⟨o1, w1, d1, cm1, g1, g2⟩ := G
    obtain ⟨g3, ⟨o', g4, g5⟩, g6⟩ := g2 p1
    have rk1 : rkN ch = 1 := by rcases hch with e | e | e <;> subst e <;> rfl
    have cmd : cm1 deep = false := (g3 deep (by omega)).trans (hcm rfl)
    have tk := tkR_cmp (o := o1) (w := w1) (p := deep) (d := d1) (cm := cm1) rk1 (by omega) cmd
    obtain ⟨o'', q4, q5⟩ := Pnd.low (ft := ft) ⟨o', g4, g5⟩ (show 1 ≤ 2 by decide) hw
    rw [rk1, q4] at tk
    rw [← p4] at tk
    have S1 := g1.ok p1 ⟨p2, p3⟩ tk
    obtain ⟨v2, st2, h1, h2, h3, o2, w2, d2, cm2, h4, h5⟩ := hT deep (st.1 + 1) o'' (c st.1 :: w) (fun i => (i == deep) || cm1 i) hd S1 (stP_cons (by rw [p4]; omega)) (by have := f3 p1; omega) (fun f => by cases f)
    refine ⟨v2, st2, by rw [p5]; exact h1, h2, fun e => by have := h3 e; have := f3 p1; omega, o2, w2, d2, cm2, h4, fun e => ?_⟩
    obtain ⟨a1, a2, a3⟩ := h5 e
    refine ⟨fun b hb => ?_, ?_, fun b1 b2 => ?_⟩
    · rw [a1 b (by omega)]
      dsimp only
      rw [show (b == deep) = false from by simp; omega, Bool.false_or]
      exact g3 b (by omega)
    · rw [q5, p4] at a2
      exact a2.bin (by decide) rk1 (Or.inl rk1) hw
    · refine XH.of (a3 b1 b2) (hR.2.2.2.2.1 _ b1 b2) (Or.inl ?_)
      rw [a1 deep (by omega)]
      simp
  unfold fX12_heldBy
  rw [brK, hb_of f1, brK, hb_of (show fX12_passes 45 (60 : Int32) _ = _ from e60)]
  by_cases d60 : (pasP n 40 c 60 st).1 = true
  · obtain ⟨v2, st2, h1, h2, h3, h4⟩ := cmpC 60 (by decide) d60
    refine ⟨_, st2, ?_, h2, h3, h4⟩
    rw [if_pos d60, if_neg (by decide), brK, hb_of h1, show outc (iN 60) v v2 = if v2 ≤ v then 0 else 1 from rfl]
    by_cases z : v2 ≤ v
    · rw [if_pos z, if_pos z]
    · rw [if_neg z, if_neg z]
  · have s60 := (pasP_f d60).2
    rw [if_neg d60, if_pos rfl, s60, brK, hb_of (show fX12_passes 45 (62 : Int32) _ = _ from e62)]
    by_cases d62 : (pasP n 40 c 62 st).1 = true
    · obtain ⟨v2, st2, h1, h2, h3, h4⟩ := cmpC 62 (by decide) d62
      refine ⟨_, st2, ?_, h2, h3, h4⟩
      rw [if_pos d62, if_neg (by decide), brK, hb_of h1, show outc (iN 62) v v2 = if v ≤ v2 then 0 else 1 from rfl]
      by_cases z : v ≤ v2
      · rw [if_pos z, if_pos z]
      · rw [if_neg z, if_neg z]
    · have s62 := (pasP_f d62).2
      rw [if_neg d62, if_pos rfl, s62, brK, hb_of (show fX12_passes 45 (61 : Int32) _ = _ from e61)]
      by_cases d61 : (pasP n 40 c 61 st).1 = true
      · obtain ⟨v2, st2, h1, h2, h3, h4⟩ := cmpC 61 (by decide) d61
        refine ⟨_, st2, ?_, h2, h3, h4⟩
        rw [if_pos d61, if_neg (by decide), brK, hb_of h1, show outc (iN 61) v v2 = if v = v2 then 1 else 0 from rfl]
        by_cases z : v = v2
        · rw [if_pos z, if_pos z]
        · rw [if_neg z, if_neg z]
      · have s61 := (pasP_f d61).2
        refine ⟨v, st, by rw [if_neg d61, if_pos rfl, s61], f2, f3, ?_⟩
        obtain ⟨o1, w1, d1, cm1, g1, g2⟩ := G
        refine ⟨o1, w1, d1, cm1, g1, fun e => ?_⟩
        obtain ⟨g3, g4, g6⟩ := g2 e
        exact ⟨fun b hb => g3 b (by omega), g4.low (by decide) hw, fun b1 b2 => XH.of (g6 b1 b2) (hR.2.2.2.2.1 _ b1 b2) (Or.inr ⟨fun f => (pasP_f d60).1 ⟨e, b1, b2, f⟩, fun f => (pasP_f d61).1 ⟨e, b1, b2, f⟩, fun f => (pasP_f d62).1 ⟨e, b1, b2, f⟩⟩)⟩
theorem numL (hR : RD J B rdv n 40 c) (kx : Int32 → PH → Option (Int32 × PH)) : ∀ d i val a, i + d = 3 → 1 ≤ i → val < bnd i → Sim tkR mayR n 40 c ruS0 (iN val :: o, w, p, i, cm, false) (a, none) →
    ∃ i' val' a', (∀ m, d + 1 < m → fX12_number_L11 45 (3 : Int32) kx m (iN val) (iN i) (encC I E L pr ot (encR (pj J (a, none)) B M rdv ru T)) = kx (iN val') (encC I E L pr ot (encR (pj J (a', none)) B M rdv ru T))) ∧ a ≤ a' ∧ val' < 1000 ∧ Sim tkR mayR n 40 c ruS0 (iN val' :: o, w, p, i', cm, false) (a', none) ∧ (a' < n → a' < 40 → XD (iN val' :: o, w, p, i', cm, false) (c a')) := by
  intro d
  induction d with
  | zero =>
    intro i val a hi h1 hv hS
    have ei : i = 3 := by omega
    subst ei
    refine ⟨3, val, a, fun m hm => ?_, Nat.le_refl _, hv, hS, fun _ _ h1 h2 => ?_⟩
    · obtain ⟨m, rfl⟩ : ∃ m', m = m' + 1 := ⟨m - 1, by omega⟩
      rw [fX12_number_L11, if_pos (by decide)]
    · rw [tkR_more ⟨h1, h2⟩ (by decide), if_neg (by decide)]
  | succ d ih =>
    intro i val a hi h1 hv hS
    have ha : a ≤ min n 40 := (hS.1 rfl).1
    have hi3 : i < 3 := by omega
    have b1000 : ∀ j, j ≤ 3 → bnd j ≤ 1000 := by decide
    have hh := r_here (I := I) (E := E) (L := L) (pr := pr) (ot := ot) (M := M) (ru := ru) (T := T) (st := (a, none)) hR (show a < 1000 by omega)
    have g1 : ¬ (3 : Int32) ≤ iN i := by rw [show (3 : Int32) = iN 3 from rfl, iN_le (by omega) (by omega)]; omega
    by_cases yes : a < n ∧ a < 40 ∧ 48 ≤ c a ∧ c a < 58
    · have tk := tkR_more (x := iN val) (o := o) (w := w) (p := p) (cm := cm) ⟨yes.2.2.1, yes.2.2.2⟩ h1
      rw [if_pos (show i + 1 ≤ 3 by omega)] at tk
      have ev : iN val * 10 + iN (c a) - 48 = iN (10 * val + (c a - 48)) := by
        rw [show (10 : Int32) = iN 10 from rfl, show (48 : Int32) = iN 48 from rfl, iN_mul, iN_add, iN_sub (show 48 ≤ val * 10 + c a by omega)]
        congr 1
        omega
      rw [ev] at tk
      have hb : 10 * val + (c a - 48) < bnd (i + 1) := by
        show _ < 10 * bnd i
        omega
      obtain ⟨i', val', a', q1, q2, q3, q4, q5⟩ := ih (i + 1) (10 * val + (c a - 48)) (a + 1) (by omega) (by omega) hb (hS.ok rfl ⟨yes.1, yes.2.1⟩ tk)
      refine ⟨i', val', a', fun m hm => ?_, by omega, q3, q4, q5⟩
      obtain ⟨m, rfl⟩ : ∃ m', m = m' + 1 := ⟨m - 1, by omega⟩
      have e1 := r_oneOf (I := I) (E := E) (L := L) (pr := pr) (ot := ot) (M := M) (ru := ru) (T := T) (fi := 48) (mn := 10) (st := (a, none)) hR (show a < 1000 by omega) (fun q f => by cases f) (by decide) (by decide)
      have eo : oneP n 40 c 48 10 (a, none) = (c a - 48, (a + 1, none)) := by
        unfold oneP
        rw [if_pos rfl, if_pos ⟨yes.1, yes.2.1, yes.2.2.1, by dsimp only; omega⟩]
      rw [eo] at e1
      rw [← q1 m (by omega), fX12_number_L11, if_neg g1, brK, hb_of (r_fine0 rfl), if_neg (by decide), brK, hb_of hh, hrV_in (st := (a, none)) ⟨yes.1, yes.2.1⟩, hb_of (show fX12_in (iN (c a)) (48 : Int32) (57 : Int32) _ = _ from in_y yes.2.2.1 (show c a ≤ 57 by omega) (by decide)), if_neg (by decide), brK, hb_of (show fX12_oneOf 45 (48 : Int32) (10 : Int32) _ = _ from e1), letE_eq, letE_eq, show iN i + (1 : Int32) = iN (i + 1) from iN_add, show (10 : Int32) * iN val + iN (c a - 48) = iN (10 * val + (c a - 48)) by rw [show (10 : Int32) = iN 10 from rfl, iN_mul, iN_add]]
    · refine ⟨i, val, a, fun m hm => ?_, Nat.le_refl _, by have := b1000 i (by omega); omega, hS, fun b1 b2 b3 b4 => absurd ⟨b1, b2, b3, b4⟩ yes⟩
      obtain ⟨m, rfl⟩ : ∃ m', m = m' + 1 := ⟨m - 1, by omega⟩
      have en : ∀ {h : PH}, fX12_in (hrV n 40 c a) (48 : Int32) (57 : Int32) h = some (0, h) := fun {h} => by
        refine in_n (fun f => ?_)
        by_cases c2 : a < n ∧ a < 40
        · rw [show hrV n 40 c a = iN (c a) from if_pos c2] at f
          have := hR.2.2.2.2.1 a c2.1 c2.2
          rw [show (48 : Int32) = iN 48 from rfl, show (57 : Int32) = iN 57 from rfl, iN_le (by omega) (by omega), iN_le (by omega) (by omega)] at f
          exact yes ⟨c2.1, c2.2, f.1, by omega⟩
        · have d1 := f.1
          unfold hrV at d1
          rw [if_neg c2] at d1
          exact absurd d1 (by decide)
      rw [fX12_number_L11, if_neg g1, brK, hb_of (r_fine0 rfl), if_neg (by decide), brK, hb_of hh, hb_of en, if_pos rfl]
theorem r_letter {h : PH} (hc : ch < 256) : fX12_letterOf (iN ch) h = some ((match ltN ch with | some l => iN l | none => -1), h) := by
  have q : ∀ m, m < 256 → (iN ch = iN m) = (ch = m) := fun m hm => iN_eq (by omega) (by omega)
  unfold fX12_letterOf ltN
  by_cases d1 : ch = 118
  · rw [if_pos (show iN ch = 118 by rw [d1]; rfl), if_pos d1]; rfl
  rw [if_neg (show ¬ iN ch = 118 from fun f => d1 ((q 118 (by decide)).mp f)), if_neg d1]
  by_cases d2 : ch = 116
  · rw [if_pos (show iN ch = 116 by rw [d2]; rfl), if_pos d2]; rfl
  rw [if_neg (show ¬ iN ch = 116 from fun f => d2 ((q 116 (by decide)).mp f)), if_neg d2]
  by_cases d3 : ch = 103
  · rw [if_pos (show iN ch = 103 by rw [d3]; rfl), if_pos d3]; rfl
  rw [if_neg (show ¬ iN ch = 103 from fun f => d3 ((q 103 (by decide)).mp f)), if_neg d3]
  by_cases d4 : ch = 101
  · rw [if_pos (show iN ch = 101 by rw [d4]; rfl), if_pos d4]; rfl
  rw [if_neg (show ¬ iN ch = 101 from fun f => d4 ((q 101 (by decide)).mp f)), if_neg d4]
  by_cases d5 : ch = 100
  · rw [if_pos (show iN ch = 100 by rw [d5]; rfl), if_pos d5]; rfl
  rw [if_neg (show ¬ iN ch = 100 from fun f => d5 ((q 100 (by decide)).mp f)), if_neg d5]
  by_cases d6 : ch = 115
  · rw [if_pos (show iN ch = 115 by rw [d6]; rfl), if_pos d6]; rfl
  rw [if_neg (show ¬ iN ch = 115 from fun f => d6 ((q 115 (by decide)).mp f)), if_neg d6]
  by_cases d7 : ch = 110
  · rw [if_pos (show iN ch = 110 by rw [d7]; rfl), if_pos d7]; rfl
  rw [if_neg (show ¬ iN ch = 110 from fun f => d7 ((q 110 (by decide)).mp f)), if_neg d7]
theorem ltN_lt (h : ltN ch = some l) : l < 7 ∧ ch < 128 ∧ ch ≠ 40 ∧ ch ≠ 45 ∧ 58 ≤ ch := by
  unfold ltN at h
  repeat' (split at h)
  all_goals first | (cases h; omega) | cases h
theorem okJ67 {rH rT : Nat → Int32 → PH → Option (Int32 × PH)} (hR : RD J B rdv n 40 c) (hA : (J 24 = 0 ∧ ∀ l, l < 7 → ft l = 0) ∨ (J 24 = 1 ∧ ∀ l, l < 7 → B 25 l = ft l)) (hd : deep ≤ 4) (hS : Sim tkR mayR n 40 c ruS0 (o, w, deep, 0, cm, true) (a, none)) (h45 : a < n → a < 40 → c a ≠ 45) (h40 : a < n → a < 40 → c a = 40 → deep = 4) :
    ∃ v st', fX12_thing_J67 rH rT 45 (hrV n 40 c a) (encC I E L pr ot (encR (pj J (a, none)) B M rdv ru T)) = some (v, (encC I E L pr ot (encR (pj J st') B M rdv ru T))) ∧ RB 80 st' ∧ (st'.2 = none → a < st'.1) ∧
    ∃ o' k v0 d cm', Sim tkR mayR n 40 c ruS0 (o', rep k w, deep, d, cm', false) st' ∧ (st'.2 = none → (∀ b, b < deep + 1 → cm' b = cm b) ∧ evL ft o' = v0 :: evL ft o ∧ ngN k v0 = v ∧ (st'.1 < n → st'.1 < 40 → XD (o', rep k w, deep, d, cm', false) (c st'.1))) := by
  have ha : a ≤ min n 40 := (hS.1 rfl).1
  have flt : (a < n → a < 40 → tkR (o, w, deep, 0, cm, true) (c a) = none) → (∀ {h : PH}, fX12_in (hrV n 40 c a) (48 : Int32) (57 : Int32) h = some (0, h)) → (∀ {h : PH}, fX12_letterOf (hrV n 40 c a) h = some (-1, h)) → ∃ v st', fX12_thing_J67 rH rT 45 (hrV n 40 c a) (encC I E L pr ot (encR (pj J (a, none)) B M rdv ru T)) = some (v, (encC I E L pr ot (encR (pj J st') B M rdv ru T))) ∧ RB 80 st' ∧ (st'.2 = none → a < st'.1) ∧
    ∃ o' k v0 d cm', Sim tkR mayR n 40 c ruS0 (o', rep k w, deep, d, cm', false) st' ∧ (st'.2 = none → (∀ b, b < deep + 1 → cm' b = cm b) ∧ evL ft o' = v0 :: evL ft o ∧ ngN k v0 = v ∧ (st'.1 < n → st'.1 < 40 → XD (o', rep k w, deep, d, cm', false) (c st'.1))) := by
    intro t1 t2 t3
    have e1 := r_fault (I := I) (E := E) (L := L) (pr := pr) (ot := ot) (J := J) (B := B) (M := M) (rdv := rdv) (ru := ru) (T := T) (st := (a, none)) (fun q hq => by cases hq)
    refine ⟨0, fltP (a, none), ?_, ⟨show a ≤ 80 by omega, fun q f => by cases f; omega⟩, fun f => (by cases f), o, 0, 0, 0, cm, hS.flt rfl t1 (fun _ _ => rfl), fun f => by cases f⟩
    unfold fX12_thing_J67
    rw [hb_of t2, if_pos rfl, hb_of t3, if_pos rfl, brG_17, pj_17, brK, hb_of e1]
  by_cases rg : a < n ∧ a < 40
  · have ehr : hrV n 40 c a = iN (c a) := if_pos rg
    have c256 := hR.2.2.2.2.1 a rg.1 rg.2
    have n45 := h45 rg.1 rg.2
    by_cases dg : 48 ≤ c a ∧ c a < 58
    · -- a number
      have S1 := hS.ok rfl rg (tkR_dig (o := o) (w := w) (p := deep) (d := 0) (cm := cm) dg)
      obtain ⟨i', val', a', q1, q2, q3, q4, q5⟩ := numL (I := I) (E := E) (L := L) (pr := pr) (ot := ot) (M := M) (ru := ru) (T := T) hR (fun x3 h4 => some (x3, h4)) 2 1 (c a - 48) (a + 1) rfl (Nat.le_refl 1) (show c a - 48 < 10 by omega) S1
      have e1 := r_oneOf (I := I) (E := E) (L := L) (pr := pr) (ot := ot) (M := M) (ru := ru) (T := T) (fi := 48) (mn := 10) (st := (a, none)) hR (show a < 1000 by omega) (fun q f => by cases f) (by decide) (by decide)
      have eo : oneP n 40 c 48 10 (a, none) = (c a - 48, (a + 1, none)) := by
        unfold oneP
        rw [if_pos rfl, if_pos ⟨rg.1, rg.2, dg.1, by dsimp only; omega⟩]
      rw [eo] at e1
      have a40 : a' ≤ min n 40 := (q4.1 rfl).1
      refine ⟨iN val', (a', none), ?_, ⟨show a' ≤ 80 by omega, fun q f => by cases f⟩, fun _ => by dsimp only; omega, iN val' :: o, 0, iN val', i', cm, q4, fun _ => ⟨fun _ _ => rfl, lStep_num q3, rfl, q5⟩⟩
      unfold fX12_thing_J67 fX12_number
      rw [ehr, hb_of (show fX12_in (iN (c a)) (48 : Int32) (57 : Int32) _ = _ from in_y dg.1 (show c a ≤ 57 by omega) (by decide)), if_neg (by decide), brK, brK, hb_of (show fX12_oneOf 45 (48 : Int32) (10 : Int32) _ = _ from e1)]
      rw [show (1 : Int32) = iN 1 from rfl, q1 FU (by unfold FU; omega), hb_some]
    · have en : ∀ {h : PH}, fX12_in (hrV n 40 c a) (48 : Int32) (57 : Int32) h = some (0, h) := fun {h} => by
        rw [ehr]
        refine in_n (fun f => dg ?_)
        rw [show (48 : Int32) = iN 48 from rfl, show (57 : Int32) = iN 57 from rfl, iN_le (by omega) (by omega), iN_le (by omega) (by omega)] at f
        omega
      cases hl : ltN (c a) with
      | none =>
        refine flt (fun _ _ => ?_) en (fun {h} => by rw [ehr, r_letter c256, hl])
        by_cases e40 : c a = 40
        · exact tkR_40n (by have := h40 rg.1 rg.2 e40; omega) e40
        · rw [tkR_let dg n45 e40, hl]
      | some l =>
        obtain ⟨l7, l128, ln40, ln45, l58⟩ := ltN_lt hl
        have S1 := hS.ok rfl rg (show tkR (o, w, deep, 0, cm, true) (c a) = some (iN (1000 + l) :: o, w, deep, 0, cm, false) by rw [tkR_let dg n45 ln40, hl])
        have el : ∀ {h : PH}, fX12_letterOf (hrV n 40 c a) h = some (iN l, h) := fun {h} => by rw [ehr, r_letter c256, hl]
        refine ⟨ft l, (a + 1, none), ?_, ⟨show a + 1 ≤ 80 by omega, fun q f => by cases f⟩, fun _ => by dsimp only; omega, iN (1000 + l) :: o, 0, ft l, 0, cm, S1, fun _ => ⟨fun _ _ => rfl, lStep_let l7, rfl, fun _ _ => XD_0⟩⟩
        unfold fX12_thing_J67
        rw [hb_of en, if_pos rfl, hb_of el, if_neg (iN_ne1 (by omega)), brG_17, pj_17, show iN a + (1 : Int32) = iN (a + 1) from iN_add, brW_17, pj_w17, brG_24, pj_ne (by decide) (by decide)]
        rcases hA with ⟨h24, hf⟩ | ⟨h24, hf⟩
        · rw [h24, if_pos rfl, hf l l7]
        · rw [h24, if_neg (by decide), brR_25, hb_of el, brA_25 (in_arr (show l < 7 from l7) (by decide) rfl), iN_nat (by omega), hf l l7]
  · have ehr : hrV n 40 c a = -1 := if_neg rg
    refine flt (fun a1 a2 => absurd ⟨a1, a2⟩ rg) (fun {h} => by rw [ehr]; exact in_n (by decide)) (fun {h} => by rw [ehr]; rfl)
theorem okThing {rH rT : Nat → Int32 → PH → Option (Int32 × PH)} (hR : RD J B rdv n 40 c) (hA : (J 24 = 0 ∧ ∀ l, l < 7 → ft l = 0) ∨ (J 24 = 1 ∧ ∀ l, l < 7 → B 25 l = ft l)) (hH : okR I E L pr ot J B M rdv ru T n c ft rH D 1 1 XH true) (hT : okT I E L pr ot J B M rdv ru T n c ft rT D) : okT I E L pr ot J B M rdv ru T n c ft (fX12_thing rH rT) (D + 1) := by
  intro deep a o w cm hd hS hD
  have ha : a ≤ min n 40 := (hS.1 rfl).1
  have e45 := r_passes (I := I) (E := E) (L := L) (pr := pr) (ot := ot) (M := M) (ru := ru) (T := T) (ch := 45) (st := (a, none)) hR (show a < 1000 by omega) (fun q f => by cases f) (by decide)
  have hh := r_here (I := I) (E := E) (L := L) (pr := pr) (ot := ot) (M := M) (ru := ru) (T := T) (st := (a, none)) hR (show a < 1000 by omega)
  unfold fX12_thing
  rw [brK, hb_of (show fX12_passes 45 (45 : Int32) _ = _ from e45)]
  by_cases d45 : (pasP n 40 c 45 (a, none)).1 = true
  · obtain ⟨p1, p2, p3, p4, p5⟩ := pasP_t d45
    have S1 := hS.ok rfl ⟨p2, p3⟩ (tkR_45 (o := o) (w := w) (p := deep) (d := 0) (cm := cm) p4)
    obtain ⟨v, st', f1, f2, f3, o', k, v0, d, cm', f4, f5⟩ := hT deep (a + 1) o (256 :: w) cm hd S1 (by omega)
    rw [rep_in] at f4 f5
    refine ⟨-v, st', ?_, f2, fun e => by have := f3 e; omega, o', k + 1, v0, d, cm', f4, fun e => ?_⟩
    · rw [if_pos d45, if_neg (by decide), p5, brK, hb_of f1]
    · obtain ⟨a1, a2, a3, a4⟩ := f5 e
      exact ⟨a1, a2, by show -(ngN k v0) = -v; rw [a3], a4⟩
  · obtain ⟨n45, s45⟩ := pasP_f d45
    rw [if_neg d45, if_pos rfl, s45, brK, hb_of (r_fine0 rfl), if_neg (by decide), brK, hb_of hh]
    have h45' : a < n → a < 40 → c a ≠ 45 := fun a1 a2 a3 => n45 ⟨rfl, a1, a2, a3⟩
    have h40 := hrV_k (st := (a, none)) hR.2.2.2.2.1 (show 40 < 256 by decide)
    by_cases e40 : a < n ∧ a < 40 ∧ c a = 40
    · have hv40 : hrV n 40 c a = 40 := h40.mpr e40
      rw [if_pos hv40]
      by_cases d4 : deep = 4
      · rw [if_pos (show (4 : Int32) ≤ iN deep by rw [d4]; decide)]
        exact okJ67 hR hA hd hS h45' (fun _ _ _ => d4)
      · rw [if_neg (show ¬ (4 : Int32) ≤ iN deep by rw [show (4 : Int32) = iN 4 from rfl, iN_le (by omega) (by omega)]; omega), brG_17, pj_17, show iN a + (1 : Int32) = iN (a + 1) from iN_add, brW_17, pj_w17, brK, show iN deep + (1 : Int32) = iN (deep + 1) from iN_add]
        have S1 := hS.ok rfl ⟨e40.1, e40.2.1⟩ (tkR_40 (o := o) (w := w) (p := deep) (d := 0) (cm := cm) (by omega) e40.2.2)
        obtain ⟨v, st', f1, f2, f3, o1, w1, d1, cm1, g1, g2⟩ := hH (deep + 1) (a + 1) o (40 :: w) (fun i => !(i == deep + 1) && cm i) (by omega) S1 (stP_cons (by decide)) (by omega) (fun _ => by simp)
        have e41 := r_passes (I := I) (E := E) (L := L) (pr := pr) (ot := ot) (M := M) (ru := ru) (T := T) (ch := 41) (st := st') hR (show st'.1 < 1000 by have := f2.1; omega) f2.2 (by decide)
        have agr : ∀ b, b < deep + 1 → (∀ b, b < deep + 1 + 1 - 1 → cm1 b = (!(b == deep + 1) && cm b)) → cm1 b = cm b := fun b hb h => by
          rw [h b (by omega), show (b == deep + 1) = false from by simp; omega]
          rfl
        by_cases d41 : (pasP n 40 c 41 st').1 = true
        · obtain ⟨p1, p2, p3, p4, p5⟩ := pasP_t d41
          obtain ⟨g3, ⟨o', g4, g5⟩, g6⟩ := g2 p1
          have tk := tkR_close (o := o1) (w := w1) (p := deep + 1) (d := d1) (cm := cm1) (by omega) p4
          rw [g4] at tk
          have S2 := g1.ok p1 ⟨p2, p3⟩ tk
          refine ⟨v, (st'.1 + 1, none), ?_, ⟨by have := f2.1; have := (g1.1 p1).1; dsimp only; omega, fun q f => by cases f⟩, fun _ => by have := f3 p1; dsimp only; omega, o', 0, v, 0, cm1, S2, fun _ => ⟨fun b hb => agr b hb g3, g5, rfl, fun _ _ => XD_0⟩⟩
          unfold fX12_need
          rw [hb_of f1, brK, brK, hb_of (show fX12_passes 45 (41 : Int32) _ = _ from e41), if_pos d41, if_neg (by decide), hb_some, p5]
        · obtain ⟨n41, s41⟩ := pasP_f d41
          have e1 := r_fault (I := I) (E := E) (L := L) (pr := pr) (ot := ot) (J := J) (B := B) (M := M) (rdv := rdv) (ru := ru) (T := T) (st := st') f2.2
          have ne : (fltP st').2 ≠ none := by
            unfold fltP
            dsimp only
            split
            · intro f; cases f
            · assumption
          refine ⟨v, fltP st', ?_, f2.flt (by decide), fun f => absurd f ne, o, 0, 0, 0, cm, ?_, fun f => absurd f ne⟩
          · unfold fX12_need
            rw [hb_of f1, brK, brK, hb_of (show fX12_passes 45 (41 : Int32) _ = _ from e41), if_neg d41, if_pos rfl, s41, brG_17, pj_17, brK, hb_of e1, hb_some]
          · cases e2 : st'.2 with
            | none =>
              obtain ⟨g3, g4, g6⟩ := g2 e2
              exact g1.flt e2 (fun b1 b2 => g6 b1 b2 (fun f => n41 ⟨e2, b1, b2, f⟩)) (fun _ _ => by unfold mayR; simp)
            | some q =>
              rw [fault_id (by rw [e2]; intro f; cases f)]
              exact g1.any (by rw [e2]; intro f; cases f)
    · rw [if_neg (show ¬ hrV n 40 c a = 40 from fun f => e40 (h40.mp f))]
      exact okJ67 hR hA hd hS h45' (fun a1 a2 a3 => absurd ⟨a1, a2, a3⟩ e40)
theorem okAll (hR : RD J B rdv n 40 c) (hA : (J 24 = 0 ∧ ∀ l, l < 7 → ft l = 0) ∨ (J 24 = 1 ∧ ∀ l, l < 7 → B 25 l = ft l)) : ∀ f, okT I E L pr ot J B M rdv ru T n c ft (rX12_thing f) f
  | 0 => fun deep a o w cm hd hS hD => by
    have ha : a ≤ min n 40 := (hS.1 rfl).1
    omega
  | f + 1 => okThing hR hA (okHeld hR (okSum hR (okProd hR (okAll hR hA f)))) (okAll hR hA f)
/-- the whole text is read as the machine takes it -/
theorem r_rule (hR : RD J B rdv n 40 c) (hA : (J 24 = 0 ∧ ∀ l, l < 7 → ft l = 0) ∨ (J 24 = 1 ∧ ∀ l, l < 7 → B 25 l = ft l)) :
    ∃ v st', rX12_heldBy 50 45 (iN 0) (encC I E L pr ot (encR (pj J (0, none)) B M rdv ru T)) = some (v, (encC I E L pr ot (encR (pj J st') B M rdv ru T))) ∧ RB 80 st' ∧ (slF tkR mayR n 40 c (min n 40) ruS0 0).1 = (rgtP n st').2 ∧ ((rgtP n st').2 = none → st'.2 = none ∧ st'.1 = n ∧ n ≤ 40 ∧ ∃ o', layP 1 (slF tkR mayR n 40 c (min n 40) ruS0 0).2.2.1 (slF tkR mayR n 40 c (min n 40) ruS0 0).2.1 = (o', []) ∧ evL ft o' = [v]) := by
  have hH := okHeld hR (okSum hR (okProd hR (okAll (I := I) (E := E) (L := L) (pr := pr) (ot := ot) (M := M) (ru := ru) (T := T) hR hA 50)))
  obtain ⟨v, st', f1, f2, f3, o1, w1, d1, cm1, g1, g2⟩ := hH 0 0 [] [] (fun _ => false) (by decide) Sim.start stP_nil (by decide) (fun _ => rfl)
  have fin := g1.fin (fun e b1 b2 => by
    obtain ⟨g3, g4, g6⟩ := g2 e
    by_cases e41 : c st'.1 = 41
    · rw [tkR_f, if_neg (show ¬ (0 < d1 ∧ 48 ≤ c st'.1 ∧ c st'.1 < 58) by omega), if_pos e41, if_pos rfl]
    · exact g6 b1 b2 e41) (fun _ => rfl)
  refine ⟨v, st', f1, f2, fin.1, fun e => ?_⟩
  obtain ⟨h1, h2, h3, h4⟩ := fin.2 e
  obtain ⟨g3, ⟨o', g4, g5⟩, g6⟩ := g2 h1
  refine ⟨h1, h2, h3, o', ?_, g5⟩
  rw [h4]
  exact g4
end RT
