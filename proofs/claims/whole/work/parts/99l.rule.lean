/-! RULE: the class's form takes a sign as the machine does; what is read -/
section RK
variable {I A E I' A' I1 A1 : Nat → Nat → Int32} {L L' : Nat → Int64} {pr ot : Nat} {T : PH} {ro n p d k l ch a q r : Nat} {c : Nat → Nat} {o : List Int32} {w W : List Nat} {cm cm0 : Nat → Bool} {v : Int32} {β : Type} {s s' : RuS} {x : Option (Int32 × PH)}
def TR (L : Nat → Int64) (pr ot : Nat) (T : PH) (ro : Nat) (I A : Nat → Nat → Int32) (k : Nat) (s : RuS) (ch : Nat) (x : Option (Int32 × PH)) : Prop :=
  ∃ I' A', x = some ((if (tkR s ch).isSome then 1 else 0), (encC I' A' L pr ot T)) ∧ frR ro I I' ∧ frA ro A A' ∧ ∀ s', tkR s ch = some s' → RR ro I A I' A' (k + 1) s'
theorem TR.yes (e : tkR s ch = some s') (h : x = some (1, (encC I' A' L pr ot T))) (r : RR ro I A I' A' (k + 1) s') : TR L pr ot T ro I A k s ch x :=
  ⟨I', A', by rw [yesW e]; exact h, r.1, r.2.1, fun s2 e2 => by rw [e] at e2; cases e2; exact r⟩
theorem TR.no (e : tkR s ch = none) (h : x = some (0, (encC I' A' L pr ot T))) (f1 : frR ro I I') (f2 : frA ro A A') : TR L pr ot T ro I A k s ch x :=
  ⟨I', A', by rw [noW e]; exact h, f1, f2, fun s2 e2 => by rw [e] at e2; cases e2⟩
theorem TR.wrap (h : TR L pr ot T ro I A k s ch x) : TR L pr ot T ro I A k s ch (h_bd x fun x7 h8 => h_z x7 (some (x7, h8))) := by
  obtain ⟨I', A', h1, h2⟩ := h
  refine ⟨I', A', ?_, h2⟩
  rw [h1, hb_some]
  split
  · exact h_z1
  · exact h_z0
theorem frL2.fr (h : frL2 ro I I' A A') : frR ro I I' := fun x k hx => h.1 x k (by omega)
theorem frL2.fa (h : frL2 ro I I' A A') : frA ro A A' := fun x hx _ => h.2 x hx
theorem stk_pw {V : Nat → Int32} {x : Nat} (h : stk V (w.map iN)) : stk (upd V w.length (iN x)) ((x :: w).map iN) := by
  have := stk_push (v := iN x) h
  rw [List.length_map] at this
  exact this
theorem c_tThing (hro : ro = 19 ∨ ro = 23) (h : RR ro I A I1 A1 k (o, w, p, d, cm, true)) (hk : k < 40) (hch : ch < 256) : TR L pr ot T ro I A k (o, w, p, d, cm, true) ch (fX6_takesThing ro (iN ch) (encC I1 A1 L pr ot T)) := by
  obtain ⟨f1, f2, g4, g5, g6, g7, g8, g9, t1, t2, ln, p4, d3, ow⟩ := h
  dsimp only at *
  have q : ∀ m, m < 1000 → (iN ch = iN m) = (ch = m) := fun m hm => iN_eq (by omega) (by omega)
  have wl : w.length < 40 := by omega
  have ol : o.length < 40 := by omega
  unfold fX6_takesThing
  by_cases c45 : ch = 45
  · have ch1 := c_hold (I := I1) (A := A1) (L := L) (pr := pr) (ot := ot) (T := T) (v := 256) hro g5 wl
    refine TR.yes (tkR_45 c45) (I' := u2 I1 ro 5 (iN (w.length + 1))) (A' := u1 A1 (ro + 2) (upd (A1 (ro + 2)) w.length 256)) ?_ ⟨f1.trans (frR.u (by decide)), f2.trans (frA.u (Or.inr rfl)), (u2_o (by omega)).trans g4, u2_at, (u2_o (by omega)).trans g6, (u2_o (by omega)).trans g7, (u2_o (by omega)).trans g8, (u2_o (by omega)).trans g9, by rw [u1_o (by omega)]; exact t1, by rw [u1_at]; exact stk_pw (x := 256) t2, by show o.length + (w.length + 1) ≤ k + 1; omega, p4, d3, ow.push (by decide) (by decide)⟩
    rw [if_pos (show iN ch = 45 by rw [c45]; rfl), zrK hro, hb_of ch1, h_z1]
  rw [if_neg (show ¬ iN ch = 45 from fun f => c45 ((q 45 (by decide)).mp f))]
  by_cases c40 : ch = 40
  · have i5 : (u2 (u2 I1 ro 6 (iN (p + 1))) ro 8 (bt (fun i => !(i == p + 1) && cm i) 8)) ro 5 = iN w.length := ((u2_o (by omega)).trans (u2_o (by omega))).trans g5
    have ch1 := c_hold (A := A1) (L := L) (pr := pr) (ot := ot) (T := T) (v := 40) hro i5 wl
    have fR : frR ro I1 (u2 (u2 (u2 I1 ro 6 (iN (p + 1))) ro 8 (bt (fun i => !(i == p + 1) && cm i) 8)) ro 5 (iN (w.length + 1))) := ((frR.u (by decide)).trans (frR.u (by decide))).trans (frR.u (by decide))
    have base : fX6_takesThing ro (iN ch) (encC I1 A1 L pr ot T) = if (4 : Int32) < iN (p + 1) then (h_z (0 : Int32) (some ((0 : Int32), (encC (u2 (u2 (u2 I1 ro 6 (iN (p + 1))) ro 8 (bt (fun i => !(i == p + 1) && cm i) 8)) ro 5 (iN (w.length + 1))) (u1 A1 (ro + 2) (upd (A1 (ro + 2)) w.length 40)) L pr ot T)))) else (h_z (1 : Int32) (some ((1 : Int32), (encC (u2 (u2 (u2 I1 ro 6 (iN (p + 1))) ro 8 (bt (fun i => !(i == p + 1) && cm i) 8)) ro 5 (iN (w.length + 1))) (u1 A1 (ro + 2) (upd (A1 (ro + 2)) w.length 40)) L pr ot T)))) := by
      unfold fX6_takesThing
      rw [if_neg (show ¬ iN ch = 45 from fun f => c45 ((q 45 (by decide)).mp f)), if_pos (show iN ch = 40 by rw [c40]; rfl), gY hro 6 (by decide) (by decide), g6, show iN p + (1 : Int32) = iN (p + 1) from iN_add, wY hro 6 _ (by decide) (by decide), gY hro 8 (by decide) (by decide), gY hro 6 (by decide) (by decide), u2_at, u2_o (by omega), g8, bt_an (show p + 1 < 8 by omega), wY hro 8 _ (by decide) (by decide), zrK hro, hb_of ch1, gY hro 6 (by decide) (by decide), u2_o (by omega), u2_o (by omega), u2_at]
    have base2 := base
    unfold fX6_takesThing at base2
    rw [if_neg (show ¬ iN ch = 45 from fun f => c45 ((q 45 (by decide)).mp f))] at base2
    rw [base2]
    by_cases hp : p + 1 ≤ 4
    · refine TR.yes (tkR_40 hp c40) (by rw [if_neg (show ¬ (4 : Int32) < iN (p + 1) by rw [show (4 : Int32) = iN 4 from rfl, iN_lt (by omega) (by omega)]; omega), h_z1]) ⟨f1.trans fR, f2.trans (frA.u (Or.inr rfl)), (((u2_o (by omega)).trans (u2_o (by omega))).trans (u2_o (by omega))).trans g4, u2_at, ((u2_o (by omega)).trans (u2_o (by omega))).trans u2_at, (((u2_o (by omega)).trans (u2_o (by omega))).trans (u2_o (by omega))).trans g7, (u2_o (by omega)).trans u2_at, (((u2_o (by omega)).trans (u2_o (by omega))).trans (u2_o (by omega))).trans g9, by rw [u1_o (by omega)]; exact t1, by rw [u1_at]; exact stk_pw (x := 40) t2, by show o.length + (w.length + 1) ≤ k + 1; omega, hp, d3, ow.par⟩
    · exact TR.no (tkR_40n hp c40) (by rw [if_pos (show (4 : Int32) < iN (p + 1) by rw [show (4 : Int32) = iN 4 from rfl, iN_lt (by omega) (by omega)]; omega), h_z0]) (f1.trans fR) (f2.trans (frA.u (Or.inr rfl)))
  rw [if_neg (show ¬ iN ch = 40 from fun f => c40 ((q 40 (by decide)).mp f)), h_z0, wY hro 9 _ (by decide) (by decide), hb_of (isDig hch)]
  by_cases dg : 48 ≤ ch ∧ ch < 58
  · have i4 : (u2 (u2 I1 ro 9 0) ro 7 1) ro 4 = iN o.length := ((u2_o (by omega)).trans (u2_o (by omega))).trans g4
    have cs := c_step (A := A1) (L := L) (pr := pr) (ot := ot) (T := T) (v := iN (ch - 48)) hro i4 ol
    refine TR.yes (s' := (iN (ch - 48) :: o, w, p, 1, cm, false)) (tkR_dig dg) (I' := u2 (u2 (u2 I1 ro 9 0) ro 7 1) ro 4 (iN (o.length + 1))) (A' := u1 A1 (ro + 1) (upd (A1 (ro + 1)) o.length (iN (ch - 48)))) ?_ ⟨f1.trans (((frR.u (by decide)).trans (frR.u (by decide))).trans (frR.u (by decide))), f2.trans (frA.u (Or.inl rfl)), u2_at, (((u2_o (by omega)).trans (u2_o (by omega))).trans (u2_o (by omega))).trans g5, (((u2_o (by omega)).trans (u2_o (by omega))).trans (u2_o (by omega))).trans g6, (u2_o (by omega)).trans u2_at, (((u2_o (by omega)).trans (u2_o (by omega))).trans (u2_o (by omega))).trans g8, ((u2_o (by omega)).trans (u2_o (by omega))).trans u2_at, by rw [u1_at]; exact stk_push t1, by rw [u1_o (by omega)]; exact t2, by show o.length + 1 + w.length ≤ k + 1; omega, p4, (by show 1 ≤ 3; decide), ow⟩
    rw [if_pos dg, if_neg (by decide), wY hro 7 _ (by decide) (by decide), zrK hro, show iN ch - (48 : Int32) = iN (ch - 48) from iN_sub dg.1, hb_of cs, h_z1]
  · have i4 : (u2 I1 ro 9 0) ro 4 = iN o.length := (u2_o (by omega)).trans g4
    have cs := fun v => c_step (A := A1) (L := L) (pr := pr) (ot := ot) (T := T) (v := v) hro i4 ol
    have ex := sx_all ⟨ch, hch⟩
    dsimp only at ex
    have tk := tkR_let (o := o) (w := w) (p := p) (d := d) (cm := cm) dg c45 c40
    rw [if_neg dg, if_pos rfl, letE_eq]
    cases hl : ltN ch with
    | none =>
      rw [hl] at tk ex
      have ex2 : sx_idx (iN ch) = -1 := ex
      refine TR.no (I' := u2 (u2 I1 ro 9 0) ro 4 (iN (o.length + 1))) (A' := u1 A1 (ro + 1) (upd (A1 (ro + 1)) o.length ((1000 : Int32) + -1))) tk ?_ (f1.trans ((frR.u (by decide)).trans (frR.u (by decide)))) (f2.trans (frA.u (Or.inl rfl)))
      rw [ex2, zrK hro, hb_of (cs _), if_pos (by decide), h_z0]
    | some l =>
      rw [hl] at tk ex
      have ex2 : sx_idx (iN ch) = iN l := ex
      have l7 := (ltN_lt hl).1
      refine TR.yes (s' := (iN (1000 + l) :: o, w, p, d, cm, false)) tk (I' := u2 (u2 I1 ro 9 0) ro 4 (iN (o.length + 1))) (A' := u1 A1 (ro + 1) (upd (A1 (ro + 1)) o.length (iN (1000 + l)))) ?_ ⟨f1.trans ((frR.u (by decide)).trans (frR.u (by decide))), f2.trans (frA.u (Or.inl rfl)), u2_at, ((u2_o (by omega)).trans (u2_o (by omega))).trans g5, ((u2_o (by omega)).trans (u2_o (by omega))).trans g6, ((u2_o (by omega)).trans (u2_o (by omega))).trans g7, ((u2_o (by omega)).trans (u2_o (by omega))).trans g8, (u2_o (by omega)).trans u2_at, by rw [u1_at]; exact stk_push t1, by rw [u1_o (by omega)]; exact t2, by show o.length + 1 + w.length ≤ k + 1; omega, p4, d3, ow⟩
      rw [ex2, zrK hro, hb_of (cs _), if_neg (show ¬ iN l < 0 by rw [show (0 : Int32) = iN 0 from rfl, iN_lt (by omega) (by omega)]; omega), h_z1, show (1000 : Int32) + iN l = iN (1000 + l) from iN_add]
theorem c_tDigit (hro : ro = 19 ∨ ro = 23) (h : RR ro I A I1 A1 k (o, w, p, d, cm, false)) (hk : k < 40) (dg : 48 ≤ ch ∧ ch < 58) (hd : 0 < d) : TR L pr ot T ro I A k (o, w, p, d, cm, false) ch (fX6_takesDigit ro (iN ch) (encC I1 A1 L pr ot T)) := by
  obtain ⟨f1, f2, g4, g5, g6, g7, g8, g9, t1, t2, ln, p4, d3, ow⟩ := h
  dsimp only at *
  unfold fX6_takesDigit
  rw [gY hro 7 (by decide) (by decide), g7, show iN d + (1 : Int32) = iN (d + 1) from iN_add, wY hro 7 _ (by decide) (by decide), gY hro 7 (by decide) (by decide), u2_at]
  have fR : frR ro I1 (u2 I1 ro 7 (iN (d + 1))) := frR.u (by decide)
  by_cases d4 : d + 1 ≤ 3
  · rw [if_neg (show ¬ (3 : Int32) < iN (d + 1) by rw [show (3 : Int32) = iN 3 from rfl, iN_lt (by omega) (by omega)]; omega), gY hro 4 (by decide) (by decide), u2_o (by omega), g4]
    cases o with
    | nil =>
      exact TR.no (by rw [tkR_f, if_pos ⟨hd, dg⟩]) (by rw [if_neg (show ¬ (1 : Int32) ≤ iN ([] : List Int32).length by decide), h_z0]) (f1.trans fR) f2
    | cons y o' =>
      have l1 : (y :: o').length = o'.length + 1 := rfl
      have ll : o'.length < 40 := by rw [l1] at ln; omega
      have tk := tkR_more (x := y) (o := o') (w := w) (p := p) (d := d) (cm := cm) dg hd
      rw [if_pos d4] at tk
      refine TR.yes (s' := ((y * 10 + iN ch - 48) :: o', w, p, d + 1, cm, false)) tk (I' := u2 I1 ro 7 (iN (d + 1))) (A' := u1 A1 (ro + 1) (upd (A1 (ro + 1)) o'.length (y * 10 + iN ch - 48))) ?_ ⟨f1.trans fR, f2.trans (frA.u (Or.inl rfl)), (u2_o (by omega)).trans g4, (u2_o (by omega)).trans g5, (u2_o (by omega)).trans g6, u2_at, (u2_o (by omega)).trans g8, (u2_o (by omega)).trans g9, by rw [u1_at]; exact ⟨upd_eq, stk_upd (Nat.le_refl _) t1.2⟩, by rw [u1_o (by omega)]; exact t2, by show o'.length + 1 + w.length ≤ k + 1; rw [l1] at ln; omega, p4, d4, ow⟩
      rw [l1, if_pos (show (1 : Int32) ≤ iN (o'.length + 1) by rw [show (1 : Int32) = iN 1 from rfl, iN_le (by omega) (by omega)]; omega), rY1 hro, gY hro 4 (by decide) (by decide), u2_o (by omega), g4, rY1 hro, gY hro 4 (by decide) (by decide), u2_o (by omega), g4, l1, show iN (o'.length + 1) - (1 : Int32) = iN o'.length from iN_pred, aY1 hro (in_arr ll (by decide) rfl), iN_nat (by omega), t1.1, sY1 hro (in_arr ll (by decide) rfl), iN_nat (by omega), h_z1]
  · refine TR.no ?_ (by rw [if_pos (show (3 : Int32) < iN (d + 1) by rw [show (3 : Int32) = iN 3 from rfl, iN_lt (by omega) (by omega)]; omega), h_z0]) (f1.trans fR) f2
    cases o with
    | nil => rw [tkR_f, if_pos ⟨hd, dg⟩]
    | cons y o' => rw [tkR_more dg hd, if_neg d4]
theorem c_tJ33 (hro : ro = 19 ∨ ro = 23) (h : RR ro I A I1 A1 k (o, w, p, d, cm, false)) (hk : k < 40) (hch : ch < 256) (nd : ¬ (0 < d ∧ 48 ≤ ch ∧ ch < 58)) : TR L pr ot T ro I A k (o, w, p, d, cm, false) ch (fX6_takes_J33 ro (iN ch) (encC I1 A1 L pr ot T)) := by
  obtain ⟨f1, f2, g4, g5, g6, g7, g8, g9, t1, t2, ln, p4, d3, ow⟩ := h
  dsimp only at *
  have q : ∀ m, m < 1000 → (iN ch = iN m) = (ch = m) := fun m hm => iN_eq (by omega) (by omega)
  unfold fX6_takes_J33
  rw [wY hro 7 _ (by decide) (by decide)]
  obtain ⟨I2, hI2⟩ : ∃ I2, I2 = u2 I1 ro 7 0 := ⟨_, rfl⟩
  have fR : frR ro I1 I2 := by rw [hI2]; exact frR.u (by decide)
  have i2 : ∀ k, k ≠ 7 → I2 ro k = I1 ro k := fun k hk => by rw [hI2, u2_o (by omega)]
  have i7 : I2 ro 7 = 0 := by rw [hI2, u2_at]
  rw [← hI2]
  have w1 : ∀ x, x ∈ w → x < 1000 := fun x hx => (ow.2 x hx).1
  by_cases c41 : ch = 41
  · rw [if_pos (show iN ch = 41 by rw [c41]; rfl), zrK hro]
    refine TR.wrap ?_
    unfold fX6_closes
    rw [gY hro 6 (by decide) (by decide), i2 6 (by decide), g6]
    by_cases p0 : p = 0
    · exact TR.no (by rw [tkR_f, if_neg nd, if_pos c41, if_pos p0]) (by rw [if_pos (show iN p = 0 by rw [p0]; rfl), h_z0]) (f1.trans fR) f2
    · obtain ⟨I3, A3, e1, e2, e3, e4, e5, e6⟩ := c_layOut (I := I2) (A := A1) (L := L) (pr := pr) (ot := ot) (T := T) (r := 1) hro (by decide) ((i2 4 (by decide)).trans g4) ((i2 5 (by decide)).trans g5) t1 t2 (by omega) w1
      obtain ⟨t, ht1, ht2⟩ := ow.close (o := o) p0
      have len := layP_len (r := 1) w o
      rw [ht1] at e4 e6 len
      have i36 : I3 ro 6 = iN p := (e2.1 ro 6 (by omega)).trans ((i2 6 (by decide)).trans g6)
      have tk := tkR_close (o := o) (w := w) (p := p) (d := d) (cm := cm) p0 c41
      rw [ht1] at tk
      refine TR.yes (s' := ((layP 1 w o).1, t, p - 1, 0, cm, false)) tk (I' := u2 (u2 I3 ro 5 (iN t.length)) ro 6 (iN (p - 1))) (A' := A3) ?_ ⟨((f1.trans fR).trans e2.fr).trans ((frR.u (by decide)).trans (frR.u (by decide))), f2.trans e2.fa, ((u2_o (by omega)).trans (u2_o (by omega))).trans e3, (u2_o (by omega)).trans u2_at, u2_at, ((u2_o (by omega)).trans (u2_o (by omega))).trans ((e2.1 ro 7 (by omega)).trans i7), ((u2_o (by omega)).trans (u2_o (by omega))).trans ((e2.1 ro 8 (by omega)).trans ((i2 8 (by decide)).trans g8)), ((u2_o (by omega)).trans (u2_o (by omega))).trans ((e2.1 ro 9 (by omega)).trans ((i2 9 (by decide)).trans g9)), e5, e6.2, by show (layP 1 w o).1.length + t.length ≤ k + 1; simp only [List.length_cons] at len; omega, by dsimp only; omega, by dsimp only; omega, ht2⟩
      rw [if_neg (show ¬ iN p = 0 by rw [show (0 : Int32) = iN 0 from rfl, iN_eq (by omega) (by omega)]; exact p0), zrK hro, hb_of (show fX6_layOut ro (1 : Int32) _ = _ from e1), gY hro 5 (by decide) (by decide), e4, show iN (40 :: t).length - (1 : Int32) = iN t.length from iN_pred, wY hro 5 _ (by decide) (by decide), gY hro 6 (by decide) (by decide), u2_o (by omega), i36, show iN p - (1 : Int32) = iN (p - 1) from iN_sub (b := 1) (by omega), wY hro 6 _ (by decide) (by decide), h_z1]
  · rw [if_neg (show ¬ iN ch = 41 from fun f => c41 ((q 41 (by decide)).mp f)), zrK hro]
    refine TR.wrap ?_
    have rk := rk_lt hch
    -- laying out and holding
    have j41 : ∀ (cm2 : Nat → Bool) (I3 : Nat → Nat → Int32), frR ro I2 I3 → (∀ k, k ≠ 8 → I3 ro k = I2 ro k) → I3 ro 8 = bt cm2 8 → ∃ I' A', fX6_takesBetween_J41 ro (iN ch) (iN (rkN ch)) (encC I3 A1 L pr ot T) = some ((if 0 < rkN ch then 1 else 0), (encC I' A' L pr ot T)) ∧ frR ro I I' ∧ frA ro A A' ∧ (0 < rkN ch → RR ro I A I' A' (k + 1) ((layP (rkN ch) w o).1, ch :: (layP (rkN ch) w o).2, p, 0, cm2, true)) := by
      intro cm2 I3 h1 h2 h3
      obtain ⟨rr, hrr⟩ : ∃ rr, rr = if 1 < rkN ch then rkN ch else 1 := ⟨_, rfl⟩
      have err : (if (1 : Int32) < iN (rkN ch) then iN (rkN ch) else (1 : Int32)) = iN rr := by
        rw [hrr]
        by_cases z : 1 < rkN ch
        · rw [if_pos z, if_pos (show (1 : Int32) < iN (rkN ch) by rw [show (1 : Int32) = iN 1 from rfl, iN_lt (by omega) (by omega)]; exact z)]
        · rw [if_neg z, if_neg (show ¬ (1 : Int32) < iN (rkN ch) by rw [show (1 : Int32) = iN 1 from rfl, iN_lt (by omega) (by omega)]; exact z)]
          rfl
      have rr1 : 1 ≤ rr ∧ rr < 1000 := by rw [hrr]; split <;> omega
      obtain ⟨I4, A4, e1, e2, e3, e4, e5, e6⟩ := c_layOut (I := I3) (A := A1) (L := L) (pr := pr) (ot := ot) (T := T) (r := rr) hro rr1.2 ((h2 4 (by decide)).trans ((i2 4 (by decide)).trans g4)) ((h2 5 (by decide)).trans ((i2 5 (by decide)).trans g5)) t1 t2 (by omega) w1
      have len := layP_len (r := rr) w o
      have hh := c_hold (I := I4) (A := A4) (L := L) (pr := pr) (ot := ot) (T := T) (v := iN ch) hro e4 (by omega)
      have fr : frR ro I (u2 (u2 I4 ro 5 (iN ((layP rr w o).2.length + 1))) ro 9 1) := (((f1.trans fR).trans h1).trans e2.fr).trans ((frR.u (by decide)).trans (frR.u (by decide)))
      have fa : frA ro A (u1 A4 (ro + 2) (upd (A4 (ro + 2)) (layP rr w o).2.length (iN ch))) := (f2.trans e2.fa).trans (frA.u (Or.inr rfl))
      refine ⟨_, _, ?_, fr, fa, fun pos => ?_⟩
      · unfold fX6_takesBetween_J41
        rw [err, zrK hro, hb_of e1, zrK hro, hb_of hh, h_z1, wY hro 9 _ (by decide) (by decide)]
        by_cases z : 0 < rkN ch
        · rw [if_neg (show ¬ iN (rkN ch) ≤ 0 by rw [show (0 : Int32) = iN 0 from rfl, iN_le (by omega) (by omega)]; omega), h_z1, if_pos z]
        · rw [if_pos (show iN (rkN ch) ≤ 0 by rw [show (0 : Int32) = iN 0 from rfl, iN_le (by omega) (by omega)]; omega), h_z0, if_neg z]
      · have er : rr = rkN ch := by rw [hrr]; split <;> omega
        subst er
        refine ⟨fr, fa, ((u2_o (by omega)).trans (u2_o (by omega))).trans e3, (u2_o (by omega)).trans u2_at, ((u2_o (by omega)).trans (u2_o (by omega))).trans ((e2.1 ro 6 (by omega)).trans ((h2 6 (by decide)).trans ((i2 6 (by decide)).trans g6))), ((u2_o (by omega)).trans (u2_o (by omega))).trans ((e2.1 ro 7 (by omega)).trans ((h2 7 (by decide)).trans i7)), ((u2_o (by omega)).trans (u2_o (by omega))).trans ((e2.1 ro 8 (by omega)).trans h3), u2_at, by rw [u1_o (by omega)]; exact e5, by rw [u1_at]; exact stk_pw e6, by show (layP (rkN ch) w o).1.length + ((layP (rkN ch) w o).2.length + 1) ≤ k + 1; omega, p4, (by show 0 ≤ 3; decide), (ow.lay (by omega)).push (by omega) (by omega)⟩
    unfold fX6_takesBetween
    rw [hb_of (c_rank (show ch < 1000 by omega))]
    by_cases r1 : rkN ch = 1
    · rw [if_pos (show iN (rkN ch) = 1 by rw [r1]; rfl), gY hro 6 (by decide) (by decide), gY hro 8 (by decide) (by decide), i2 6 (by decide), i2 8 (by decide), g6, g8]
      have hb : hasB (bt cm 8) p = cm p := by rw [bt_has (Nat.le_refl 8) (show p < 8 by omega), decide_eq_true (show p < 8 by omega), Bool.true_and]
      cases hcm : cm p with
      | true =>
        rw [hcm] at hb
        exact TR.no (by rw [tkR_f, if_neg nd, if_neg c41, if_neg (show ¬ rkN ch = 0 by omega), if_pos ⟨r1, hcm⟩]) (by rw [hb_of (isIn_y hb), if_neg (by decide), h_z0]) (f1.trans fR) f2
      | false =>
        rw [hcm] at hb
        obtain ⟨I', A', q1, q2, q3, q4⟩ := j41 (fun i => (i == p) || cm i) (u2 I2 ro 8 (bt (fun i => (i == p) || cm i) 8)) (frR.u (by decide)) (fun k hk => u2_o (by omega)) u2_at
        rw [if_pos (show 0 < rkN ch by omega)] at q1
        refine TR.yes (s' := ((layP (rkN ch) w o).1, ch :: (layP (rkN ch) w o).2, p, 0, fun i => (i == p) || cm i, true)) (by rw [tkR_f, if_neg nd, if_neg c41, if_neg (show ¬ rkN ch = 0 by omega), if_neg (show ¬ (rkN ch = 1 ∧ cm p = true) by rw [hcm]; intro f; cases f.2), if_pos r1]) ?_ (q4 (by omega))
        rw [hb_of (isIn_n hb), if_pos rfl, gY hro 8 (by decide) (by decide), gY hro 6 (by decide) (by decide), i2 6 (by decide), i2 8 (by decide), g6, g8, bt_or (show p < 8 by omega), wY hro 8 _ (by decide) (by decide)]
        exact q1
    · rw [if_neg (show ¬ iN (rkN ch) = 1 by rw [show (1 : Int32) = iN 1 from rfl, iN_eq (by omega) (by omega)]; exact r1)]
      obtain ⟨I', A', q1, q2, q3, q4⟩ := j41 cm I2 frR.refl (fun _ _ => rfl) ((i2 8 (by decide)).trans g8)
      by_cases r0 : rkN ch = 0
      · rw [if_neg (show ¬ 0 < rkN ch by omega)] at q1
        exact TR.no (by rw [tkR_f, if_neg nd, if_neg c41, if_pos r0]) q1 q2 q3
      · rw [if_pos (show 0 < rkN ch by omega)] at q1
        exact TR.yes (s' := ((layP (rkN ch) w o).1, ch :: (layP (rkN ch) w o).2, p, 0, cm, true)) (by rw [tkR_f, if_neg nd, if_neg c41, if_neg r0, if_neg (fun f => r1 f.1), if_neg r1]) q1 (q4 (by omega))
theorem c_takesR (hro : ro = 19 ∨ ro = 23) (h : RR ro I A I1 A1 k s) (hk : k < 40) (hch : ch < 256) : TR L pr ot T ro I A k s ch (fX6_takes ro (iN ch) (encC I1 A1 L pr ot T)) := by
  obtain ⟨o, w, p, d, cm, tn⟩ := s
  have hh := h
  obtain ⟨f1, f2, g4, g5, g6, g7, g8, g9, t1, t2, ln, p4, d3, ow⟩ := h
  unfold fX6_takes
  rw [gY hro 9 (by decide) (by decide), g9]
  cases tn with
  | true =>
    rw [if_neg (show ¬ bI true = 0 by decide), zrK hro]
    exact (c_tThing hro hh hk hch).wrap
  | false =>
    rw [if_pos (show bI false = 0 from rfl), gY hro 7 (by decide) (by decide), g7]
    dsimp only at *
    by_cases d0 : d = 0
    · rw [if_pos (show iN d ≤ 0 by rw [d0]; decide)]
      exact c_tJ33 hro hh hk hch (by omega)
    · rw [if_neg (show ¬ iN d ≤ 0 by rw [show (0 : Int32) = iN 0 from rfl, iN_le (by omega) (by omega)]; omega), hb_of (isDig hch)]
      by_cases dg : 48 ≤ ch ∧ ch < 58
      · rw [if_pos dg, if_neg (by decide), zrK hro]
        exact (c_tDigit hro hh hk dg (by omega)).wrap
      · rw [if_neg dg, if_pos rfl]
        exact c_tJ33 hro hh hk hch (fun f => dg f.2)
end RK
