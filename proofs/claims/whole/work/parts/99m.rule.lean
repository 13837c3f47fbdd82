/-! RULE: slip and read; how the class pushes by it -/
section RS
variable {I A E I' A' I1 A1 : Nat → Nat → Int32} {L L' : Nat → Int64} {pr ot : Nat} {T : PH} {ro n p d k l ch a q r : Nat} {c : Nat → Nat} {o : List Int32} {w W : List Nat} {cm cm0 : Nat → Bool} {v rm : Int32} {β : Type} {s s' : RuS} {x : Option (Int32 × PH)}
theorem c_slipR (hro : ro = 19 ∨ ro = 23) (hm : I ro 0 = 40) (h1 : I 1 1 = iN n) (hn : n ≤ 80) (hc : ∀ k, k < n → c k < 256 ∧ A 2 k = iN (c k)) :
    ∃ I' A', fX1_slip_X6 ro 1 rm (encC I A L pr ot T) = some (wQ (slF tkR mayR n 40 c (min n 40) ruS0 0).1, (encC I' A' L pr ot T)) ∧ frR ro I I' ∧ frA ro A A' ∧ ((slF tkR mayR n 40 c (min n 40) ruS0 0).1 = none → RR ro I A I' A' (min n 40) (slF tkR mayR n 40 c (min n 40) ruS0 0).2) := by
  obtain ⟨I0, hI0⟩ : ∃ I0, I0 = u2 (u2 (u2 (u2 (u2 (u2 I ro 4 0) ro 5 0) ro 6 0) ro 7 0) ro 8 0) ro 9 1 := ⟨_, rfl⟩
  have fr0 : frR ro I I0 := by
    rw [hI0]
    exact (((((frR.u (by decide)).trans (frR.u (by decide))).trans (frR.u (by decide))).trans (frR.u (by decide))).trans (frR.u (by decide))).trans (frR.u (by decide))
  have ne1 : ∀ {I' : Nat → Nat → Int32}, frR ro I I' → I' 1 1 = iN n := fun f => (f 1 1 (by omega)).trans h1
  have ne0 : ∀ {I' : Nat → Nat → Int32}, frR ro I I' → I' ro 0 = iN 40 := fun f => (f ro 0 (by omega)).trans hm
  have st0 : RR ro I A I0 A 0 ruS0 := by
    refine ⟨fr0, frA.refl, ?_, ?_, ?_, ?_, ?_, ?_, trivial, trivial, Nat.le_refl _, Nat.zero_le _, Nat.zero_le _, rfl, fun x hx => by cases hx⟩
    · rw [hI0, u2_o (by omega), u2_o (by omega), u2_o (by omega), u2_o (by omega), u2_o (by omega), u2_at]; rfl
    · rw [hI0, u2_o (by omega), u2_o (by omega), u2_o (by omega), u2_o (by omega), u2_at]; rfl
    · rw [hI0, u2_o (by omega), u2_o (by omega), u2_o (by omega), u2_at]; rfl
    · rw [hI0, u2_o (by omega), u2_o (by omega), u2_at]; rfl
    · rw [hI0, u2_o (by omega), u2_at]; decide
    · rw [hI0, u2_at]; rfl
  obtain ⟨h', k1, k2, k3⟩ := slip_lp2 (tk := tkR) (may := mayR) (n := n) (most := 40) (c := c) (fX1_slip_X6_L13 ro 1 (iN n) (fun h4 => (h_gi 5 0 h4 ro).bind fun x5 => if (iN n) ≤ x5 then ((h_ck 5 h4 ro).bind fun _ => h_bd (fX6_mayEnd ro h4) fun x6 h7 => if x6 = 0 then (some ((iN n), h7)) else (some ((-1 : Int32), h7))) else ((h_gi 5 0 h4 ro).bind fun x8 => some (x8, h4)))) (fun k s h => ∃ I' A', h = (encC I' A' L pr ot T) ∧ RR ro I A I' A' k s) (fun h => ∃ I' A', h = (encC I' A' L pr ot T) ∧ frR ro I I' ∧ frA ro A A')
    (fun k s h hk ⟨I1, A1, e0, e1⟩ => by
      subst e0
      have hck := hc k (by omega)
      have fR := e1.1
      have fA := e1.2.1
      have a2 : A1 2 = A 2 := fA 2 (by omega) (by omega)
      have hat : fX7_at 1 (iN k) (encC I1 A1 L pr ot T) = some (iN (c k), (encC I1 A1 L pr ot T)) := by
        rw [c_at (ne1 fR) hn (fun k hk => by rw [a2]; exact (hc k hk).2) (by omega)]
        unfold hrV
        rw [if_pos ⟨by omega, by omega⟩]
      obtain ⟨I2, A2, t1, t2, t4, t3⟩ := c_takesR (L := L) (pr := pr) (ot := ot) (T := T) hro e1 (show k < 40 by omega) hck.1
      have g1 : ¬ (iN n ≤ iN k) := by rw [iN_le (by omega) (by omega)]; omega
      have g2 : ¬ (iN 40 ≤ iN k) := by rw [iN_le (by omega) (by omega)]; omega
      refine ⟨fun e => ⟨(encC I2 A2 L pr ot T), ⟨I2, A2, rfl, t2, t4⟩, fun m => ?_⟩, fun s' e => ⟨(encC I2 A2 L pr ot T), ⟨I2, A2, rfl, t3 s' e⟩, fun m => ?_⟩⟩
      · rw [e] at t1
        rw [fX1_slip_X6_L13, if_neg g1, gY hro 0 (by decide) (by decide), ne0 fR, if_neg g2, bK_1, hb_of hat, zrK hro, hb_of t1]
        rfl
      · rw [e] at t1
        rw [fX1_slip_X6_L13, if_neg g1, gY hro 0 (by decide) (by decide), ne0 fR, if_neg g2, bK_1, hb_of hat, zrK hro, hb_of t1]
        rw [show (if (some s').isSome then (1 : Int32) else 0) = 1 from rfl, if_neg (by decide), letE_eq, show iN k + (1 : Int32) = iN (k + 1) from iN_add])
    (fun s h ⟨I1, A1, e0, e1⟩ => by
      subst e0
      obtain ⟨o, w, p, d, cm, tn⟩ := s
      refine ⟨(encC I1 A1 L pr ot T), ⟨I1, A1, rfl, e1⟩, fun m => ?_⟩
      obtain ⟨f1, f2, g4, g5, g6, g7, g8, g9, t1, t2, ln, p4, d3, ow⟩ := e1
      dsimp only at *
      have st : fX1_slip_X6_L13 ro 1 (iN n) (fun h4 => (h_gi 5 0 h4 ro).bind fun x5 => if (iN n) ≤ x5 then ((h_ck 5 h4 ro).bind fun _ => h_bd (fX6_mayEnd ro h4) fun x6 h7 => if x6 = 0 then (some ((iN n), h7)) else (some ((-1 : Int32), h7))) else ((h_gi 5 0 h4 ro).bind fun x8 => some (x8, h4))) (m + 1) (iN (min n 40)) (encC I1 A1 L pr ot T) = if (iN n) ≤ iN 40 then ((h_ck 5 (encC I1 A1 L pr ot T) ro).bind fun _ => h_bd (fX6_mayEnd ro (encC I1 A1 L pr ot T)) fun x6 h7 => if x6 = 0 then (some ((iN n), h7)) else (some ((-1 : Int32), h7))) else (some (iN 40, (encC I1 A1 L pr ot T))) := by
        rw [fX1_slip_X6_L13]
        by_cases d : n ≤ 40
        · rw [if_pos (by rw [iN_le (by omega) (by omega)]; omega), gY hro 0 (by decide) (by decide), ne0 f1]
          by_cases d2 : iN n ≤ iN 40
          · rw [if_pos d2, if_pos d2]
          · rw [if_neg d2, if_neg d2, gY hro 0 (by decide) (by decide), ne0 f1]
        · rw [if_neg (by rw [iN_le (by omega) (by omega)]; omega), gY hro 0 (by decide) (by decide), ne0 f1, if_pos (by rw [iN_le (by omega) (by omega)]; omega), gY hro 0 (by decide) (by decide), ne0 f1]
          by_cases d2 : iN n ≤ iN 40
          · rw [if_pos d2, if_pos d2]
          · rw [if_neg d2, if_neg d2, gY hro 0 (by decide) (by decide), ne0 f1]
      rw [st]
      by_cases d : n ≤ 40
      · rw [if_pos (by rw [iN_le (by omega) (by omega)]; exact d), zrK hro]
        unfold fX6_mayEnd
        rw [gY hro 9 (by decide) (by decide), g9]
        cases tn with
        | true =>
          rw [if_neg (show ¬ bI true = 0 by decide), h_z0, hb_some, if_pos rfl, if_neg (fun x => by cases x.2), show min n 40 = n by omega]
          rfl
        | false =>
          rw [if_pos (show bI false = 0 from rfl), gY hro 6 (by decide) (by decide), g6]
          by_cases d2 : p = 0
          · rw [if_pos (show iN p = 0 by rw [d2]; rfl), h_z1, hb_some, if_neg (by decide), if_pos ⟨d, by subst d2; rfl⟩]
            rfl
          · rw [if_neg (show ¬ iN p = 0 by rw [show (0 : Int32) = iN 0 from rfl, iN_eq (by omega) (by omega)]; exact d2), h_z0, hb_some, if_pos rfl, if_neg (fun x => d2 (by have := x.2; unfold mayR at this; simpa using this)), show min n 40 = n by omega]
            rfl
      · rw [if_neg (by rw [iN_le (by omega) (by omega)]; exact d), if_neg (fun x => d x.1), show min n 40 = 40 by omega]
        rfl)
    (fun k s h ⟨I1, A1, e0, e1⟩ => ⟨I1, A1, e0, e1.1, e1.2.1⟩)
    (min n 40) 0 ruS0 (encC I0 A L pr ot T) (by omega) ⟨I0, A, rfl, st0⟩
  have hs1 : (u2 (u2 (u2 (u2 (u2 (u2 I ro 4 0) ro 5 0) ro 6 0) ro 7 0) ro 8 0) ro 9 1) 1 1 = iN n := by rw [← hI0]; exact ne1 fr0
  have base : fX1_slip_X6 ro 1 rm (encC I A L pr ot T) = some (wQ (slF tkR mayR n 40 c (min n 40) ruS0 0).1, h') := by
    unfold fX1_slip_X6 fX6_begin
    rw [zrK hro, wY hro 4 _ (by decide) (by decide), wY hro 5 _ (by decide) (by decide), wY hro 6 _ (by decide) (by decide), wY hro 7 _ (by decide) (by decide), wY hro 8 _ (by decide) (by decide), h_z1, wY hro 9 _ (by decide) (by decide), hb_some, bK_1, hb_of c_sizeT, hs1, ← hI0]
    exact k1 FU (by unfold FU; omega)
  cases e : (slF tkR mayR n 40 c (min n 40) ruS0 0).1 with
  | none =>
    obtain ⟨I2, A2, q0, q1⟩ := k3 e
    refine ⟨I2, A2, by rw [base, e, q0], q1.1, q1.2.1, fun _ => q1⟩
  | some q =>
    obtain ⟨I2, A2, q0, q1, q2⟩ := k2
    exact ⟨I2, A2, by rw [base, e, q0], q1, q2, fun f => by cases f⟩
theorem c_read0 (hro : ro = 19 ∨ ro = 23) (h1 : I 1 1 = iN 0) : fX6_read ro 1 (encC I A L pr ot T) = some (-1, (encC (u2 I ro 4 0) A L pr ot T)) := by
  unfold fX6_read
  rw [bK_1, hb_of c_sizeT, h1, if_pos (show iN 0 = (0 : Int32) from rfl), wY hro 4 _ (by decide) (by decide)]
theorem c_read1 (hro : ro = 19 ∨ ro = 23) (hm : I ro 0 = 40) (h0 : n ≠ 0) (h1 : I 1 1 = iN n) (hn : n ≤ 80) (hc : ∀ k, k < n → c k < 256 ∧ A 2 k = iN (c k)) {q : Nat} (hs : (slF tkR mayR n 40 c (min n 40) ruS0 0).1 = some q) : ∃ I' A', fX6_read ro 1 (encC I A L pr ot T) = some (wQ (some q), (encC I' A' L pr ot T)) ∧ frR ro I I' ∧ frA ro A A' := by
  have hq := (slF_le _ _ _ _ hs).2
  obtain ⟨I', A', s1, s2, s3, s4⟩ := c_slipR (L := L) (pr := pr) (ot := ot) (T := T) (rm := 0) hro hm h1 hn hc
  refine ⟨I', A', ?_, s2, s3⟩
  unfold fX6_read
  rw [bK_1, hb_of c_sizeT, h1, if_neg (show ¬ iN n = 0 by rw [show (0 : Int32) = iN 0 from rfl, iN_eq (by omega) (by omega)]; exact h0), zrK hro, hb_of s1, hs, if_neg (wQ_ne (by omega))]
/-- what is laid out in the end -/
def outR (n : Nat) (c : Nat → Nat) : List Int32 := (layP 1 (slF tkR mayR n 40 c (min n 40) ruS0 0).2.2.1 (slF tkR mayR n 40 c (min n 40) ruS0 0).2.1).1
theorem c_read2 (hro : ro = 19 ∨ ro = 23) (hm : I ro 0 = 40) (h0 : n ≠ 0) (h1 : I 1 1 = iN n) (hn : n ≤ 80) (hc : ∀ k, k < n → c k < 256 ∧ A 2 k = iN (c k)) (hs : (slF tkR mayR n 40 c (min n 40) ruS0 0).1 = none) : ∃ I' A', fX6_read ro 1 (encC I A L pr ot T) = some (-1, (encC I' A' L pr ot T)) ∧ frR ro I I' ∧ frA ro A A' ∧ I' ro 4 = iN (outR n c).length ∧ stk (A' (ro + 1)) (outR n c) ∧ (outR n c).length ≤ 40 := by
  obtain ⟨I1, A1, s1, s2, s3, s4⟩ := c_slipR (L := L) (pr := pr) (ot := ot) (T := T) (rm := 0) hro hm h1 hn hc
  obtain ⟨f1, f2, g4, g5, g6, g7, g8, g9, t1, t2, ln, p4, d3, ow⟩ := s4 hs
  obtain ⟨I', A', q1, q2, q3, q4, q5, q6⟩ := c_layOut (L := L) (pr := pr) (ot := ot) (T := T) (r := 1) hro (by decide) g4 g5 t1 t2 (by omega) (fun x hx => (ow.2 x hx).1)
  have len := layP_len (r := 1) (slF tkR mayR n 40 c (min n 40) ruS0 0).2.2.1 (slF tkR mayR n 40 c (min n 40) ruS0 0).2.1
  refine ⟨I', A', ?_, s2.trans q2.fr, s3.trans q2.fa, q3, q5, by show (layP 1 _ _).1.length ≤ 40; omega⟩
  unfold fX6_read
  rw [bK_1, hb_of c_sizeT, h1, if_neg (show ¬ iN n = 0 by rw [show (0 : Int32) = iN 0 from rfl, iN_eq (by omega) (by omega)]; exact h0), zrK hro, hb_of s1, hs, if_pos (show wQ none = -1 from rfl), zrK hro, hb_of (show fX6_layOut ro (1 : Int32) _ = _ from q1)]
  rfl
def pu0 (ft : Nat → Int32) : Int32 := if ft 1 ≤ ft 0 then (if ft 0 ≤ ft 1 then 0 else -1) else 1
def puR (out : List Int32) (ft : Nat → Int32) : Int32 := clS ((evL ft out).headD 0)
theorem RU0 (h4 : I ro 4 = iN 0) : RU I A ro pu0 := ⟨fun ft ft' h => by unfold pu0; rw [h 0 (by decide), h 1 (by decide)], 0, Nat.zero_le _, h4, Or.inl ⟨rfl, fun _ => rfl⟩⟩
theorem RUr {out : List Int32} (h4 : I ro 4 = iN out.length) (ht : stk (A (ro + 1)) out) (hl : out.length ≤ 40) (he : ∀ ft, ∃ v, evL ft out = [v]) : RU I A ro (puR out) := by
  refine ⟨fun ft ft' h => by unfold puR; rw [evL_congr h], out.length, hl, h4, Or.inr ⟨?_, fun ft => ?_⟩⟩
  · cases out with
    | nil => obtain ⟨v, hv⟩ := he (fun _ => 0); cases hv
    | cons x t => exact Nat.succ_pos _
  · obtain ⟨v, hv⟩ := he ft
    refine ⟨v, by rw [evL_stk out ht, hv], ?_⟩
    unfold puR
    rw [hv]
    rfl
end RS
section RX
variable {I A E I' A' : Nat → Nat → Int32} {L L' : Nat → Int64} {pr ot s : Nat} {J J' : Nat → Int32} {B B' : Nat → Nat → Int32} {M M' : Nat → Int64} {rdv rdv' : Value} {ru : Nat} {T : PH} {G P W n p g h oa nr : Nat} {c : Nat → Nat} {R X Z : Nat → Int32} {v : Int32} {st : RSt}
theorem clM : (if (-99 : Int32) < (if v < (99 : Int32) then v else (99 : Int32)) then (if v < (99 : Int32) then v else (99 : Int32)) else (-99 : Int32)) = clS v := by
  unfold clS
  have e0 : (-99 : Int32).toInt = -99 := by decide
  have e9 : (99 : Int32).toInt = 99 := by decide
  by_cases c : v < 99
  · rw [if_pos c]
    rw [Int32.lt_iff_toInt_lt, e9] at c
    have c2 : v ≤ 99 := by rw [Int32.le_iff_toInt_le, e9]; omega
    by_cases d : -99 < v
    · have d2 : -99 ≤ v := by rw [Int32.le_iff_toInt_le]; rw [Int32.lt_iff_toInt_lt] at d; omega
      rw [if_pos d, if_pos d2, if_pos c2]
    · rw [if_neg d]
      by_cases d2 : -99 ≤ v
      · have : v = -99 := by
          apply Int32.toInt_inj.mp
          rw [Int32.le_iff_toInt_le, e0] at d2
          rw [Int32.lt_iff_toInt_lt, e0] at d
          rw [e0]
          omega
        rw [if_pos d2, if_pos c2, this]
      · rw [if_neg d2]
  · rw [if_neg c, if_pos (by decide)]
    rw [Int32.lt_iff_toInt_lt, e9] at c
    have d2 : -99 ≤ v := by rw [Int32.le_iff_toInt_le, e0]; omega
    rw [if_pos d2]
    by_cases c2 : v ≤ 99
    · have : v = 99 := by
        apply Int32.toInt_inj.mp
        rw [Int32.le_iff_toInt_le, e9] at c2
        rw [e9]
        omega
      rw [if_pos c2, this]
    · rw [if_neg c2]
/-- for every fact the text leaves one number -/
theorem evl_all (hn : n ≤ 80) (hcc : ∀ k, k < n → c k < 256 ∧ X k &&& 255 = iN (c k) ∧ (c k < 128 → X k = iN (c k))) (hs : (slF tkR mayR n 40 c (min n 40) ruS0 0).1 = none) (ft : Nat → Int32) : ∃ v, evL ft (outR n c) = [v] := by
  have hR : RD (u1 (bj (fun _ => 0) n 40) 24 1) (u1 (u1 (fun _ _ => 0) 9 X) 25 ft) (.ref 52) n 40 c := by
    refine ⟨?_, ?_, hn, by decide, fun k hk _ => (hcc k hk).1, 9, 52, rfl, Or.inl ⟨rfl, rfl⟩, fun k hk _ => ?_⟩
    · rw [u1_o (by decide)]; exact bj_15
    · rw [u1_o (by decide)]; unfold bj; rw [u1_o (by decide), u1_at]
    · rw [u1_o (by decide), u1_at]; exact (hcc k hk).2
  obtain ⟨v, st', f1, f2, f3, f4⟩ := r_rule (I := fun _ _ => 0) (E := fun _ _ => 0) (L := fun _ => 0) (pr := 19) (ot := 23) (M := fun _ => 0) (ru := 56) (T := []) (ft := ft) hR (Or.inr ⟨u1_at, fun l _ => by rw [u1_at]⟩)
  obtain ⟨h1, h2, h3, o', h4, h5⟩ := f4 (f3.symm.trans hs)
  refine ⟨v, ?_⟩
  unfold outR
  rw [h4]
  exact h5
theorem MUR0 : MUR 0 R pu0 := by
  intro I A E L pr ot J B M rdv ru T G P W oa p g h Z hM hJ hR hru hoa hp hg hh hc hz hb hpl
  have h8 := hM.2.2.2.1
  have h6 := hM.2.2.2.2.1
  refine ⟨J, B, rdv, ?_, frJ.refl, fun _ _ => rfl⟩
  have e5 : B 5 (4 * g + h) = A 13 (g * 4 + h) := by rw [show 4 * g + h = g * 4 + h by omega]; exact hM.2.2.2.2.2.2.2.1 _ (by omega)
  unfold fX12_pushOf fX12_pushOf_J155 fJ6_compare_7cf53
  rw [hb_of (r_humour hoa (by omega) hh hc), brR_5, show (4 : Int32) * iN g + iN h = iN (4 * g + h) by rw [show (4 : Int32) = iN 4 from rfl, iN_mul, iN_add], brA_5 (in_arr (show 4 * g + h < 32 by omega) (by decide) rfl), iN_nat (by omega), e5]
  obtain ⟨vv, hv⟩ : ∃ vv, vv = Z (8 + p * 4 + h) := ⟨_, rfl⟩
  obtain ⟨tt, ht⟩ : ∃ tt, tt = A 13 (g * 4 + h) := ⟨_, rfl⟩
  rw [← hv, ← ht]
  have ep : pu0 (fcS vv tt (A 12 g) (bc (gsS Z G p)) (Z (32 + p * 8 + g)) (A 14 p) (dy7 Z)) = if tt ≤ vv then (if vv ≤ tt then 0 else -1) else 1 := rfl
  rw [ep]
  by_cases c1 : vv ≤ tt
  · rw [if_pos c1]
    by_cases c2 : tt = vv
    · rw [if_pos c2, hb_some, brG_23, hJ, if_pos (by decide), letE_eq, if_pos (show tt ≤ vv by rw [c2]; rw [Int32.le_iff_toInt_le]; omega), if_pos c1]
      rfl
    · have c3 : ¬ tt ≤ vv := fun f => c2 (by
        apply Int32.toInt_inj.mp
        rw [Int32.le_iff_toInt_le] at f c1
        omega)
      rw [if_neg c2, hb_some, brG_23, hJ, if_pos (by decide), letE_eq, if_neg c3]
      rfl
  · have c3 : tt ≤ vv := by
      rw [Int32.le_iff_toInt_le] at c1 ⊢
      omega
    rw [if_neg c1, hb_some, brG_23, hJ, if_pos (by decide), letE_eq, if_pos c3, if_neg c1]
    rfl
theorem pj24 {K : Nat → Int32} {st : RSt} {v : Int32} : u1 (pj K st) 24 v = pj (u1 K 24 v) st := by
  funext x
  unfold pj
  simp only [u1_eq]
  by_cases h24 : x = 24
  · subst h24; rfl
  · rw [if_neg h24, if_neg h24]
theorem s25_0 {β : Type} {f : PH → Option β} {v : Int32} : (h_ast .int (encC I E L pr ot (encR J B M rdv ru T)) 58 (0 : Int32) v).bind f = f (encC I E L pr ot (encR J (u1 B 25 (upd (B 25) 0 v)) M rdv ru T)) := by
  have := brS_25 (I := I) (A := E) (L := L) (pr := pr) (ot := ot) (J := J) (B := B) (M := M) (rdv := rdv) (ru := ru) (T := T) (i := iN 0) (v := v) (f := f) (in_arr (show 0 < 7 by decide) (by decide) rfl)
  rw [iN_nat (by decide)] at this
  exact this
theorem s25_1 {β : Type} {f : PH → Option β} {v : Int32} : (h_ast .int (encC I E L pr ot (encR J B M rdv ru T)) 58 (1 : Int32) v).bind f = f (encC I E L pr ot (encR J (u1 B 25 (upd (B 25) 1 v)) M rdv ru T)) := by
  have := brS_25 (I := I) (A := E) (L := L) (pr := pr) (ot := ot) (J := J) (B := B) (M := M) (rdv := rdv) (ru := ru) (T := T) (i := iN 1) (v := v) (f := f) (in_arr (show 1 < 7 by decide) (by decide) rfl)
  rw [iN_nat (by decide)] at this
  exact this
theorem s25_2 {β : Type} {f : PH → Option β} {v : Int32} : (h_ast .int (encC I E L pr ot (encR J B M rdv ru T)) 58 (2 : Int32) v).bind f = f (encC I E L pr ot (encR J (u1 B 25 (upd (B 25) 2 v)) M rdv ru T)) := by
  have := brS_25 (I := I) (A := E) (L := L) (pr := pr) (ot := ot) (J := J) (B := B) (M := M) (rdv := rdv) (ru := ru) (T := T) (i := iN 2) (v := v) (f := f) (in_arr (show 2 < 7 by decide) (by decide) rfl)
  rw [iN_nat (by decide)] at this
  exact this
theorem s25_3 {β : Type} {f : PH → Option β} {v : Int32} : (h_ast .int (encC I E L pr ot (encR J B M rdv ru T)) 58 (3 : Int32) v).bind f = f (encC I E L pr ot (encR J (u1 B 25 (upd (B 25) 3 v)) M rdv ru T)) := by
  have := brS_25 (I := I) (A := E) (L := L) (pr := pr) (ot := ot) (J := J) (B := B) (M := M) (rdv := rdv) (ru := ru) (T := T) (i := iN 3) (v := v) (f := f) (in_arr (show 3 < 7 by decide) (by decide) rfl)
  rw [iN_nat (by decide)] at this
  exact this
theorem s25_4 {β : Type} {f : PH → Option β} {v : Int32} : (h_ast .int (encC I E L pr ot (encR J B M rdv ru T)) 58 (4 : Int32) v).bind f = f (encC I E L pr ot (encR J (u1 B 25 (upd (B 25) 4 v)) M rdv ru T)) := by
  have := brS_25 (I := I) (A := E) (L := L) (pr := pr) (ot := ot) (J := J) (B := B) (M := M) (rdv := rdv) (ru := ru) (T := T) (i := iN 4) (v := v) (f := f) (in_arr (show 4 < 7 by decide) (by decide) rfl)
  rw [iN_nat (by decide)] at this
  exact this
theorem s25_5 {β : Type} {f : PH → Option β} {v : Int32} : (h_ast .int (encC I E L pr ot (encR J B M rdv ru T)) 58 (5 : Int32) v).bind f = f (encC I E L pr ot (encR J (u1 B 25 (upd (B 25) 5 v)) M rdv ru T)) := by
  have := brS_25 (I := I) (A := E) (L := L) (pr := pr) (ot := ot) (J := J) (B := B) (M := M) (rdv := rdv) (ru := ru) (T := T) (i := iN 5) (v := v) (f := f) (in_arr (show 5 < 7 by decide) (by decide) rfl)
  rw [iN_nat (by decide)] at this
  exact this
theorem s25_6 {β : Type} {f : PH → Option β} {v : Int32} : (h_ast .int (encC I E L pr ot (encR J B M rdv ru T)) 58 (6 : Int32) v).bind f = f (encC I E L pr ot (encR J (u1 B 25 (upd (B 25) 6 v)) M rdv ru T)) := by
  have := brS_25 (I := I) (A := E) (L := L) (pr := pr) (ot := ot) (J := J) (B := B) (M := M) (rdv := rdv) (ru := ru) (T := T) (i := iN 6) (v := v) (f := f) (in_arr (show 6 < 7 by decide) (by decide) rfl)
  rw [iN_nat (by decide)] at this
  exact this
theorem MURr (hn0 : n ≠ 0) (hn : n ≤ 40) (hR : ∀ k, k < n → R k = iN (c k) ∧ c k < 128) (hs : (slF tkR mayR n 40 c (min n 40) ruS0 0).1 = none) : MUR n R (puR (outR n c)) := by
  intro I A E L pr ot J B M rdv ru T G P W oa p g h Z hM hJ hRB hru hoa hp hg hh hc hz hb hpl
  have h8 := hM.2.2.2.1
  have h6 := hM.2.2.2.2.1
  have e5 : B 5 (4 * g + h) = A 13 (g * 4 + h) := by rw [show 4 * g + h = g * 4 + h by omega]; exact hM.2.2.2.2.2.2.2.1 _ (by omega)
  have e4 : B 4 g = A 12 g := hM.2.2.2.2.2.2.1 g hg
  have e6 : B 6 p = A 14 p := hM.2.2.2.2.2.2.2.2.1 p hp
  have eb : B (fb oa) (32 + p) = gsS Z G p := by rw [hz.gs h8 (by omega)]; exact hc.2.1 p (by omega)
  have ed : B (fb oa) (38 + 8 * p + g) = Z (32 + p * 8 + g) := hc.2.2.1 p g (by omega) (by omega) hb
  have e86 : B (fb oa) 86 = Z 80 := hc.2.2.2.1
  have fb25 : fb oa ≠ 25 := by rcases fb_or oa with e | e <;> rw [e] <;> decide
  obtain ⟨X, hX⟩ : ∃ X : Nat → Int32, X = upd (upd (upd (upd (upd (upd (upd (B 25) 0 (Z (8 + p * 4 + h))) 1 (A 13 (g * 4 + h))) 2 (A 12 g)) 3 (bc (gsS Z G p))) 4 (Z (32 + p * 8 + g))) 5 (A 14 p)) 6 (dy7 Z) := ⟨_, rfl⟩
  have rf40 : (ru = 56 ∧ rf ru = 21) ∨ (ru = 57 ∧ rf ru = 22) := by rcases hru with e | e <;> subst e; exact Or.inl ⟨rfl, rfl⟩; exact Or.inr ⟨rfl, rfl⟩
  obtain ⟨K, hK⟩ : ∃ K, K = u1 (u1 (u1 J 15 (iN n)) 16 (iN 40)) 24 1 := ⟨_, rfl⟩
  have rd : RD K (u1 B 25 X) (.ref ru) n 40 c := by
    refine ⟨by rw [hK, u1_o (by decide), u1_o (by decide), u1_at], by rw [hK, u1_o (by decide), u1_at], by omega, by decide, fun k hk _ => by have := (hR k hk).2; omega, rf ru, ru, rfl, ?_, fun k hk _ => ?_⟩
    · rcases rf40 with ⟨a, b⟩ | ⟨a, b⟩
      · exact Or.inr (Or.inl ⟨a, b, by decide⟩)
      · exact Or.inr (Or.inr ⟨a, b, by decide⟩)
    · rw [u1_o (by rcases rf40 with ⟨a, b⟩ | ⟨a, b⟩ <;> rw [b] <;> decide), hRB, (hR k hk).1]
      refine ⟨?_, fun _ => rfl⟩
      have : ∀ m : Fin 128, iN m.val &&& 255 = iN m.val := by decide +kernel
      exact this ⟨c k, (hR k hk).2⟩
  obtain ⟨v, st', f1, f2, f3, f4⟩ := r_rule (I := I) (E := E) (L := L) (pr := pr) (ot := ot) (M := M) (ru := ru) (T := T) (ft := X) rd (Or.inr ⟨by rw [hK, u1_at], fun l _ => by rw [u1_at]⟩)
  obtain ⟨s1, s2, s3, o', s4, s5⟩ := f4 (f3.symm.trans hs)
  have ev : evL X (outR n c) = [v] := by unfold outR; rw [s4]; exact s5
  have xf : ∀ k, k < 7 → X k = fcS (Z (8 + p * 4 + h)) (A 13 (g * 4 + h)) (A 12 g) (bc (gsS Z G p)) (Z (32 + p * 8 + g)) (A 14 p) (dy7 Z) k := by
    intro k hk
    rw [hX]
    match k, hk with
    | 0, _ => rfl
    | 1, _ => rfl
    | 2, _ => rfl
    | 3, _ => rfl
    | 4, _ => rfl
    | 5, _ => rfl
    | 6, _ => rfl
  have ep : puR (outR n c) (fcS (Z (8 + p * 4 + h)) (A 13 (g * 4 + h)) (A 12 g) (bc (gsS Z G p)) (Z (32 + p * 8 + g)) (A 14 p) (dy7 Z)) = clS v := by
    unfold puR
    rw [← evL_congr xf, ev]
    rfl
  rw [ep]
  refine ⟨u1 (pj K st') 24 0, u1 B 25 X, .ref ru, ?_, fun x x1 x2 x3 x4 x5 => ?_, fun x hx => u1_o hx⟩
  · have hn1 : ¬ iN n ≤ 0 := by rw [show (0 : Int32) = iN 0 from rfl, iN_le (by omega) (by omega)]; omega
    have cmp : ∀ {a b : Int32} {hh : PH}, ∃ y, fJ6_compare_7cf53 a b hh = some (y, hh) := fun {a b hh} => by
      unfold fJ6_compare_7cf53
      split
      · split
        · exact ⟨_, rfl⟩
        · exact ⟨_, rfl⟩
      · exact ⟨_, rfl⟩
    obtain ⟨y, hy⟩ := cmp (a := A 13 (g * 4 + h)) (b := Z (8 + p * 4 + h)) (hh := (encC I E L pr ot (encR J B M rdv ru T)))
    have fbu : ∀ Y, (u1 B 25 Y) (fb oa) = B (fb oa) := fun Y => u1_o fb25
    unfold fX12_pushOf fX12_begin
    rw [hb_of (r_humour hoa (by omega) hh hc), brR_5, show (4 : Int32) * iN g + iN h = iN (4 * g + h) by rw [show (4 : Int32) = iN 4 from rfl, iN_mul, iN_add], brA_5 (in_arr (show 4 * g + h < 32 by omega) (by decide) rfl), iN_nat (by omega), e5, hb_of hy, brG_23, hJ, if_neg hn1]
    rw [brR_25, s25_0, brR_25, s25_1, brR_25, brR_4, brA_4 (in_arr (show g < 8 by omega) (by decide) rfl), iN_nat (by omega), u1_o (show (4 : Nat) ≠ 25 by decide), u1_o (show (4 : Nat) ≠ 25 by decide), e4, s25_2]
    rw [brR_25, show (32 : Int32) + iN p = iN (32 + p) from iN_add, maA hoa (in_arr (show 32 + p < 88 by omega) (by decide) rfl), iN_nat (by omega)]
    simp only [u1_u1, u1_at]
    rw [fbu, eb, hb_of c_bitCount, s25_3, brR_25, show (38 : Int32) + (8 : Int32) * iN p + iN g = iN (38 + 8 * p + g) by rw [show (38 : Int32) = iN 38 from rfl, show (8 : Int32) = iN 8 from rfl, iN_mul, iN_add, iN_add], maA hoa (in_arr (show 38 + 8 * p + g < 88 by omega) (by decide) rfl), iN_nat (by omega)]
    simp only [u1_u1, u1_at]
    rw [fbu, ed, s25_4, brR_25, brR_6, brA_6 (in_arr (show p < 6 by omega) (by decide) rfl), iN_nat (by omega)]
    simp only [u1_u1, u1_at]
    rw [u1_o (show (6 : Nat) ≠ 25 by decide), e6, s25_5, brR_25, show (86 : Int32) = iN 86 from rfl, maA hoa (in_arr (show 86 < 88 by decide) (by decide) rfl), iN_nat (by decide)]
    simp only [u1_u1, u1_at]
    rw [fbu, e86, if_neg (by decide), s25_6]
    simp only [u1_u1, u1_at]
    have e24 : u1 (u1 (u1 (u1 (u1 J 15 (iN n)) 16 (40 : Int32)) 17 (0 : Int32)) 18 (-1 : Int32)) 24 (1 : Int32) = pj K (0, none) := by
      rw [hK, ← pj24]
      rfl
    rw [show (Z 80 - Z 80 / 7 * 7) = dy7 Z from rfl, ← hX, brR_21, brG_23, hJ, brK, brV_14, brW_15, brW_16, brW_17, brW_18, hb_some, h_z1, brW_24, brK, e24, hb_of (show rX12_heldBy 50 45 (0 : Int32) _ = _ from f1), h_z0, brW_24]
    unfold fX12_pushOf_J155
    rw [letE_eq, clM]
  · rw [u1_o x5, hK]
    rw [pj_ne x3 x4, u1_o x5, u1_o x2, u1_o x1]
end RX
