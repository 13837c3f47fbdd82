/-! CALL: years, the two together -/
section YR
variable {I A E I' A' : Nat → Nat → Int32} {L L' : Nat → Int64} {pr ot s : Nat} {J J' : Nat → Int32} {B B' : Nat → Nat → Int32} {M M' : Nat → Int64} {rdv rdv' : Value} {ru : Nat} {T : PH} {G P W p q g n nr sz ro oa w t : Nat} {Z Z' R X a : Nat → Int32} {x y z d : Int32} {out : Nat → Int64} {pu : (Nat → Int32) → Int32}
theorem yrN_s {q : Int32 × (Nat → Int32)} {k : Nat} (e : q = yrN A pu G P x Z k) : yrS A pu G P q = yrN A pu G P x Z (k + 1) := by rw [e]; rfl
theorem years_st (c : CK I A G P W pr pu) (x : Int32) {N k : Nat} (hN : N ≤ 60) (hk : k < N) (i1 : frQ A A') (i2 : A' 32 = (yrN A pu G P x (A 28) k).2) : ∃ A2, (frQ A A2 ∧ A2 32 = (yrN A pu G P x (A 28) (k + 1)).2) ∧ ∀ (kx : PH → Option (Int32 × PH)) n, fX11_years_L28 0 (iN N) kx (n + 1) (yrN A pu G P x (A 28) k).1 (iN k) (encC I A' L pr ot T) = fX11_years_L28 0 (iN N) kx n (yrN A pu G P x (A 28) (k + 1)).1 (iN (k + 1)) (encC I A2 L pr ot T) := by
  have hz := c.2.2.2.2.1
  have h8 := c.1.2.2.2.1
  have h6 := c.1.2.2.2.2.1
  obtain ⟨A2, f1, f2, f3⟩ := c.yr1 (L := L) (ot := ot) (T := T) i1 i2 (hz.yr2 h8 h6 k) hk hN
  exact ⟨A2, ⟨f1, f2⟩, f3⟩
theorem years_en {N n : Nat} {d : Int32} (hN : N ≤ 60) (kx : PH → Option (Int32 × PH)) {h : PH} : fX11_years_L28 0 (iN N) kx (n + 1) d (iN N) h = kx h := by
  rw [fX11_years_L28, if_pos (by rw [iN_le (by omega) (by omega)]; omega)]
theorem years_C1 (c : CK I A G P W pr pu) (x : Int32) {N : Nat} (hN : N ≤ 60) (i1 : frQ A A') (i2 : A' 32 = A 28) : ∃ A2, (frQ A A2 ∧ A2 32 = (yrN A pu G P x (A 28) N).2) ∧ ∀ (kx : PH → Option (Int32 × PH)) n, N < n → fX11_years_L28 0 (iN N) kx n (yrN A pu G P x (A 28) 0).1 (iN 0) (encC I A' L pr ot T) = kx (encC I A2 L pr ot T) :=
  lp_k (fun kx n k (t : Nat → Nat → Int32) => fX11_years_L28 0 (iN N) kx n (yrN A pu G P x (A 28) k).1 (iN k) (encC I t L pr ot T)) (fun (kx : PH → Option (Int32 × PH)) t => kx (encC I t L pr ot T)) (fun k t => frQ A t ∧ t 32 = (yrN A pu G P x (A 28) k).2) N
    (fun k t hk hi => years_st c x hN hk hi.1 hi.2) (fun t _ kx n => years_en hN kx) N 0 A' (Nat.zero_add N) ⟨i1, i2⟩
theorem years_C2 (c : CK I A G P W pr pu) (f1 : frQ A A') : ∃ I' L', ((h_gr 10 6 (encC I A' L pr ot T) 0).bind fun q7 => (h_ck 2 (encC I A' L pr ot T) q7).bind fun _ => h_bd (fX3_start q7 (encC I A' L pr ot T)) fun _ h8 => (h_gr 10 6 h8 0).bind fun q9 => (h_gr 10 9 h8 0).bind fun q10 => (h_ck 7 h8 q10).bind fun _ => h_bd (fX8_humoursOfAll q10 h8) fun x11 h12 => (h_ck 2 h12 q9).bind fun _ => h_bd (fX3_add q9 (x11.toInt64) h12) fun _ h13 => (h_gr 10 6 h13 0).bind fun q14 => (h_gr 10 9 h13 0).bind fun q15 => (h_ck 7 h13 q15).bind fun _ => h_bd (fX8_groundsOfAll q15 h13) fun x16 h17 => (h_ck 2 h17 q14).bind fun _ => h_bd (fX3_add q14 (x16.toInt64) h17) fun _ h18 => (h_gr 10 9 h18 0).bind fun q19 => (h_ck 7 h18 q19).bind fun _ => h_bd (fX8_wantsOfAll q19 h18) fun x20 h21 => some (x20, h21)) = some (sm (fun p => bc (waS A (A' 32) W p)) P, (encC I' A' L' pr ot T)) ∧ frI I I' ∧ rowQ (I 9 1) L (I' 9 1) L' (some [(huS (A' 32) P).toInt64, (sm (fun p => bc (gsS (A' 32) G p)) P).toInt64]) := by
  have hF := c.1
  have hT := c.2.1
  have hF' : ∀ v, FS (u2 I 9 1 v) G P W := fun v => hF
  have g1 := c_humoursOfAll (I := u2 I 9 1 (iN 0)) (A := A') (L := L) (pr := pr) (ot := ot) (T := T) (o := 31) (P := P) (G := G) (W := W) (hF' _) (Or.inr rfl)
  have g2 := c_add (I := I) (A := A') (L := L) (pr := pr) (ot := ot) (T := T) (v := (huS (A' 32) P).toInt64) (n := 0) (by decide)
  have g3 := c_groundsOfAll (I := u2 I 9 1 (iN 1)) (A := A') (L := vp_updL L 0 (huS (A' 32) P).toInt64) (pr := pr) (ot := ot) (T := T) (o := 31) (P := P) (G := G) (W := W) (hF' _) (Or.inr rfl)
  have g4 := c_add (I := I) (A := A') (L := vp_updL L 0 (huS (A' 32) P).toInt64) (pr := pr) (ot := ot) (T := T) (v := (sm (fun p => bc (gsS (A' 32) G p)) P).toInt64) (n := 1) (by decide)
  have g5 := c_wantsOfAll (I := u2 I 9 1 (iN 2)) (A := A') (L := vp_updL (vp_updL L 0 (huS (A' 32) P).toInt64) 1 (sm (fun p => bc (gsS (A' 32) G p)) P).toInt64) (pr := pr) (ot := ot) (T := T) (o := 31) (P := P) (G := G) (W := W) (hF' _) (f1.ts hT) (Or.inr rfl)
  rw [f1.wa] at g5
  refine ⟨u2 I 9 1 (iN 2), vp_updL (vp_updL L 0 (huS (A' 32) P).toInt64) 1 (sm (fun p => bc (gsS (A' 32) G p)) P).toInt64, ?_, frI.u, by simp, row_2 rfl⟩
  rw [bR_0_6, bK_9, hb_of c_start, bR_0_6, bR_0_9, bK_31, hb_of g1, bK_9, hb_of g2, bR_0_6, bR_0_9, bK_31, hb_of g3, bK_9, hb_of g4, bR_0_9, bK_31, hb_of g5]
theorem years_C (c : CK I A G P W pr pu) (x : Int32) {N : Nat} (h1 : 1 ≤ N) (hN : N ≤ 60) : qC I A L pr ot T (fX11_years 0 x (iN N)) (sm (fun p => bc (waS A (yrN A pu G P x (A 28) N).2 W p)) P) (some [(huS (yrN A pu G P x (A 28) N).2 P).toInt64, (sm (fun p => bc (gsS (yrN A pu G P x (A 28) N).2 G p)) P).toInt64]) := by
  obtain ⟨e1, e2⟩ := c.copyQ (L := L) (ot := ot) (T := T) (frQ.refl (A := A))
  obtain ⟨A2, ⟨f1, f2⟩, f3⟩ := years_C1 (L := L) (ot := ot) (T := T) c x hN e2 (by rw [u1_eq, if_pos rfl])
  have f4 : ∀ kx : PH → Option (Int32 × PH), fX11_years_L28 0 (iN N) kx FU x (iN 0) _ = kx _ := fun kx => f3 kx FU (by unfold FU; omega)
  obtain ⟨I', L', g1, g2, g3⟩ := years_C2 (L := L) (ot := ot) (T := T) c f1
  rw [f2] at g1 g3
  refine ⟨I', A2, L', ?_, g2, f1, g3⟩
  unfold fX11_years
  simp only [iN_lit]
  rw [hb_of (within_y h1 hN (by decide)), if_neg (by decide), bR_0_9, bR_0_8, bK_31, hb_of e1, f4]
  exact g1
theorem years_M (mk : MKK A (u1 J 13 (iN 0)) B G P W ru pu) (x : Int32) {N : Nat} (h1 : 1 ≤ N) (hN : N ≤ 60) : qM J B M rdv ru (fX12_years 45 x (iN N)) (sm (fun p => bc (waS A (yrN A pu G P x (A 28) N).2 W p)) P) (some [(huS (yrN A pu G P x (A 28) N).2 P).toInt64, (sm (fun p => bc (gsS (yrN A pu G P x (A 28) N).2 G p)) P).toInt64]) := by
  intro I E L pr ot T
  have hM := mk.1
  have h8 := hM.2.2.2.1
  have h6 := hM.2.2.2.2.1
  have hz := mk.2.2.2.1
  obtain ⟨X, l1, l2, l3⟩ := mk.layQ (I := I) (E := E) (L := L) (pr := pr) (ot := ot) (J' := u1 (u1 J 13 (iN 0)) 46 x) (M := M) (rdv' := rdv) (T := T) frRB.refl
  obtain ⟨⟨J2, B2, rdv2⟩, ⟨f0, f1, f2, f4⟩, f3⟩ := lp_up (fun n k (t : (Nat → Int32) × (Nat → Nat → Int32) × Value) => fX12_years_L36 45 (iN N) (fun h8 => (h_pv 11 12 h8 45 (.int (iN 0))).bind fun h9 => (h_gr 11 29 h9 45).bind fun q10 => (h_ck 11 h9 45).bind fun _ => h_bd (fX12_humoursOfAll 45 q10 h9) fun x11 h12 => (h_ck 11 h12 45).bind fun _ => h_bd (fX12_tell 45 (x11.toInt64) h12) fun _ h13 => (h_gr 11 29 h13 45).bind fun q14 => (h_ck 11 h13 45).bind fun _ => h_bd (fX12_heldByAll 45 q14 h13) fun x15 h16 => (h_ck 11 h16 45).bind fun _ => h_bd (fX12_tell 45 (x15.toInt64) h16) fun _ h17 => (h_gr 11 29 h17 45).bind fun q18 => (h_ck 11 h17 45).bind fun _ => h_bd (fX12_hadByAll 45 q18 h17) fun x19 h20 => some (x19, h20)) n (iN k) (encC I E L pr ot (encR (t.1) (t.2.1) M (t.2.2) ru T))) (fun t => ((fun h8 => (h_pv 11 12 h8 45 (.int (iN 0))).bind fun h9 => (h_gr 11 29 h9 45).bind fun q10 => (h_ck 11 h9 45).bind fun _ => h_bd (fX12_humoursOfAll 45 q10 h9) fun x11 h12 => (h_ck 11 h12 45).bind fun _ => h_bd (fX12_tell 45 (x11.toInt64) h12) fun _ h13 => (h_gr 11 29 h13 45).bind fun q14 => (h_ck 11 h13 45).bind fun _ => h_bd (fX12_heldByAll 45 q14 h13) fun x15 h16 => (h_ck 11 h16 45).bind fun _ => h_bd (fX12_tell 45 (x15.toInt64) h16) fun _ h17 => (h_gr 11 29 h17 45).bind fun q18 => (h_ck 11 h17 45).bind fun _ => h_bd (fX12_hadByAll 45 q18 h17) fun x19 h20 => some (x19, h20)) (encC I E L pr ot (encR (t.1) (t.2.1) M (t.2.2) ru T)) : Option (Int32 × PH))) (fun k t => frY (u1 (u1 J 13 (iN 0)) 46 x) t.1 ∧ frRB B t.2.1 ∧ t.1 46 = (yrN A pu G P x (A 28) k).1 ∧ CP (yrN A pu G P x (A 28) k).2 (t.2.1 29)) N
    (fun k t hk ⟨i1, i2, i4, i3⟩ => by
      have mk' : MKK A (u1 (u1 J 13 (iN 0)) 46 x) B G P W ru pu := mk.fr (frRJ.u (by decide)) frRB.refl
      obtain ⟨J2, B2, rdv2, f1, f2, f3, f4, f5⟩ := mk'.yr1 (I := I) (E := E) (L := L) (pr := pr) (ot := ot) (M := M) (rdv' := t.2.2) (T := T) i1 i2 i4 i3 (hz.yr2 h8 h6 k) hk hN
      exact ⟨(J2, B2, rdv2), ⟨f1, f2, f3, f4⟩, fun n => f5 _ n⟩)
    (fun t _ n => by
      dsimp only
      rw [fX12_years_L36, if_pos (by rw [iN_le (by omega) (by omega)]; omega)])
    N 0 (u1 (u1 J 13 (iN 0)) 46 x, u1 B 29 X, rdv) (by omega) ⟨fun _ _ _ _ _ _ _ _ => rfl, l3, by show u1 (u1 J 13 (iN 0)) 46 x 46 = _; rw [u1_eq, if_pos rfl]; rfl, by show CP _ (u1 B 29 X 29); rw [u1_eq, if_pos rfl]; exact l2⟩
  dsimp only at f0 f1 f2 f3 f4
  have f5 := f3 FU (by unfold FU; omega)
  have hz' := hz.yr2 (A := A) (pu := pu) (d := x) h8 h6 N
  have mk2 : MKK A J2 B2 G P W ru pu := (mk.fr (frRJ.u (by decide)) frRB.refl : MKK A (u1 (u1 J 13 (iN 0)) 46 x) B G P W ru pu).fr f0.r f1
  have m0 : FM A (u1 J2 12 (iN 0)) B2 G P W := mk2.1.j0 (by decide)
  have g1 := r_humoursOfAll (I := I) (E := E) (L := L) (pr := pr) (ot := ot) (M := M) (rdv := rdv2) (ru := ru) (T := T) (oa := 61) m0 (Or.inr rfl) f4
  have g2 := r_tell (I := I) (E := E) (L := L) (pr := pr) (ot := ot) (J := u1 J2 12 (iN 0)) (B := B2) (M := M) (rdv := rdv2) (ru := ru) (T := T) (v := (huS (yrN A pu G P x (A 28) N).2 P).toInt64) (n := 0) (by rw [u1_eq, if_pos rfl]) (by decide)
  rw [u1_u1] at g2
  have m1 : FM A (u1 J2 12 (iN (0 + 1))) B2 G P W := mk2.1.j0 (by decide)
  have g3 := r_heldByAll (I := I) (E := E) (L := L) (pr := pr) (ot := ot) (M := vp_updL M 0 (huS (yrN A pu G P x (A 28) N).2 P).toInt64) (rdv := rdv2) (ru := ru) (T := T) (oa := 61) m1 (Or.inr rfl) f4 hz'
  have g4 := r_tell (I := I) (E := E) (L := L) (pr := pr) (ot := ot) (J := u1 J2 12 (iN (0 + 1))) (B := B2) (M := vp_updL M 0 (huS (yrN A pu G P x (A 28) N).2 P).toInt64) (rdv := rdv2) (ru := ru) (T := T) (v := (sm (fun p => bc (gsS (yrN A pu G P x (A 28) N).2 G p)) P).toInt64) (n := 1) (by rw [u1_eq, if_pos rfl]) (by decide)
  rw [u1_u1] at g4
  have m2 : FM A (u1 J2 12 (iN (1 + 1))) B2 G P W := mk2.1.j0 (by decide)
  have g5 := r_hadByAll (I := I) (E := E) (L := L) (pr := pr) (ot := ot) (M := vp_updL (vp_updL M 0 (huS (yrN A pu G P x (A 28) N).2 P).toInt64) 1 (sm (fun p => bc (gsS (yrN A pu G P x (A 28) N).2 G p)) P).toInt64) (rdv := rdv2) (ru := ru) (T := T) (oa := 61) m2 (Or.inr rfl) f4 hz'.2.2.1
  refine ⟨u1 J2 12 (iN (1 + 1)), B2, vp_updL (vp_updL M 0 (huS (yrN A pu G P x (A 28) N).2 P).toInt64) 1 (sm (fun p => bc (gsS (yrN A pu G P x (A 28) N).2 G p)) P).toInt64, rdv2, ?_, (((frRJ.u (by decide)).trans (frRJ.u (by decide))).trans f0.r).trans (frRJ.u (by decide)), f1, by simp, by rw [u1_eq, if_pos rfl]; exact row_2 rfl⟩
  unfold fX12_years
  simp only [iN_lit]
  rw [brW_13, hb_of (in_y h1 hN (by decide)), if_neg (by decide), brW_46, brR_0, brR_29, hb_of l1]
  refine Eq.trans f5 ?_
  rw [brW_12, brR_29, brK, hb_of (g1), brK, hb_of g2, brR_29, brK, hb_of (g3), brK, hb_of g4, brR_29, brK, hb_of (g5)]
theorem p_years (h : INV s I A L pr ot J B M ru G P W) (x y : Int32) : pairG s I A L pr ot J B M rdv ru out (fX11_years 0 x y) (fX12_years 45 x y) := by
  obtain ⟨pu, ck, -, mk⟩ := h.km
  rcases arg_rg 1 60 (by decide) (by decide) y with ⟨N, h1, hN, rfl⟩ | hy
  · exact pairG_q h (fun T => years_C ck x h1 hN) (years_M mk x h1 hN)
  · refine pairG_q (ans := -1) h (fun T => qC_no ?_) (qM_no (fun I E L pr ot T => ?_))
    · unfold fX11_years
      rw [hb_of (show fX11_within y (1 : Int32) (60 : Int32) (encC I A L pr ot T) = some (0, (encC I A L pr ot T)) from within_n hy)]
      exact if_pos rfl
    · unfold fX12_years
      rw [brW_13, hb_of (show fX12_in y (1 : Int32) (60 : Int32) (encC I E L pr ot (encR (u1 J 13 0) B M rdv ru T)) = some (0, (encC I E L pr ot (encR (u1 J 13 0) B M rdv ru T))) from in_n hy)]
      exact if_pos rfl
end YR
