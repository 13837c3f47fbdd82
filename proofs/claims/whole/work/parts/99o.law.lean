/-! LAW: the call -/
section LW
variable {I A E I' A' I1 A1 : Nat → Nat → Int32} {L L' : Nat → Int64} {pr ot pr' ot' s ro : Nat} {J J' : Nat → Int32} {B B' : Nat → Nat → Int32} {M M' : Nat → Int64} {rdv rdv' : Value} {ru : Nat} {T : PH} {out : Nat → Int64} {G P W n k p q nr : Nat} {c : Nat → Nat} {R X Z : Nat → Int32} {v : Int32} {st : RSt} {pu : (Nat → Int32) → Int32}
theorem c_wHB (hF : FS I G P W) (hT : TS A W) (hro : ro = 19 ∨ ro = 23) (hr : RU I A ro pu) (hz : OK G P (A 28)) (hn2 : nz (A 32)) : ∃ A', fX11_wantsHadBy 0 ro (encC I A L pr ot T) = some (sm (fun p => bc (waS A (daN A pu G P (A 28) 10) W p)) P, (encC I A' L pr ot T)) ∧ (∀ x, x ≠ 32 → x ≠ 33 → x ≠ 34 → x ≠ ro + 3 → A' x = A x) ∧ nz (A' 32) := by
  have h8 := hF.2.2.2.1
  have h6 := hF.2.2.2.2.1
  have a1 : ∀ x, x ≠ 32 → u1 A 32 (A 28) x = A x := fun x hx => u1_o hx
  have cp := c_copy (I := I) (A := A) (L := L) (pr := pr) (ot := ot) (T := T) hz.1 hn2
  obtain ⟨A2, f1, f2, f3⟩ := c_passAll (I := I) (A := u1 A 32 (A 28)) (L := L) (pr := pr) (ot := ot) (T := T) (o := 31) (W := W) (G := G) (P := P) (N := 10) hF (Or.inr rfl) hro (hr.congr (a1 _ (by omega))) (by show ∀ p, p < 6 → okH (u1 A 32 (A 28) 32) p; rw [u1_at]; exact hz.2.2.1) (by decide)
  have f4 : A2 32 = daN A pu G P (A 28) 10 := by
    refine f3.trans ?_
    show paZ (u1 A 32 (A 28)) pu G P 10 (u1 A 32 (A 28) 32) = _
    rw [u1_at, paZ_cong (a1 12 (by decide)) (a1 13 (by decide)) (a1 14 (by decide)), paZ_daN h8 h6]
  have fx : ∀ x, x ≠ 32 → x ≠ 33 → x ≠ 34 → x ≠ ro + 3 → A2 x = A x := fun x x1 x2 x3 x4 => (f2 x x1 x2 x3 x4).trans (a1 x x1)
  have hT2 : TS A2 W := hT.congr (fun x _ _ => fx x (by omega) (by omega) (by omega) (by omega))
  have wa := c_wantsOfAll (I := I) (A := A2) (L := L) (pr := pr) (ot := ot) (T := T) (o := 31) hF hT2 (Or.inr rfl)
  rw [show A2 (31 + 1) = daN A pu G P (A 28) 10 from f4] at wa
  have wc : (fun p => bc (waS A2 (daN A pu G P (A 28) 10) W p)) = (fun p => bc (waS A (daN A pu G P (A 28) 10) W p)) := by
    funext p
    rw [waS_congr (fun x _ _ => fx x (by omega) (by omega) (by omega) (by omega))]
  rw [wc] at wa
  refine ⟨A2, ?_, fx, by rw [f4]; exact (hz.dn h8 h6 10).1⟩
  unfold fX11_wantsHadBy
  rw [bR_0_9, bR_0_8, bK_31, hb_of cp, bR_0_9, bK_31, hb_of (show fX8_passAll 31 (10 : Int32) ro _ = _ from f1), bR_0_9, bK_31, hb_of wa]
theorem r_h10 (hM : FM A J B G P W) (hu : MUR nr R pu) (hJ : J 23 = iN nr) (hR : B (rf ru) = R) (hru : ru = 56 ∨ ru = 57) (hc : CP Z (B 0)) (hz : OK G P Z) : ∃ J' B' rdv', fX12_hadIn10 45 (encC I E L pr ot (encR J B M rdv ru T)) = some (sm (fun p => bc (waS A (daN A pu G P Z 10) W p)) P, (encC I E L pr ot (encR J' B' M rdv' ru T))) ∧ frK J J' ∧ frB 29 B B' := by
  have h8 := hM.2.2.2.1
  have h6 := hM.2.2.2.2.1
  have ly := r_layT (I := I) (E := E) (L := L) (pr := pr) (ot := ot) (J := J) (B := B) (M := M) (rdv := rdv) (ru := ru) (T := T)
  have b1 : ∀ x, x ≠ 29 → u1 B 29 (va_cpy (B 0) (B 29) 0 0 88) x = B x := fun x hx => u1_o hx
  have c29 : CP Z (u1 B 29 (va_cpy (B 0) (B 29) 0 0 88) (fb 61)) := by
    rw [fb_61, u1_at]
    refine hc.ext (fun q hq => ?_)
    have e := cpy_in (f := B 0) (g := B 29) (k := 0) (n := 88) hq
    rw [Nat.zero_add] at e
    exact e
  have hM1 : FM A J (u1 B 29 (va_cpy (B 0) (B 29) 0 0 88)) G P W := hM.frame (fun x _ _ => rfl) (fun x _ _ => b1 x (by omega))
  have rf29 : rf ru ≠ 29 := by rcases rf_or ru with e | e <;> rw [e] <;> decide
  obtain ⟨J2, B2, rdv2, e1, e2, e3, e4, e5⟩ := r_goDays (I := I) (E := E) (L := L) (pr := pr) (ot := ot) (M := M) (ru := ru) (T := T) (rdv := rdv) (oa := 61) hM1 hu hJ ((b1 _ rf29).trans hR) hru (Or.inr rfl) c29 hz (N := 10) (by decide)
  rw [fb_61] at e4
  have hM2 : FM A J2 B2 G P W := hM1.frk e2 e4 (Or.inr rfl)
  have wa := r_hadByAll (I := I) (E := E) (L := L) (pr := pr) (ot := ot) (M := M) (rdv := rdv2) (ru := ru) (T := T) (oa := 61) hM2 (Or.inr rfl) e5 (hz.dn (A := A) (pu := pu) h8 h6 10).2.2.1
  refine ⟨J2, B2, rdv2, ?_, e2, fun x x1 x2 x3 => (e4 x x1 x2 x3).trans (b1 x x3)⟩
  unfold fX12_hadIn10
  rw [brR_0, brR_29, hb_of (show fX12_lay 46 61 (0 : Int32) _ = _ from ly), brR_29, brK, hb_of (show fX12_goDays 45 61 (10 : Int32) _ = _ from e1), brR_29, brK, hb_of wa]
theorem p_law (h : INV s I A L pr ot J B M ru G P W) : pairG s I A L pr ot J B M rdv ru out (fX11_law 0) (fX12_law 45) := by
  have hI := h
  obtain ⟨hpr, hru, pu, nr, hnr, hr, hu, hJ⟩ := h.rule
  obtain ⟨hF, hM, hpl, hz, hc, hn2, htx, hrl, hpas, hkps, hnts, hrws, hfm⟩ := h
  obtain ⟨n, c, hn, e1, e2, hcc⟩ := htx.ch
  have h8 := hF.2.2.2.1
  have h6 := hF.2.2.2.2.1
  have hot : ot = 19 ∨ ot = 23 := by have := hrl.1; omega
  have hm : I ot 0 = 40 := by
    obtain ⟨-, -, -, -, -, -, -, -, x1, x2⟩ := hfm
    rcases hot with e | e <;> rw [e] <;> assumption
  have hca : ∀ k, k < n → c k < 256 ∧ A 2 k = iN (c k) := fun k hk => ⟨(hcc k hk).1, (hcc k hk).2.1⟩
  have hcb : ∀ k, k < n → c k < 256 ∧ B 9 k &&& 255 = iN (c k) ∧ (c k < 128 → B 9 k = iN (c k)) := fun k hk => ⟨(hcc k hk).1, (hcc k hk).2.2⟩
  have e2' : (u1 J 13 0) 10 = iN n := (u1_o (by decide)).trans e2
  subst hru
  by_cases ok : okTx n c
  · have nle := ok.le
    have c128 := ok.chr (fun k hk => (hcc k hk).1)
    obtain ⟨I1, A1, f1, f2, f3, f4⟩ := c_readOk (L := L) (pr := pr) (T := encR J B M rdv 56 [.inl (.long, (1, .inr (.inl out)))]) (X := B 9) hot hm e1 hn hca hcb ok
    have i1 : I1 1 1 = iN n := (f2 1 1 (by omega)).trans e1
    -- the class
    have iU : ∀ x k, ¬ (x = 1 ∧ k = 1) → ¬ (x = ot ∧ 4 ≤ k) → u2 I1 1 1 0 x k = I x k := fun x k h1 h2 => (u2_o h1).trans (f2 x k h2)
    have hF1 : FS (u2 I1 1 1 0) G P W := ⟨(iU 11 9 (by decide) (by omega)).trans hF.1, (iU 11 10 (by decide) (by omega)).trans hF.2.1, (iU 11 11 (by decide) (by omega)).trans hF.2.2.1, hF.2.2.2⟩
    have a28 : A1 28 = A 28 := f3 28 (by omega) (by omega)
    have hT1 : TS A1 W := hM.TS.congr (fun x _ _ => f3 x (by omega) (by omega))
    have hz1 : OK G P (A1 28) := by rw [a28]; exact hz
    have hn1 : nz (A1 32) := by rw [f3 32 (by omega) (by omega)]; exact hn2
    have hro1 : RU (u2 I1 1 1 0) A1 ot (puT n c) := by
      obtain ⟨m1, m, m2, m3, m4⟩ := f4
      exact ⟨m1, m, m2, (u2_o (by omega)).trans m3, m4⟩
    have hrp1 : RU (u2 I1 1 1 0) A1 pr pu := by
      obtain ⟨m1, m, m2, m3, m4⟩ := hr
      refine ⟨m1, m, m2, (iU pr 4 (by omega) (by have := hrl.1; omega)).trans m3, ?_⟩
      rw [f3 (pr + 1) (by have := hrl.1; omega) (by have := hrl.1; omega)]
      exact m4
    obtain ⟨A2, q1, q2, q3⟩ := c_wHB (L := L) (pr := pr) (ot := ot) (T := encR J B M rdv 56 [.inl (.long, (1, .inr (.inl out)))]) hF1 hT1 hot hro1 hz1 hn1
    have hT2 : TS A2 W := hT1.congr (fun x _ _ => q2 x (by omega) (by omega) (by omega) (by omega))
    have a28' : A2 28 = A1 28 := q2 28 (by omega) (by omega) (by omega) (by omega)
    have hrp2 : RU (u2 I1 1 1 0) A2 pr pu := hrp1.congr (q2 _ (by omega) (by omega) (by omega) (by omega))
    obtain ⟨A3, s1, s2, s3⟩ := c_wHB (L := L) (pr := pr) (ot := ot) (T := encR J B M rdv 56 [.inl (.long, (1, .inr (.inl out)))]) hF1 hT2 hpr hrp2 (by rw [a28']; exact hz1) q3
    -- what both tell
    obtain ⟨vb, hvb⟩ : ∃ vb, vb = sm (fun p => bc (waS A (daN A (puT n c) G P (A 28) 10) W p)) P := ⟨_, rfl⟩
    obtain ⟨vw, hvw⟩ : ∃ vw, vw = sm (fun p => bc (waS A (daN A pu G P (A 28) 10) W p)) P := ⟨_, rfl⟩
    have ea : ∀ x, 12 ≤ x → x ≤ 18 → A1 x = A x := fun x h1 h2 => f3 x (by omega) (by omega)
    have eb : ∀ x, 12 ≤ x → x ≤ 18 → A2 x = A x := fun x h1 h2 => (q2 x (by omega) (by omega) (by omega) (by omega)).trans (ea x h1 h2)
    have wb : sm (fun p => bc (waS A1 (daN A1 (puT n c) G P (A1 28) 10) W p)) P = vb := by
      rw [hvb, a28, daN_cong (ea 12 (by omega) (by omega)) (ea 13 (by omega) (by omega)) (ea 14 (by omega) (by omega)) h8 h6]
      refine sm_congr (fun p _ => ?_)
      rw [waS_congr (fun x x1 x2 => ea x (by omega) x2)]
    have ww : sm (fun p => bc (waS A2 (daN A2 pu G P (A2 28) 10) W p)) P = vw := by
      rw [hvw, a28', a28, daN_cong (eb 12 (by omega) (by omega)) (eb 13 (by omega) (by omega)) (eb 14 (by omega) (by omega)) h8 h6]
      refine sm_congr (fun p _ => ?_)
      rw [waS_congr (fun x x1 x2 => eb x (by omega) x2)]
    rw [wb] at q1
    rw [ww] at s1
    have t1 := c_add (I := u2 I1 1 1 0) (A := A3) (L := L) (pr := pr) (ot := ot) (T := encR J B M rdv 56 [.inl (.long, (1, .inr (.inl out)))]) (v := vb.toInt64) (n := 0) (by decide)
    have t2 := c_add (I := u2 I1 1 1 0) (A := A3) (L := vp_updL L 0 vb.toInt64) (pr := pr) (ot := ot) (T := encR J B M rdv 56 [.inl (.long, (1, .inr (.inl out)))]) (v := vw.toInt64) (n := 1) (by decide)
    -- the model
    obtain ⟨IF, hIF⟩ : ∃ IF, IF = u2 (u2 I1 1 1 0) 9 1 (iN 2) := ⟨_, rfl⟩
    obtain ⟨LF, hLF⟩ : ∃ LF, LF = vp_updL (vp_updL L 0 vb.toInt64) 1 vw.toInt64 := ⟨_, rfl⟩
    obtain ⟨J1, g1, g2, g3, g4⟩ := m_readRule (I := IF) (E := A3) (L := LF) (pr := pr) (ot := ot) (M := M) (rdv := rdv) (ru := 56) (T := [.inl (.long, (1, .inr (.inl out)))]) (J := u1 J 13 0) (B := B) (c := c) hn e2' hcb
    have g5 : fX12_readRule 45 (encC IF A3 LF pr ot (encR (u1 J 13 0) B M rdv 56 [.inl (.long, (1, .inr (.inl out)))])) = some (1, encC IF A3 LF pr ot (encR J1 B M (.ref 52) 56 [.inl (.long, (1, .inr (.inl out)))])) := by
      by_cases h0 : n = 0
      · exact g3 h0
      · exact (g4 h0).2 (ok.resolve_left h0)
    have j1x : ∀ x, x ≠ 10 → x ≠ 13 → ¬ (15 ≤ x ∧ x ≤ 18) → x ≠ 24 → J1 x = J x := fun x h1 h2 h3 h4 => (g1 x h1 h3 h4).trans (u1_o h2)
    have hM1 : FM A J1 B G P W := hM.frame (fun x _ _ => j1x x (by omega) (by omega) (by omega) (by omega)) (fun _ _ _ => rfl)
    have hJ1 : J1 23 = iN nr := (j1x 23 (by decide) (by decide) (by decide) (by decide)).trans hJ
    obtain ⟨J2, B2, rdv2, u1', u2', u3'⟩ := r_h10 (I := IF) (E := A3) (L := LF) (pr := pr) (ot := ot) (M := M) (rdv := .ref 52) (ru := 56) (T := [.inl (.long, (1, .inr (.inl out)))]) hM1 hu hJ1 rfl (Or.inl rfl) hc hz
    rw [← hvw] at u1'
    have b2x : ∀ x, x ≠ 25 → x ≠ 30 → x ≠ 29 → B2 x = B x := u3'
    have j2x : ∀ x, x ≠ 15 → x ≠ 16 → x ≠ 17 → x ≠ 18 → x ≠ 24 → x ≠ 31 → J2 x = J1 x := u2'
    have hM2 : FM A (u1 J2 23 (iN n)) (u1 B2 22 (fil (B2 22) 0 (fun k => iN (c k)) n)) G P W := (hM1.frk u2' u3' (Or.inr rfl)).frame (fun x _ _ => u1_o (by omega)) (fun x _ _ => u1_o (by omega))
    have hu2 : MUR n (u1 B2 22 (fil (B2 22) 0 (fun k => iN (c k)) n) (rf 57)) (puT n c) := by
      show MUR n (u1 B2 22 (fil (B2 22) 0 (fun k => iN (c k)) n) 22) (puT n c)
      rw [u1_at]
      exact ok.MUR (fun k hk => ⟨by rw [fil_eq, if_pos (by omega), Nat.sub_zero], c128 k hk⟩)
    have hc2 : CP (A 28) (u1 B2 22 (fil (B2 22) 0 (fun k => iN (c k)) n) 0) := by rw [u1_o (by decide), b2x 0 (by decide) (by decide) (by decide)]; exact hc
    obtain ⟨J3, B3, rdv3, v1, v2, v3⟩ := r_h10 (I := IF) (E := A3) (L := LF) (pr := pr) (ot := ot) (M := M) (rdv := rdv2) (ru := 57) (T := [.inl (.long, (1, .inr (.inl out)))]) hM2 hu2 u1_at rfl (Or.inr rfl) hc2 hz
    rw [← hvb] at v1
    have j3x : ∀ x, x ≠ 15 → x ≠ 16 → x ≠ 17 → x ≠ 18 → x ≠ 24 → x ≠ 31 → x ≠ 23 → J3 x = J1 x := fun x x1 x2 x3 x4 x5 x6 x7 => (v2 x x1 x2 x3 x4 x5 x6).trans ((u1_o x7).trans (j2x x x1 x2 x3 x4 x5 x6))
    have w1 := r_tell (I := IF) (E := A3) (L := LF) (pr := pr) (ot := ot) (rdv := rdv3) (M := M) (ru := 56) (T := [.inl (.long, (1, .inr (.inl out)))]) (J := u1 (u1 J3 23 (J2 23)) 12 (iN 0)) (B := B3) (v := vb.toInt64) (n := 0) u1_at (by decide)
    rw [u1_u1] at w1
    have w2 := r_tell (I := IF) (E := A3) (L := LF) (pr := pr) (ot := ot) (rdv := rdv3) (M := vp_updL M 0 vb.toInt64) (ru := 56) (T := [.inl (.long, (1, .inr (.inl out)))]) (J := u1 (u1 J3 23 (J2 23)) 12 (iN (0 + 1))) (B := B3) (v := vw.toInt64) (n := 1) u1_at (by decide)
    rw [u1_u1] at w2
    -- what holds then
    have rls : RLS (u2 I1 1 1 0) A1 pr ot J1 (u1 B 22 (fil (B 22) 0 (fun k => iN (c k)) n)) 56 := by
      obtain ⟨k1, k2, pu, nn, k3, ⟨m1, m, m2, m3, m4⟩, k5, k6⟩ := hrl
      refine ⟨k1, k2, pu, nn, k3, ⟨m1, m, m2, (iU pr 4 (by omega) (by omega)).trans m3, ?_⟩, by rw [u1_o (by decide)]; exact k5, (j1x 23 (by decide) (by decide) (by decide) (by decide)).trans k6⟩
      rw [f3 (pr + 1) (by omega) (by omega)]
      exact m4
    have hrul := hI.rul hot (I' := u2 I1 1 1 0) (A' := A1) (pr' := pr) (ot' := ot) (J' := J1) (B' := u1 B 22 (fil (B 22) 0 (fun k => iN (c k)) n)) iU f3 (fun x h1 h2 h3 h4 h5 => j1x x h1 h2 h3 h5) (fun x h1 h2 h3 => u1_o h2) rls u2_at g2
    refine ⟨vb - vw, IF, A3, LF, pr, ot, u1 (u1 J3 23 (J2 23)) 12 (iN (1 + 1)), B3, vp_updL (vp_updL M 0 vb.toInt64) 1 vw.toInt64, rdv3, 56, G, P, W, ?_, ?_, hrul.q (by rw [hIF]; exact frI.u) ⟨fun x hx => ?_, fun _ => s3⟩ (fun x hx => ?_) (fun x hx => ?_) ?_⟩
    · unfold EH fX11_law
      rw [bR_0_7, bK_11, hb_of c_otherRule, bR_0_0, zrK hot, hb_of f1, bR_0_0, bK_1, hb_of (c_cut0 i1 hn), if_pos rfl, bR_0_7, bK_11, hb_of c_otherRule, bK_0, hb_of q1, bR_0_7, bK_11, hb_of c_presentRule, bK_0, hb_of s1, bR_0_6, bK_9, hb_of c_start, bR_0_6, bK_9, hb_of t1, bR_0_6, bK_9, hb_of t2, hIF, hLF]
    · unfold EH fX12_law
      rw [brW_13, brG_10, e2', brK, hb_of g5, if_neg (by decide), brK, hb_of u1', brR_21, brG_23, brR_22, brV_21, brW_23]
      refine Eq.trans (r_cp22 (c := c) nle (fun k hk => ⟨by rw [b2x 9 (by decide) (by decide) (by decide)]; exact (hcc k hk).2.2.2 (c128 k hk), c128 k hk⟩) _) ?_
      rw [brK, hb_of v1, brV_21, brW_23, brW_12, brK, hb_of (show fX12_tell 45 vb.toInt64 (encC IF A3 LF pr ot (encR (u1 (u1 J3 23 (J2 23)) 12 (0 : Int32)) B3 M rdv3 56 _)) = _ from w1), brK, hb_of w2]
    · exact (s2 x (by omega) (by omega) (by omega) (by omega)).trans (q2 x (by omega) (by omega) (by omega) (by omega))
    · rw [u1_o (by omega)]
      by_cases e23 : x = 23
      · subst e23
        rw [u1_at, j2x 23 (by decide) (by decide) (by decide) (by decide) (by decide) (by decide)]
      · rw [u1_o e23]
        exact j3x x (by omega) (by omega) (by omega) (by omega) (by omega) (by omega) e23
    · refine (v3 x (by omega) (by omega) (by omega)).trans ?_
      by_cases e22 : x = 22
      · subst e22
        rw [u1_at, u1_at, b2x 22 (by decide) (by decide) (by decide)]
      · rw [u1_o e22, u1_o e22]
        exact b2x x (by omega) (by omega) (by omega)
    · rw [hLF]
      exact RWS_2 (by rw [hIF, u2_at]) u1_at
  · have h0 : n ≠ 0 := fun f => ok (Or.inl f)
    cases hs : (slF tkR mayR n 40 c (min n 40) ruS0 0).1 with
    | none => exact absurd (Or.inr hs) ok
    | some q =>
      have hq := (slF_le _ _ _ _ hs).2
      obtain ⟨I1, A1, f1, f2, f3⟩ := c_read1 (L := L) (pr := pr) (ot := ot) (T := encR J B M rdv 56 [.inl (.long, (1, .inr (.inl out)))]) hot hm h0 e1 hn hca hs
      have i1 : I1 1 1 = iN n := (f2 1 1 (by omega)).trans e1
      obtain ⟨J1, g1, g2, g3, g4⟩ := m_readRule (I := u2 I1 1 1 0) (E := A1) (L := L) (pr := pr) (ot := ot) (M := M) (rdv := rdv) (ru := 56) (T := [.inl (.long, (1, .inr (.inl out)))]) (J := u1 J 13 0) (B := B) (c := c) hn e2' hcb
      obtain ⟨g5, g6⟩ := (g4 h0).1 q hs
      have j1x : ∀ x, x ≠ 10 → x ≠ 13 → ¬ (15 ≤ x ∧ x ≤ 18) → x ≠ 24 → J1 x = J x := fun x h1 h2 h3 h4 => (g1 x h1 h3 h4).trans (u1_o h2)
      have rls : RLS (u2 I1 1 1 0) A1 pr ot J1 B 56 := by
        obtain ⟨k1, k2, pu, n, k3, ⟨m1, m, m2, m3, m4⟩, k5, k6⟩ := hrl
        refine ⟨k1, k2, pu, n, k3, ⟨m1, m, m2, ?_, ?_⟩, k5, (j1x 23 (by decide) (by decide) (by decide) (by decide)).trans k6⟩
        · rw [u2_o (by omega), f2 pr 4 (by omega)]; exact m3
        · rw [f3 (pr + 1) (by omega) (by omega)]; exact m4
      have hrul := hI.rul hot (I' := u2 I1 1 1 0) (A' := A1) (pr' := pr) (ot' := ot) (J' := J1) (B' := B) (fun o k h1 h2 => (u2_o h1).trans (f2 o k h2)) f3 (fun x h1 h2 h3 h4 h5 => j1x x h1 h2 h3 h5) (fun x h1 h2 h3 => rfl) rls u2_at g2
      refine ⟨(-10000 : Int32) - wQ (some q), u2 I1 1 1 0, A1, L, pr, ot, J1, B, M, .ref 52, 56, G, P, W, ?_, ?_, hrul.next⟩
      · unfold EH fX11_law
        rw [bR_0_7, bK_11, hb_of c_otherRule, bR_0_0, zrK hot, hb_of f1, bR_0_0, bK_1, hb_of (c_cut0 i1 hn), if_neg (wQ_ne (by omega))]
      · unfold EH fX12_law
        rw [brW_13, brG_10, e2', brK, hb_of g5, if_pos rfl, brG_18, g6]
end LW
