/-! RULE, LAW: the calls -/
theorem nar_b : ∀ m : Fin 128, vp_nar .byte (iN m.val) = iN m.val := by decide +kernel
section SM
variable {σ : Type} {tk : σ → Nat → Option σ} {may : σ → Bool} {n most : Nat} {c : Nat → Nat}
theorem slF_most (h : ¬ n ≤ most) : ∀ (d : Nat) (s : σ) (p : Nat), (slF tk may n most c d s p).1 ≠ none
  | 0, s, p, f => by
    change (if n ≤ most ∧ may s = true then none else some p) = none at f
    rw [if_neg (fun g => h g.1)] at f
    cases f
  | d + 1, s, p, f => by
    change (match tk s (c p) with | none => (some p, s) | some s' => slF tk may n most c d s' (p + 1)).1 = none at f
    cases e : tk s (c p) with
    | none => rw [e] at f; cases f
    | some s' => rw [e] at f; exact slF_most h d s' (p + 1) f
end SM
section RQ
variable {I A E I' A' I1 A1 : Nat → Nat → Int32} {L L' : Nat → Int64} {pr ot pr' ot' s : Nat} {J J' : Nat → Int32} {B B' : Nat → Nat → Int32} {M M' : Nat → Int64} {rdv rdv' : Value} {ru : Nat} {T : PH} {out : Nat → Int64} {G P W n k p q nr : Nat} {c : Nat → Nat} {R X Z : Nat → Int32} {v : Int32} {st : RSt} {pu : (Nat → Int32) → Int32}
/-- the text was read as a rule -/
theorem INV.rul (h : INV s I A L pr ot J B M ru G P W) (hot : ot = 19 ∨ ot = 23) (i : ∀ o k, ¬ (o = 1 ∧ k = 1) → ¬ (o = ot ∧ 4 ≤ k) → I' o k = I o k) (a : ∀ x, x ≠ ot + 1 → x ≠ ot + 2 → A' x = A x) (j : ∀ x, x ≠ 10 → x ≠ 13 → ¬ (15 ≤ x ∧ x ≤ 18) → x ≠ 23 → x ≠ 24 → J' x = J x) (b : ∀ x, x ≠ 21 → x ≠ 22 → x ≠ 25 → B' x = B x) (r : RLS I' A' pr' ot' J' B' ru) (t1 : I' 1 1 = 0) (t2 : J' 10 = 0) : INV s I' A' L pr' ot' J' B' M ru G P W := by
  obtain ⟨h1, h2, hpl, h3, h4, h5, h6, h7, h8, h9, h10, h11, h12⟩ := h
  have a28 : A' 28 = A 28 := a 28 (by omega) (by omega)
  have a8 : A' 8 = A 8 := a 8 (by omega) (by omega)
  refine ⟨?_, (h2.frame (fun x _ _ => j x (by omega) (by omega) (by omega) (by omega) (by omega)) (fun x _ _ => b x (by omega) (by omega) (by omega))).frameA (fun x _ _ => a x (by omega) (by omega)), ?_, by rw [a28]; exact h3, by rw [a28, b 0 (by decide) (by decide) (by decide)]; exact h4, by rw [a 32 (by omega) (by omega)]; exact h5, ⟨0, by omega, t1, t2, fun k hk => absurd hk (Nat.not_lt_zero _)⟩, r, h8.fr (i 7 1 (by omega) (by omega)) (i 7 2 (by omega) (by omega)) a8 (j 27 (by omega) (by omega) (by omega) (by omega) (by omega)) (b 26 (by decide) (by decide) (by decide)), ?_, h10.fr (i 35 13 (by omega) (by omega)) (fun x hx => a x (by omega) (by omega)) (j 37 (by omega) (by omega) (by omega) (by omega) (by omega)) (fun x hx => b x (by omega) (by omega) (by omega)), h11.fr (i 9 1 (by omega) (by omega)) (j 12 (by omega) (by omega) (by omega) (by omega) (by omega)), ?_⟩
  · unfold FS
    rw [i 11 9 (by omega) (by omega), i 11 10 (by omega) (by omega), i 11 11 (by omega) (by omega)]
    exact h1
  · unfold PLS
    rw [a 13 (by omega) (by omega)]
    exact hpl
  · obtain ⟨cc, kp, k1, k2, k3, k4⟩ := h9
    refine ⟨cc, kp, k1, by rw [j 47 (by omega) (by omega) (by omega) (by omega) (by omega)]; exact k2, by rw [i 7 3 (by omega) (by omega)]; exact k3, fun q hq => ?_⟩
    rw [a8, b 48 (by decide) (by decide) (by decide), b 49 (by decide) (by decide) (by decide), b 50 (by decide) (by decide) (by decide)]
    exact k4 q hq
  · unfold FMS
    rw [i 3 0 (by omega) (by omega), i 3 1 (by omega) (by omega), i 3 2 (by omega) (by omega), i 4 0 (by omega) (by omega), i 4 1 (by omega) (by omega), i 4 2 (by omega) (by omega), i 5 0 (by omega) (by omega), i 6 0 (by omega) (by omega), i 19 0 (by omega) (by omega), i 23 0 (by omega) (by omega)]
    exact h12
def frRd (J J' : Nat → Int32) : Prop := ∀ x, x ≠ 10 → ¬ (15 ≤ x ∧ x ≤ 18) → x ≠ 24 → J' x = J x
theorem m_readRule (hn : n ≤ 80) (e2 : J 10 = iN n) (hcc : ∀ k, k < n → c k < 256 ∧ B 9 k &&& 255 = iN (c k) ∧ (c k < 128 → B 9 k = iN (c k))) : ∃ J', frRd J J' ∧ J' 10 = 0 ∧
    (n = 0 → fX12_readRule 45 (encC I E L pr ot (encR J B M rdv ru T)) = some (1, (encC I E L pr ot (encR J' B M (.ref 52) ru T)))) ∧
    (n ≠ 0 → (∀ q, (slF tkR mayR n 40 c (min n 40) ruS0 0).1 = some q → fX12_readRule 45 (encC I E L pr ot (encR J B M rdv ru T)) = some (0, (encC I E L pr ot (encR J' B M (.ref 52) ru T))) ∧ J' 18 = wQ (some q)) ∧ ((slF tkR mayR n 40 c (min n 40) ruS0 0).1 = none → fX12_readRule 45 (encC I E L pr ot (encR J B M rdv ru T)) = some (1, (encC I E L pr ot (encR J' B M (.ref 52) ru T))))) := by
  have b0 : fX12_beginText 45 (40 : Int32) (encC I E L pr ot (encR J B M rdv ru T)) = some ((), (encC I E L pr ot (encR (pj (bj J n 40) (0, none)) B M (.ref 52) ru T))) := r_beginText e2
  obtain ⟨K, hK⟩ : ∃ K, K = u1 (bj J n 40) 24 0 := ⟨_, rfl⟩
  have k15 : K 15 = iN n := by rw [hK, u1_o (by decide)]; exact bj_15
  have kx : ∀ x, x ≠ 10 → ¬ (15 ≤ x ∧ x ≤ 18) → x ≠ 24 → K x = J x := fun x h1 h2 h3 => by
    rw [hK, u1_o h3]
    unfold bj
    rw [u1_o h1, u1_o (by omega), u1_o (by omega)]
  have k10 : K 10 = 0 := by rw [hK, u1_o (by decide)]; unfold bj; rw [u1_at]
  have rd : RD K B (.ref 52) n 40 c := (RD.begin hn (by decide) (fun k hk => ⟨(hcc k hk).1, (hcc k hk).2⟩)).fr (by rw [hK]; exact u1_o (by decide)) (by rw [hK]; exact u1_o (by decide)) (fun _ _ => rfl)
  have fr : ∀ st, frRd J (pj K st) := fun st x h1 h2 h3 => (pj_ne (by omega) (by omega)).trans (kx x h1 h2 h3)
  have f10 : ∀ st, pj K st 10 = 0 := fun st => (pj_ne (by omega) (by omega)).trans k10
  obtain ⟨v, st', f1, f2, f3, f4⟩ := r_rule (I := I) (E := E) (L := L) (pr := pr) (ot := ot) (M := M) (ru := ru) (T := T) (ft := fun _ => 0) rd (Or.inl ⟨by rw [hK, u1_at], fun _ _ => rfl⟩)
  have start : fX12_readRule 45 (encC I E L pr ot (encR J B M rdv ru T)) = if iN n ≤ 0 then (fX12_readRule_J24 45 (encC I E L pr ot (encR (pj K (0, none)) B M (.ref 52) ru T))) else fX12_readRule_J24 45 (encC I E L pr ot (encR (pj K st') B M (.ref 52) ru T)) := by
    unfold fX12_readRule
    rw [brK, hb_of b0, h_z0, brW_24, pj24, ← hK, brG_15, pj_ne (by decide) (by decide), k15]
    by_cases z : iN n ≤ 0
    · rw [if_pos z, if_pos z]
    · rw [if_neg z, if_neg z, brK, hb_of (show rX12_heldBy 50 45 (0 : Int32) _ = _ from f1)]
  have j24 : ∀ st, RB 80 st → fX12_readRule_J24 45 (encC I E L pr ot (encR (pj K st) B M (.ref 52) ru T)) = some ((if (rgtP n st).2 = none then 1 else 0), (encC I E L pr ot (encR (pj K (rgtP n st)) B M (.ref 52) ru T))) := by
    intro st hb
    have wr := r_wasRight (I := I) (E := E) (L := L) (pr := pr) (ot := ot) (B := B) (M := M) (rdv := .ref 52) (ru := ru) (T := T) (J := K) (st := st) k15 hn (show st.1 < 1000 by have := hb.1; omega) hb.2
    unfold fX12_readRule_J24
    rw [brK, hb_of wr]
    split
    · exact h_z1
    · exact h_z0
  by_cases n0 : n = 0
  · refine ⟨pj K (rgtP n (0, none)), fr _, f10 _, fun _ => ?_, fun f => absurd n0 f⟩
    rw [start, if_pos (show iN n ≤ 0 by rw [n0]; decide), j24 _ ⟨by dsimp only; omega, fun q f => by cases f⟩]
    rw [show rgtP n (0, none) = (0, none) by unfold rgtP; rw [if_neg (by dsimp only; omega)]]
    rfl
  · have nz1 : ¬ iN n ≤ 0 := by rw [show (0 : Int32) = iN 0 from rfl, iN_le (by omega) (by omega)]; omega
    refine ⟨pj K (rgtP n st'), fr _, f10 _, fun f => absurd f n0, fun _ => ⟨fun q hq => ?_, fun hs => ?_⟩⟩
    · have e3 : (rgtP n st').2 = some q := f3.symm.trans hq
      refine ⟨?_, by rw [pj_18, e3]⟩
      rw [start, if_neg nz1, j24 _ f2, e3, if_neg (show ¬ (some q : Option Nat) = none from fun d => by cases d)]
    · have e3 : (rgtP n st').2 = none := f3.symm.trans hs
      rw [start, if_neg nz1, j24 _ f2, e3, if_pos rfl]
theorem tkR_128 {s s' : RuS} {ch : Nat} (hc : ch < 256) (h : tkR s ch = some s') : ch < 128 := by
  obtain ⟨o, w, p, d, cm, tn⟩ := s
  cases tn with
  | true =>
    by_cases h1 : ch = 45
    · omega
    · by_cases h2 : ch = 40
      · omega
      · by_cases h3 : 48 ≤ ch ∧ ch < 58
        · omega
        · rw [tkR_let h3 h1 h2] at h
          cases e : ltN ch with
          | none => rw [e] at h; cases h
          | some l => exact (ltN_lt e).2.1
  | false =>
    rw [tkR_f] at h
    by_cases h1 : 0 < d ∧ 48 ≤ ch ∧ ch < 58
    · omega
    · rw [if_neg h1] at h
      by_cases h2 : ch = 41
      · omega
      · rw [if_neg h2] at h
        by_cases h3 : rkN ch = 0
        · rw [if_pos h3] at h; cases h
        · have rk := rk_lt hc
          by_cases r1 : rkN ch = 1
          · have := rk_1 r1 hc
            omega
          · have := rk_23 (show rkN ch = 2 ∨ rkN ch = 3 by omega) hc
            omega
/-- the text comes into the array of a rule -/
theorem r_cp21 (hn : n ≤ 40) (hB : ∀ k, k < n → B 9 k = iN (c k) ∧ c k < 128) (kx : PH → Option (Int32 × PH)) : fX12_rule_L26 45 (iN n) kx FU (0 : Int32) (encC I E L pr ot (encR J B M rdv 56 T)) = kx (encC I E L pr ot (encR J (u1 B 21 (fil (B 21) 0 (fun k => iN (c k)) n)) M rdv 56 T)) := by
  have key := lp_det (fun m k (Y : Nat → Int32) => fX12_rule_L26 45 (iN n) kx m (iN k) (encC I E L pr ot (encR J (u1 B 21 Y) M rdv 56 T))) (fun Y => kx (encC I E L pr ot (encR J (u1 B 21 Y) M rdv 56 T))) (fil (B 21) 0 (fun k => iN (c k))) n
    (fun k hk m => by
      have e9 : u1 B 21 (fil (B 21) 0 (fun k => iN (c k)) k) 9 k = iN (c k) := by rw [u1_o (by decide)]; exact (hB k hk).1
      rw [fX12_rule_L26, if_neg (show ¬ iN n ≤ iN k by rw [iN_le (by omega) (by omega)]; omega), brR_21, brR_9, brA_9 (in_arr (show k < 80 by omega) (by decide) rfl), iN_nat (by omega), e9, nar_b ⟨c k, (hB k hk).2⟩, brS_21 (in_arr (show k < 40 by omega) (by decide) rfl), iN_nat (by omega), letE_eq, show iN k + (1 : Int32) = iN (k + 1) from iN_add, u1_u1, u1_at]
      show _ = fX12_rule_L26 45 (iN n) kx m (iN (k + 1)) (encC I E L pr ot (encR J (u1 B 21 (upd (fil (B 21) 0 (fun k => iN (c k)) k) (0 + k) (iN (c k)))) M rdv 56 T))
      rw [Nat.zero_add])
    (fun m => by rw [fX12_rule_L26, if_pos (show iN n ≤ iN n by rw [iN_le (by omega) (by omega)]; omega)]) FU (by unfold FU; omega)
  refine Eq.trans ?_ key
  show _ = fX12_rule_L26 45 (iN n) kx FU (iN 0) (encC I E L pr ot (encR J (u1 B 21 (B 21)) M rdv 56 T))
  rw [u1_same (F := B) rfl]
  rfl
theorem r_cp22 {x5 i4 : Int32} {o3 : Nat} (hn : n ≤ 40) (hB : ∀ k, k < n → B 9 k = iN (c k) ∧ c k < 128) (kx : PH → Option (Int32 × PH)) : fX12_law_L58 45 (iN n) x5 o3 i4 kx FU (0 : Int32) (encC I E L pr ot (encR J B M rdv 57 T)) = kx (encC I E L pr ot (encR J (u1 B 22 (fil (B 22) 0 (fun k => iN (c k)) n)) M rdv 57 T)) := by
  have key := lp_det (fun m k (Y : Nat → Int32) => fX12_law_L58 45 (iN n) x5 o3 i4 kx m (iN k) (encC I E L pr ot (encR J (u1 B 22 Y) M rdv 57 T))) (fun Y => kx (encC I E L pr ot (encR J (u1 B 22 Y) M rdv 57 T))) (fil (B 22) 0 (fun k => iN (c k))) n
    (fun k hk m => by
      have e9 : u1 B 22 (fil (B 22) 0 (fun k => iN (c k)) k) 9 k = iN (c k) := by rw [u1_o (by decide)]; exact (hB k hk).1
      rw [fX12_law_L58, if_neg (show ¬ iN n ≤ iN k by rw [iN_le (by omega) (by omega)]; omega), brR_21, brR_9, brA_9 (in_arr (show k < 80 by omega) (by decide) rfl), iN_nat (by omega), e9, nar_b ⟨c k, (hB k hk).2⟩, brS_22 (in_arr (show k < 40 by omega) (by decide) rfl), iN_nat (by omega), letE_eq, show iN k + (1 : Int32) = iN (k + 1) from iN_add, u1_u1, u1_at]
      show _ = fX12_law_L58 45 (iN n) x5 o3 i4 kx m (iN (k + 1)) (encC I E L pr ot (encR J (u1 B 22 (upd (fil (B 22) 0 (fun k => iN (c k)) k) (0 + k) (iN (c k)))) M rdv 57 T))
      rw [Nat.zero_add])
    (fun m => by rw [fX12_law_L58, if_pos (show iN n ≤ iN n by rw [iN_le (by omega) (by omega)]; omega)]) FU (by unfold FU; omega)
  refine Eq.trans ?_ key
  show _ = fX12_law_L58 45 (iN n) x5 o3 i4 kx FU (iN 0) (encC I E L pr ot (encR J (u1 B 22 (B 22)) M rdv 57 T))
  rw [u1_same (F := B) rfl]
  rfl
/-- the rule that a text tells -/
def puT (n : Nat) (c : Nat → Nat) : (Nat → Int32) → Int32 := if n = 0 then pu0 else puR (outR n c)
def okTx (n : Nat) (c : Nat → Nat) : Prop := n = 0 ∨ (slF tkR mayR n 40 c (min n 40) ruS0 0).1 = none
theorem slN_le (h0 : n ≠ 0) (hs : (slF tkR mayR n 40 c (min n 40) ruS0 0).1 = none) : n ≤ 40 :=
  Decidable.byContradiction (fun h => slF_most h _ _ _ hs)
theorem okTx.le (h : okTx n c) : n ≤ 40 := by
  rcases h with e | e
  · omega
  · by_cases h0 : n = 0
    · omega
    · exact slN_le h0 e
theorem okTx.chr (h : okTx n c) (hc : ∀ k, k < n → c k < 256) : ∀ k, k < n → c k < 128 := by
  intro k hk
  have hl := h.le
  rcases h with e | e
  · omega
  · obtain ⟨x, y, hxy⟩ := slF_all (min n 40) ruS0 0 e k (Nat.zero_le _) (by omega)
    exact tkR_128 (hc k hk) hxy
theorem okTx.MUR (h : okTx n c) (hR : ∀ k, k < n → R k = iN (c k) ∧ c k < 128) : MUR n R (puT n c) := by
  unfold puT
  by_cases h0 : n = 0
  · subst h0
    rw [if_pos rfl]
    exact MUR0
  · rw [if_neg h0]
    exact MURr h0 h.le hR (h.resolve_left h0)
theorem c_readOk (hro : ot = 19 ∨ ot = 23) (hm : I ot 0 = 40) (h1 : I 1 1 = iN n) (hn : n ≤ 80) (hcc : ∀ k, k < n → c k < 256 ∧ A 2 k = iN (c k)) (hX : ∀ k, k < n → c k < 256 ∧ X k &&& 255 = iN (c k) ∧ (c k < 128 → X k = iN (c k))) (h : okTx n c) : ∃ I' A', fX6_read ot 1 (encC I A L pr ot T) = some (-1, (encC I' A' L pr ot T)) ∧ frR ot I I' ∧ frA ot A A' ∧ RU I' A' ot (puT n c) := by
  unfold puT
  by_cases h0 : n = 0
  · subst h0
    rw [if_pos rfl]
    exact ⟨u2 I ot 4 0, A, c_read0 hro h1, frR.u (by decide), frA.refl, RU0 u2_at⟩
  · rw [if_neg h0]
    have hs := h.resolve_left h0
    obtain ⟨I', A', q1, q2, q3, q4, q5, q6⟩ := c_read2 (L := L) (pr := pr) (ot := ot) (T := T) hro hm h0 h1 hn hcc hs
    exact ⟨I', A', q1, q2, q3, RUr q4 q5 q6 (fun ft => evl_all hn hX hs ft)⟩
theorem p_rule (h : INV s I A L pr ot J B M ru G P W) : pairG s I A L pr ot J B M rdv ru out (fX11_rule 0) (fX12_rule 45) := by
  have hI := h
  obtain ⟨hpr, hru, pu, nr, hnr, hr, hu, hJ⟩ := h.rule
  obtain ⟨hF, hM, hpl, hz, hc, hn2, htx, hrl, hpas, hkps, hnts, hrws, hfm⟩ := h
  obtain ⟨n, c, hn, e1, e2, hcc⟩ := htx.ch
  have hot : ot = 19 ∨ ot = 23 := by have := hrl.1; omega
  have hm : I ot 0 = 40 := by
    obtain ⟨-, -, -, -, -, -, -, -, x1, x2⟩ := hfm
    rcases hot with e | e <;> rw [e] <;> assumption
  have hca : ∀ k, k < n → c k < 256 ∧ A 2 k = iN (c k) := fun k hk => ⟨(hcc k hk).1, (hcc k hk).2.1⟩
  have hcb : ∀ k, k < n → c k < 256 ∧ B 9 k &&& 255 = iN (c k) ∧ (c k < 128 → B 9 k = iN (c k)) := fun k hk => ⟨(hcc k hk).1, (hcc k hk).2.2⟩
  have e2' : (u1 J 13 0) 10 = iN n := (u1_o (by decide)).trans e2
  subst hru
  by_cases ok : okTx n c
  · have nle := ok.le
    have c128 := ok.chr (fun k hk => (hcc k hk).1)
    obtain ⟨I1, A1, f1, f2, f3, f4⟩ := c_readOk (L := L) (pr := pr) (T := encR J B M rdv 56 [.inl (.long, (1, .inr (.inl out)))]) (X := B 9) hot hm e1 hn hca hcb ok
    have i1 : I1 1 1 = iN n := (f2 1 1 (by omega)).trans e1
    obtain ⟨J1, g1, g2, g3, g4⟩ := m_readRule (I := u2 I1 1 1 0) (E := A1) (L := L) (pr := ot) (ot := pr) (M := M) (rdv := rdv) (ru := 56) (T := [.inl (.long, (1, .inr (.inl out)))]) (J := u1 J 13 0) (B := B) (c := c) hn e2' hcb
    have g5 : fX12_readRule 45 (encC (u2 I1 1 1 0) A1 L ot pr (encR (u1 J 13 0) B M rdv 56 [.inl (.long, (1, .inr (.inl out)))])) = some (1, encC (u2 I1 1 1 0) A1 L ot pr (encR J1 B M (.ref 52) 56 [.inl (.long, (1, .inr (.inl out)))])) := by
      by_cases h0 : n = 0
      · exact g3 h0
      · exact (g4 h0).2 (ok.resolve_left h0)
    have j1x : ∀ x, x ≠ 10 → x ≠ 13 → ¬ (15 ≤ x ∧ x ≤ 18) → x ≠ 24 → J1 x = J x := fun x h1 h2 h3 h4 => (g1 x h1 h3 h4).trans (u1_o h2)
    have rls : RLS (u2 I1 1 1 0) A1 ot pr (u1 J1 23 (iN n)) (u1 B 21 (fil (B 21) 0 (fun k => iN (c k)) n)) 56 := by
      refine ⟨by have := hrl.1; omega, rfl, puT n c, n, nle, ?_, ?_, u1_at⟩
      · obtain ⟨m1, m, m2, m3, m4⟩ := f4
        exact ⟨m1, m, m2, (u2_o (by omega)).trans m3, m4⟩
      · rw [u1_at]
        refine ok.MUR (fun k hk => ⟨?_, c128 k hk⟩)
        rw [fil_eq, if_pos (by omega), Nat.sub_zero]
    have hrul := hI.rul hot (I' := u2 I1 1 1 0) (A' := A1) (pr' := ot) (ot' := pr) (J' := u1 J1 23 (iN n)) (B' := u1 B 21 (fil (B 21) 0 (fun k => iN (c k)) n)) (fun o k h1 h2 => (u2_o h1).trans (f2 o k h2)) f3 (fun x h1 h2 h3 h4 h5 => (u1_o h4).trans (j1x x h1 h2 h3 h5)) (fun x h1 h2 h3 => u1_o h1) rls u2_at ((u1_o (by decide)).trans g2)
    refine ⟨0, u2 I1 1 1 0, A1, L, ot, pr, u1 J1 23 (iN n), u1 B 21 (fil (B 21) 0 (fun k => iN (c k)) n), M, .ref 52, 56, G, P, W, ?_, ?_, hrul.next⟩
    · unfold EH fX11_rule
      rw [bR_0_7, bK_11, hb_of c_otherRule, bR_0_0, zrK hot, hb_of f1, bR_0_0, bK_1, hb_of (c_cut0 i1 hn), if_pos rfl, bR_0_7, bK_11, hb_of c_takeOtherRule]
    · unfold EH fX12_rule
      rw [brW_13, brG_10, e2', brK, hb_of g5, if_neg (by decide)]
      refine Eq.trans (r_cp21 (c := c) nle (fun k hk => ⟨(hcc k hk).2.2.2 (c128 k hk), c128 k hk⟩) _) ?_
      rw [brW_23]
  · have h0 : n ≠ 0 := fun f => ok (Or.inl f)
    cases hs : (slF tkR mayR n 40 c (min n 40) ruS0 0).1 with
    | none => exact absurd (Or.inr hs) ok
    | some q =>
      have hq := (slF_le _ _ _ _ hs).2
      obtain ⟨I1, A1, f1, f2, f3⟩ := c_read1 (L := L) (pr := pr) (ot := ot) (T := encR J B M rdv 56 [.inl (.long, (1, .inr (.inl out)))]) hot hm h0 e1 hn hca hs
      have i1 : I1 1 1 = iN n := (f2 1 1 (by omega)).trans e1
      obtain ⟨J1, g1, g2, g3, g4⟩ := m_readRule (I := u2 I1 1 1 0) (E := A1) (L := L) (pr := pr) (ot := ot) (M := M) (rdv := rdv) (ru := 56) (T := [.inl (.long, (1, .inr (.inl out)))]) (J := u1 J 13 0) (B := B) (c := c) hn e2' hcb
      obtain ⟨g5, g6⟩ := (g4 h0).1 q hs
      have j1x : ∀ x, x ≠ 10 → x ≠ 13 → ¬ (15 ≤ x ∧ x ≤ 18) → x ≠ 24 → J1 x = J x := fun x h1 h2 h3 h4 => (g1 x h1 h3 h4).trans (u1_o h2)
      have rls : RLS (u2 I1 1 1 0) A1 pr ot J1 B 56 := by
        obtain ⟨k1, k2, pu, n, k3, ⟨m1, m, m2, m3, m4⟩, k5, k6⟩ := hrl
        refine ⟨k1, k2, pu, n, k3, ⟨m1, m, m2, ?_, ?_⟩, k5, (j1x 23 (by decide) (by decide) (by decide) (by decide)).trans k6⟩
        · rw [u2_o (by omega), f2 pr 4 (by omega)]; exact m3
        · rw [f3 (pr + 1) (by omega) (by omega)]; exact m4
      have hrul := hI.rul hot (I' := u2 I1 1 1 0) (A' := A1) (pr' := pr) (ot' := ot) (J' := J1) (B' := B) (fun o k h1 h2 => (u2_o h1).trans (f2 o k h2)) f3 (fun x h1 h2 h3 h4 h5 => j1x x h1 h2 h3 h5) (fun x h1 h2 h3 => rfl) rls u2_at g2
      refine ⟨(-1 : Int32) - wQ (some q), u2 I1 1 1 0, A1, L, pr, ot, J1, B, M, .ref 52, 56, G, P, W, ?_, ?_, hrul.next⟩
      · unfold EH fX11_rule
        rw [bR_0_7, bK_11, hb_of c_otherRule, bR_0_0, zrK hot, hb_of f1, bR_0_0, bK_1, hb_of (c_cut0 i1 hn), if_neg (wQ_ne (by omega))]
      · unfold EH fX12_rule
        rw [brW_13, brG_10, e2', brK, hb_of g5, if_pos rfl, brG_18, g6]
end RQ
