/-! YEAR: the loops over the acts, the class's call -/
def yZ (A : Nat → Nat → Int32) (pu : (Nat → Int32) → Int32) (G P : Nat) (c : Nat → Nat) (Z : Nat → Int32) : Nat → Nat → Int32
  | 0 => Z
  | j + 1 => (aStp A pu G P c (psY c j) (yZ A pu G P c Z j)).2
/-- of k acts D are done -/
def yDn (A : Nat → Nat → Int32) (pu : (Nat → Int32) → Int32) (G P : Nat) (c : Nat → Nat) (Z : Nat → Int32) (k D : Nat) : Prop :=
  D ≤ k ∧ (∀ j, j < D → (aStp A pu G P c (psY c j) (yZ A pu G P c Z j)).1 = true) ∧ (D < k → (aStp A pu G P c (psY c D) (yZ A pu G P c Z D)).1 = false)
section YL
variable {I A E I' A' : Nat → Nat → Int32} {L L' : Nat → Int64} {pr ot s : Nat} {J J' : Nat → Int32} {B B' : Nat → Nat → Int32} {M M' : Nat → Int64} {rdv rdv' : Value} {ru : Nat} {T : PH} {G P W n top fi w room most o k N i t l q ch a nr D nx sz : Nat} {c : Nat → Nat} {st : RSt} {X Y Z R : Nat → Int32} {pu : (Nat → Int32) → Int32}
theorem yDn_ex : ∀ k, ∃ D, yDn A pu G P c Z k D
  | 0 => ⟨0, Nat.le_refl _, fun j hj => absurd hj (Nat.not_lt_zero _), fun h => absurd h (Nat.lt_irrefl _)⟩
  | k + 1 => by
    obtain ⟨D, h1, h2, h3⟩ := yDn_ex k
    by_cases e : D < k
    · exact ⟨D, by omega, h2, fun _ => h3 e⟩
    · have eDk : D = k := by omega
      subst eDk
      cases f : (aStp A pu G P c (psY c D) (yZ A pu G P c Z D)).1 with
      | true =>
        refine ⟨D + 1, Nat.le_refl _, fun j hj => ?_, fun h => absurd h (Nat.lt_irrefl _)⟩
        by_cases ej : j = D
        · subst ej; exact f
        · exact h2 j (by omega)
      | false => exact ⟨D, by omega, h2, fun _ => f⟩
theorem aStp_no (h : (aStp A pu G P c a Z).1 = false) : (aStp A pu G P c a Z).2 = Z := by
  unfold aStp at h ⊢
  split at h
  · rename_i d; rw [if_pos d]
    split at h
    · cases h
    · rename_i e; rw [if_neg e]
  · rename_i d; rw [if_neg d]
    split at h
    · rename_i d; rw [if_pos d]
      split at h
      · cases h
      · rename_i e; rw [if_neg e]
    · rename_i d; rw [if_neg d]
      split at h
      · rename_i d; rw [if_pos d]
        split at h
        · cases h
        · rename_i e; rw [if_neg e]
      · cases h
theorem yZ_ok (hz : OK G P Z) (h8 : G ≤ 8) (h6 : P ≤ 6) (hk : ∀ j, j < k → ALc c (psY c j)) : ∀ j, j ≤ k → OK G P (yZ A pu G P c Z j)
  | 0, _ => hz
  | j + 1, h => aStp_ok (yZ_ok hz h8 h6 hk j (by omega)) h8 h6 (hk j (by omega))
theorem psY_mono {j : Nat} : ∀ k, j ≤ k → psY c j ≤ psY c k
  | 0, h => by cases (show j = 0 by omega); exact Nat.le_refl _
  | k + 1, h => by
    by_cases e : j = k + 1
    · subst e; exact Nat.le_refl _
    · have := psY_mono (j := j) k (by omega)
      show _ ≤ psY c k + _
      omega
theorem FS_TS (hT : TS A W) (h : frL 27 pr A A') (hro : pr = 19 ∨ pr = 23) : TS A' W := hT.congr (fun x x1 x2 => h x (by omega) (by omega) (by omega) (by omega))
theorem yr_cl (hF : FS I G P W) (hT : TS A W) (hro : pr = 19 ∨ pr = 23) (hr : RU I A pr pu) (hz : OK G P Z) (h1 : I 1 1 = iN n) (hn : n ≤ 80) (hc : ∀ k, k < n → c k < 256 ∧ A 2 k = iN (c k)) (hk : ∀ j, j < k → ALc c (psY c j)) (hnk : psY c k = n) (hD : yDn A pu G P c Z k D) (kx : Int32 → Int32 → PH → Option (Int32 × PH)) :
    ∀ d j A', j + d = D → frL 27 pr A A' → A' 28 = yZ A pu G P c Z j → ∃ A'', frL 27 pr A A'' ∧ A'' 28 = yZ A pu G P c Z D ∧ ∀ m, d + 2 < m → fX11_readYear_L54 0 kx m (iN j) (iN (psY c j)) (1 : Int32) (encC I A' L pr ot T) = kx (iN D) (if D = k then 1 else 0) (encC I (A'') L pr ot T) := by
  have h8 := hF.2.2.2.1
  have h6 := hF.2.2.2.2.1
  obtain ⟨D1, D2, D3⟩ := hD
  have one : ∀ j A', j < k → j ≤ D → frL 27 pr A A' → A' 28 = yZ A pu G P c Z j → ∃ A'', frL 27 pr A A'' ∧ A'' 28 = yZ A pu G P c Z (j + 1) ∧ ∀ m, fX11_readYear_L54 0 kx (m + 1) (iN j) (iN (psY c j)) (1 : Int32) (encC I A' L pr ot T) = fX11_readYear_L54 0 kx m (iN (j + (if (aStp A pu G P c (psY c j) (yZ A pu G P c Z j)).1 then 1 else 0))) (iN (psY c (j + 1))) (if (aStp A pu G P c (psY c j) (yZ A pu G P c Z j)).1 then 1 else 0) (encC I (A'') L pr ot T) := by
    intro j A' hj hjD f1 f2
    have hps := psY_mono (c := c) (j := j + 1) k hj
    have hs1 : psY c (j + 1) = psY c j + (if c (psY c j) = 100 then 2 else 3) := rfl
    have e2 : A' 2 = A 2 := f1 2 (by omega) (by omega) (by omega) (by omega)
    have cong := aStp_cong (A := A) (A' := A') (pu := pu) (G := G) (P := P) (c := c) (a := psY c j) (Z := A' 28) (f1 12 (by omega) (by omega) (by omega) (by omega)) (f1 13 (by omega) (by omega) (by omega) (by omega)) (f1 14 (by omega) (by omega) (by omega) (by omega)) h8 h6
    obtain ⟨v, A'', g1, g2, g3, g4⟩ := c_actY (L := L) (ot := ot) (T := T) (A := A') (a := psY c j) hF (FS_TS hT f1 hro) hro (hr.congr (f1 _ (by omega) (by omega) (by omega) (by omega))) (by rw [f2]; exact yZ_ok hz h8 h6 hk j (by omega)) h1 hn (fun q hq => by rw [e2]; exact hc q hq) (hk j hj) (by omega)
    rw [cong, f2] at g3 g4
    refine ⟨A'', f1.trans g2, g3, fun m => ?_⟩
    have kd := (hk j hj).1
    have hat : fX7_at 1 (iN (psY c j)) (encC I (A'') L pr ot T) = some (iN (c (psY c j)), (encC I (A'') L pr ot T)) := by
      rw [c_at h1 hn (fun q hq => by rw [g2 2 (by omega) (by omega) (by omega) (by omega), e2]; exact (hc q hq).2) (by omega)]
      unfold hrV
      rw [if_pos ⟨by split at hs1 <;> omega, by omega⟩]
    have adv : ∀ (q t : Nat) (x4 : Int32) rc, fX11_readYear_J96_54 rc kx 0 (iN (psY c j)) x4 (iN q) (iN t) (encC I (A'') L pr ot T) = rc (iN (t + q)) (iN (psY c (j + 1))) x4 (encC I (A'') L pr ot T) := by
      intro q t x4 rc
      unfold fX11_readYear_J96_54 fX11_readYear_J117_54
      rw [letE_eq, bR_0_0, bK_1, hb_of hat, iN_add]
      by_cases d : c (psY c j) = 100
      · rw [if_pos (show iN (c (psY c j)) = 100 by rw [d]; rfl), letE_eq, hs1, if_pos d, show iN (psY c j) + (2 : Int32) = iN (psY c j + 2) from iN_add]
      · rw [if_neg (show ¬ iN (c (psY c j)) = 100 by rw [show (100 : Int32) = iN 100 from rfl, iN_eq (by unfold kdY at kd; omega) (by omega)]; exact d), letE_eq, hs1, if_neg d, show iN (psY c j) + (3 : Int32) = iN (psY c j + 3) from iN_add]
    have base : fX11_readYear_L54 0 kx (m + 1) (iN j) (iN (psY c j)) (1 : Int32) (encC I A' L pr ot T) = if v < 0 then fX11_readYear_J83_54 (fX11_readYear_L54 0 kx m) kx 0 (iN j) (iN (psY c j)) (0 : Int32) (encC I (A'') L pr ot T) else fX11_readYear_J83_54 (fX11_readYear_L54 0 kx m) kx 0 (iN j) (iN (psY c j)) (1 : Int32) (encC I (A'') L pr ot T) := by
      rw [fX11_readYear_L54, if_neg (by decide), bR_0_0, bK_1, hb_of c_sizeT, h1, if_neg (show ¬ iN n ≤ iN (psY c j) by rw [iN_le (by omega) (by omega)]; split at hs1 <;> omega), bK_0, hb_of g1]
    rw [base]
    cases f : (aStp A pu G P c (psY c j) (yZ A pu G P c Z j)).1 with
    | true =>
      have hv : ¬ v < 0 := fun d => by rw [f, if_pos d] at g4; exact absurd g4 (by decide)
      rw [if_neg hv]
      unfold fX11_readYear_J83_54
      rw [if_neg (by decide)]
      exact adv 1 j 1 _
    | false =>
      have hv : v < 0 := Decidable.byContradiction (fun d => by rw [f, if_neg d] at g4; exact absurd g4 (by decide))
      rw [if_pos hv]
      unfold fX11_readYear_J83_54
      rw [if_pos rfl]
      exact adv 0 j 0 _
  intro d
  induction d with
  | zero =>
    intro j A' hj f1 f2
    have ejD : j = D := by omega
    subst ejD
    by_cases e : j = k
    · refine ⟨A', f1, f2, fun m hm => ?_⟩
      obtain ⟨m, rfl⟩ : ∃ m', m = m' + 1 := ⟨m - 1, by omega⟩
      rw [fX11_readYear_L54, if_neg (by decide), bR_0_0, bK_1, hb_of c_sizeT, h1, if_pos (show iN n ≤ iN (psY c j) by rw [e, hnk, iN_le (by omega) (by omega)]; omega), if_pos e]
    · obtain ⟨A'', g1, g2, g3⟩ := one j A' (by omega) (Nat.le_refl j) f1 f2
      have no := D3 (by omega)
      refine ⟨A'', g1, by rw [g2]; exact aStp_no no, fun m hm => ?_⟩
      obtain ⟨m, rfl⟩ : ∃ m', m = m' + 2 := ⟨m - 2, by omega⟩
      rw [g3 (m + 1), no, fX11_readYear_L54, if_pos (show (if false = true then (1 : Int32) else 0) = 0 from rfl), if_neg e]
      rfl
  | succ d ih =>
    intro j A' hj f1 f2
    obtain ⟨A'', g1, g2, g3⟩ := one j A' (by omega) (by omega) f1 f2
    obtain ⟨A3, q1, q2, q3⟩ := ih (j + 1) A'' (by omega) g1 g2
    refine ⟨A3, q1, q2, fun m hm => ?_⟩
    obtain ⟨m, rfl⟩ : ∃ m', m = m' + 1 := ⟨m - 1, by omega⟩
    rw [g3 m, D2 j (by omega)]
    exact q3 m (by omega)
theorem yr_ml (hM : FM A J B G P W) (hu : MUR nr R pu) (hJ : J 23 = iN nr) (hR : B (rf ru) = R) (hru : ru = 56) (hz : OK G P Z) (hk : ∀ j, j < k → ALc c (psY c j)) (hX : ∀ j, j < k → ALv c (psY c j) (3 * j) (B 32)) (hk80 : k ≤ 40) (hD : yDn A pu G P c Z k D) (kx : Int32 → PH → Option (Int32 × PH)) :
    ∀ d j J' B' rdv', j + d = D → frK J J' → frB 0 B B' → CP (yZ A pu G P c Z j) (B' 0) → ∃ J2 B2 rdv2, frK J J2 ∧ frB 0 B B2 ∧ CP (yZ A pu G P c Z D) (B2 0) ∧ ∀ m, d + 2 < m → fX12_year_L72 45 (iN k) kx m (iN j) (encC I E L pr ot (encR J' B' M rdv' ru T)) = kx (iN D) (encC I E L pr ot (encR J2 B2 M rdv2 ru T)) := by
  have h8 := hM.2.2.2.1
  have h6 := hM.2.2.2.2.1
  obtain ⟨D1, D2, D3⟩ := hD
  have one : ∀ j J' B' rdv', j < k → frK J J' → frB 0 B B' → CP (yZ A pu G P c Z j) (B' 0) → ∃ J2 B2 rdv2, frK J J2 ∧ frB 0 B B2 ∧ CP (yZ A pu G P c Z (j + 1)) (B2 0) ∧ ∀ m, fX12_year_L72 45 (iN k) kx (m + 1) (iN j) (encC I E L pr ot (encR J' B' M rdv' ru T)) = if (aStp A pu G P c (psY c j) (yZ A pu G P c Z j)).1 then fX12_year_L72 45 (iN k) kx m (iN (j + 1)) (encC I E L pr ot (encR J2 B2 M rdv2 ru T)) else kx (iN j) (encC I E L pr ot (encR J2 B2 M rdv2 ru T)) := by
    intro j J' B' rdv' hj f1 f2 f3
    obtain ⟨x1, x2, x3⟩ := hX j hj
    have b32 : B' 32 = B 32 := f2 32 (by decide) (by decide) (by decide)
    have hJ' : J' 23 = iN nr := (f1 23 (by decide) (by decide) (by decide) (by decide) (by decide) (by decide)).trans hJ
    have hR' : B' (rf ru) = R := by rw [← hR]; subst hru; exact f2 21 (by decide) (by decide) (by decide)
    obtain ⟨J2, B2, rdv2, g1, g2, g3, g4⟩ := r_actY (I := I) (E := E) (L := L) (pr := pr) (ot := ot) (M := M) (ru := ru) (T := T) (rdv := rdv') (J := J') (B := B') (a := psY c j) (v := B 32 (3 * j + 2)) (hM.frk f1 f2 (Or.inl rfl)) hu hJ' hR' (Or.inl hru) f3 (yZ_ok hz h8 h6 hk j (by omega)) (hk j hj) x3
    refine ⟨J2, B2, rdv2, f1.trans g2, f2.trans g3, g4, fun m => ?_⟩
    rw [fX12_year_L72, if_neg (show ¬ iN k ≤ iN j by rw [iN_le (by omega) (by omega)]; omega), brR_32, show (3 : Int32) * iN j = iN (3 * j) from iN_mul, brA_32 (in_arr (show 3 * j < 240 by omega) (by decide) rfl), iN_nat (by omega), b32, x1, brR_32, show iN (3 * j) + (1 : Int32) = iN (3 * j + 1) from iN_add, brA_32 (in_arr (show 3 * j + 1 < 240 by omega) (by decide) rfl), iN_nat (by omega), b32, x2, brR_32, show iN (3 * j) + (2 : Int32) = iN (3 * j + 2) from iN_add, brA_32 (in_arr (show 3 * j + 2 < 240 by omega) (by decide) rfl), iN_nat (by omega), b32, brK, hb_of g1]
    cases f : (aStp A pu G P c (psY c j) (yZ A pu G P c Z j)).1 with
    | true => rw [if_neg (by decide), letE_eq, show iN j + (1 : Int32) = iN (j + 1) from iN_add]; rfl
    | false => rw [if_pos (by decide)]; rfl
  intro d
  induction d with
  | zero =>
    intro j J' B' rdv' hj f1 f2 f3
    have ejD : j = D := by omega
    subst ejD
    by_cases e : j = k
    · refine ⟨J', B', rdv', f1, f2, f3, fun m hm => ?_⟩
      obtain ⟨m, rfl⟩ : ∃ m', m = m' + 1 := ⟨m - 1, by omega⟩
      rw [fX12_year_L72, if_pos (show iN k ≤ iN j by rw [iN_le (by omega) (by omega)]; omega)]
    · have no := D3 (by omega)
      obtain ⟨J2, B2, rdv2, g1, g2, g3, g4⟩ := one j J' B' rdv' (by omega) f1 f2 f3
      refine ⟨J2, B2, rdv2, g1, g2, by rw [← aStp_no no]; exact g3, fun m hm => ?_⟩
      obtain ⟨m, rfl⟩ : ∃ m', m = m' + 1 := ⟨m - 1, by omega⟩
      rw [g4 m, no, if_neg (by decide)]
  | succ d ih =>
    intro j J' B' rdv' hj f1 f2 f3
    obtain ⟨J2, B2, rdv2, g1, g2, g3, g4⟩ := one j J' B' rdv' (by omega) f1 f2 f3
    obtain ⟨J3, B3, rdv3, q1, q2, q3, q4⟩ := ih (j + 1) J2 B2 rdv2 (by omega) g1 g2 g3
    refine ⟨J3, B3, rdv3, q1, q2, q3, fun m hm => ?_⟩
    obtain ⟨m, rfl⟩ : ∃ m', m = m' + 1 := ⟨m - 1, by omega⟩
    rw [g4 m, D2 j (by omega), if_pos rfl]
    exact q4 m (by omega)
end YL
