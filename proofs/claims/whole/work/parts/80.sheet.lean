/-! CALLS: sheet (2) -/
section SH
variable {I A E I' A' : Nat → Nat → Int32} {L L' : Nat → Int64} {pr ot s : Nat} {J J' : Nat → Int32} {B B' : Nat → Nat → Int32} {M M' : Nat → Int64} {rdv rdv' : Value} {ru : Nat} {T : PH} {G P W p q g n k : Nat} {Z Z' : Nat → Int32} {md c x d v : Int32} {h : PH}
theorem c_narrow (h3 : ¬ md = 3) : fX11_narrowed md v h = some (shV md v, h) := by
  unfold fX11_narrowed shV
  by_cases h0 : md = 0
  · rw [if_pos h0, if_pos h0]
  · rw [if_neg h0, if_neg h0]
    by_cases h1 : md = 1
    · rw [if_pos h1, if_pos h1]
    · rw [if_neg h1, if_neg h1]
theorem sheet_C (hG : I 11 9 = iN G) (h8 : G ≤ 8) (kx : PH → Option (Int32 × PH)) : fX11_sheet_L32 0 md c x d kx FU (0 : Int32) (encC I A L pr ot T) = kx (encC I (u1 A 28 (shZ (A 28) md c x d G)) L pr ot T) := by
  have key := lp_det (fun n k (Z : Nat → Int32) => fX11_sheet_L32 0 md c x d kx n (iN k) (encC I (u1 A 28 Z) L pr ot T)) (fun Z => kx (encC I (u1 A 28 Z) L pr ot T)) (shZ (A 28) md c x d) G
    (fun k hk n => by
      have f1 : ∀ v : Int32, fX8_putStock 27 (iN k) v (encC I (u1 A 28 (shZ (A 28) md c x d k)) L pr ot T) = some ((), (encC I (u1 A 28 (upd (shZ (A 28) md c x d k) k v)) L pr ot T)) := fun v => by
        have f := c_putStock (I := I) (A := u1 A 28 (shZ (A 28) md c x d k)) (L := L) (pr := pr) (ot := ot) (T := T) (o := 27) (g := k) (v := v) (Or.inl rfl) (by omega)
        have e6 : (u1 A 28 (shZ (A 28) md c x d k)) (27 + 1) = shZ (A 28) md c x d k := rfl
        rw [e6, show 27 + 1 = 28 from rfl, u1_u1] at f
        exact f
      have e1 : shZ (A 28) md c x d (k + 1) = upd (shZ (A 28) md c x d k) k (if md = 3 ∨ c ≤ iN k then 0 else cl99 (shV md (x + iN k * d))) := rfl
      rw [e1]
      generalize shZ (A 28) md c x d k = Z at f1 ⊢
      show fX11_sheet_L32 0 md c x d kx (n + 1) (iN k) (encC I (u1 A 28 Z) L pr ot T) = _
      rw [fX11_sheet_L32, bR_0_7, bK_11, hb_of c_groundSize, hG, if_neg (show ¬ iN G ≤ iN k by rw [iN_le (by omega) (by omega)]; omega)]
      unfold fX11_sheet_J59_32 fX11_sheet_J60_32 fX11_sheet_J94_32
      have e9 : iN k + (1 : Int32) = iN (k + 1) := iN_add
      by_cases h3 : md = 3
      · rw [if_pos h3, bR_0_8, if_pos rfl, bK_27, hb_of (f1 0), letE_eq, e9, if_pos (Or.inl h3)]
      · rw [if_neg h3]
        by_cases hc : c ≤ iN k
        · rw [if_pos hc, bR_0_8, if_pos rfl, bK_27, hb_of (f1 0), letE_eq, e9, if_pos (Or.inr hc)]
        · rw [if_neg hc, bR_0_8, if_neg (by decide), hb_of (c_narrow h3), hb_of c_clamp, bK_27]
          have fv := f1 (cl99 (shV md (x + iN k * d)))
          unfold cl99 at fv ⊢
          rw [hb_of fv, letE_eq, e9, if_neg (show ¬ (md = 3 ∨ c ≤ iN k) from fun e => e.elim h3 hc)])
    (fun n => by
      show fX11_sheet_L32 0 md c x d kx (n + 1) (iN G) (encC I (u1 A 28 (shZ (A 28) md c x d G)) L pr ot T) = _
      rw [fX11_sheet_L32, bR_0_7, bK_11, hb_of c_groundSize, hG, if_pos (show iN G ≤ iN G by rw [iN_le (by omega) (by omega)]; omega)]) FU (by unfold FU; omega)
  have e0 : shZ (A 28) md c x d 0 = A 28 := rfl
  rw [e0, u1_self] at key
  exact key
theorem sheet_M (hG : J 1 = iN G) (h8 : G ≤ 8) (kx : PH → Option (Int32 × PH)) : fX12_sheet_L40 45 md c d kx FU x (0 : Int32) (encC I E L pr ot (encR J B M rdv ru T)) = kx (encC I E L pr ot (encR J (u1 B 0 (shZ (B 0) md c x d G)) M rdv ru T)) := by
  have key := lp_det (fun n k (q : Int32 × (Nat → Int32)) => fX12_sheet_L40 45 md c d kx n q.1 (iN k) (encC I E L pr ot (encR J (u1 B 0 q.2) M rdv ru T))) (fun q => kx (encC I E L pr ot (encR J (u1 B 0 q.2) M rdv ru T))) (fun k => (x + iN k * d, shZ (B 0) md c x d k)) G
    (fun k hk n => by
      have e1 : shZ (B 0) md c x d (k + 1) = upd (shZ (B 0) md c x d k) k (if md = 3 ∨ c ≤ iN k then 0 else cl99 (shV md (x + iN k * d))) := rfl
      have e2 : x + iN (k + 1) * d = x + iN k * d + d := by
        rw [← iN_add, Int32.add_mul, show iN 1 * d = d from Int32.one_mul d, Int32.add_assoc]
      dsimp only
      rw [e1, e2]
      generalize shZ (B 0) md c x d k = Z
      generalize x + iN k * d = v
      have e9 : iN k + (1 : Int32) = iN (k + 1) := iN_add
      have eZ : ∀ {w : Int32} {f : PH → Option (Int32 × PH)}, (h_ast .int (encC I E L pr ot (encR J (u1 B 0 Z) M rdv ru T)) 46 (iN k) w).bind f = f (encC I E L pr ot (encR J (u1 B 0 (upd Z k w)) M rdv ru T)) := fun {w f} => by
        rw [brS_0 (by rw [show (0 : Int32) = iN 0 from rfl, iN_lt (by omega) (by omega), iN_nat (by omega)]; omega), iN_nat (by omega), u1_u1, u1_eq, if_pos rfl]
      have tail : ∀ w, w = shV md v → fX12_sheet_J72_40 (fX12_sheet_L40 45 md c d kx n) kx 45 md c d v (iN k) w (encC I E L pr ot (encR J (u1 B 0 Z) M rdv ru T)) = fX12_sheet_L40 45 md c d kx n (v + d) (iN (k + 1)) (encC I E L pr ot (encR J (u1 B 0 (upd Z k (if md = 3 ∨ c ≤ iN k then 0 else cl99 (shV md v)))) M rdv ru T)) := by
        intro w hw
        subst hw
        unfold fX12_sheet_J72_40 fX12_sheet_J91_40 fX12_sheet_J106_40
        by_cases h3 : md = 3
        · rw [brR_0, if_pos h3, eZ, letE_eq, letE_eq, e9, if_pos (Or.inl h3)]
        · rw [brR_0, if_neg h3]
          by_cases hc : c ≤ iN k
          · have hc' : ¬ iN k < c := by
              rw [Int32.lt_iff_toInt_lt]; rw [Int32.le_iff_toInt_le] at hc; omega
            rw [if_neg hc', eZ, letE_eq, letE_eq, e9, if_pos (Or.inr hc)]
          · have hc' : iN k < c := by
              rw [Int32.lt_iff_toInt_lt]; rw [Int32.le_iff_toInt_le] at hc; omega
            rw [if_pos hc', letE_eq, cl99_m, eZ, letE_eq, letE_eq, e9, if_neg (show ¬ (md = 3 ∨ c ≤ iN k) from fun e => e.elim h3 hc)]
      show fX12_sheet_L40 45 md c d kx (n + 1) v (iN k) (encC I E L pr ot (encR J (u1 B 0 Z) M rdv ru T)) = _
      rw [fX12_sheet_L40, brG_1, hG, if_neg (show ¬ iN G ≤ iN k by rw [iN_le (by omega) (by omega)]; omega)]
      by_cases h0 : md = 0
      · rw [if_pos h0]
        exact tail _ (by unfold shV; rw [if_pos h0])
      · rw [if_neg h0]
        by_cases h1 : md = 1
        · rw [if_pos h1]
          exact tail _ (by unfold shV; rw [if_neg h0, if_pos h1])
        · rw [if_neg h1]
          exact tail _ (by unfold shV; rw [if_neg h0, if_neg h1]))
    (fun n => by
      show fX12_sheet_L40 45 md c d kx (n + 1) (x + iN G * d) (iN G) (encC I E L pr ot (encR J (u1 B 0 (shZ (B 0) md c x d G)) M rdv ru T)) = _
      rw [fX12_sheet_L40, brG_1, hG, if_pos (show iN G ≤ iN G by rw [iN_le (by omega) (by omega)]; omega)]) FU (by unfold FU; omega)
  have e0 : shZ (B 0) md c x d 0 = B 0 := rfl
  have e3 : x + iN 0 * d = x := by rw [show iN 0 * d = 0 from Int32.zero_mul, Int32.add_zero]
  dsimp only at key
  rw [e0, u1_self, e3] at key
  exact key
theorem OK.sh (hz : OK G P Z) : ∀ k, k ≤ 8 → OK G P (shZ Z md c x d k)
  | 0, _ => hz
  | k + 1, hk => (OK.sh hz k (by omega)).st (by omega) (by
    split
    · exact ⟨by decide, by decide⟩
    · exact cl99_b)
theorem CP.sh {a : Nat → Int32} (hc : CP Z a) : ∀ k, k ≤ 8 → CP (shZ Z md c x d k) (shZ a md c x d k)
  | 0, _ => hc
  | k + 1, hk => (CP.sh hc k (by omega)).st (by omega)
end SH
