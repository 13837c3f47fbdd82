/-! CALL: sign -/
/-- a byte of v -/
def byN (v : Int32) (k : Nat) : Nat := v.toBitVec.toNat / 2 ^ (8 * k) % 256
def byC (v : Int32) (k : Nat) : Int32 := vp_nar .char (((((v.toUInt32 >>> ((iN (8 * k)).toUInt32 &&& Int32.toUInt32 31)).toInt32) &&& (255 : Int32)).toUInt32 % 65536).toInt32)
def byM (v : Int32) (k : Nat) : Int32 := vp_nar .byte ((v >>> (((8 : Int32) * iN k) &&& 31)).toInt8.toInt32)
theorem byN_lt {v : Int32} {k : Nat} : byN v k < 256 := Nat.mod_lt _ (by decide)
theorem byC_n (v : Int32) (k : Nat) (hk : k < 4) : byC v k = iN (byN v k) := by
  unfold byC
  rw [vp_nar_char]
  apply Int32.toBitVec_inj.mp
  apply BitVec.eq_of_toNat_eq
  have e0 := byN_lt (v := v) (k := k)
  have e1 : (iN (byN v k)).toBitVec.toNat = byN v k := by
    show (BitVec.ofNat 32 _).toNat = _
    rw [BitVec.toNat_ofNat, Nat.mod_eq_of_lt (by omega)]
  rw [e1]
  have e2 : ∀ k, k < 4 → ((iN (8 * k)).toUInt32 &&& Int32.toUInt32 31).toNat % 32 = 8 * k := by decide +kernel
  show ((((v.toUInt32 >>> ((iN (8 * k)).toUInt32 &&& Int32.toUInt32 31)) &&& 255) % 65536 : UInt32).toUInt16.toUInt32).toNat = _
  rw [UInt16.toNat_toUInt32, UInt32.toNat_toUInt16, UInt32.toNat_mod, UInt32.toNat_and, UInt32.toNat_shiftRight, e2 k hk, Nat.shiftRight_eq_div_pow, show (255 : UInt32).toNat = 2 ^ 8 - 1 from rfl, Nat.and_two_pow_sub_one_eq_mod, show (65536 : UInt32).toNat = 65536 from rfl, Nat.mod_eq_of_lt (a := _ % 65536) (Nat.mod_lt _ (by decide)), Nat.mod_eq_of_lt (b := 65536)]
  · rfl
  · have := Nat.mod_lt (v.toUInt32.toNat / 2 ^ (8 * k)) (show 0 < 2 ^ 8 by decide)
    omega
theorem byM_b (v : Int32) (k : Nat) (hk : k < 4) (i : Nat) (hi : i < 32) : (byM v k).toBitVec.getLsbD i = (byN v k).testBit (if i < 8 then i else 7) := by
  have e2 : ∀ k, k < 4 → ((((8 : Int32) * iN k) &&& 31).toBitVec.smod 32).toNat = 8 * k := by decide +kernel
  have e3 : (byM v k).toBitVec = ((v.toBitVec.sshiftRight (8 * k)).signExtend 8).signExtend 32 := by
    unfold byM
    rw [vp_nar_byte, Int8.toInt8_toInt32, ← e2 k hk]
    rfl
  have e4 : ∀ j, j < 8 → (v.toBitVec.sshiftRight (8 * k)).getLsbD j = (byN v k).testBit j := fun j hj => by
    unfold byN
    rw [BitVec.getLsbD_sshiftRight, show (256 : Nat) = 2 ^ 8 from rfl, Nat.testBit_mod_two_pow, ← Nat.shiftRight_eq_div_pow, Nat.testBit_shiftRight]
    rw [decide_eq_true hj, Bool.true_and, if_pos (by omega)]
    simp only [show ¬ 32 ≤ j by omega, decide_false, Bool.not_false, Bool.true_and]
    rfl
  rw [e3, BitVec.getLsbD_signExtend]
  by_cases c : i < 8
  · rw [if_pos c, if_pos c, BitVec.getLsbD_signExtend, if_pos (by omega), e4 i c]
    simp [hi, c]
  · rw [if_neg c, if_neg c, BitVec.msb_eq_getLsbD_last, BitVec.getLsbD_signExtend, if_pos (by omega), e4 7 (by omega)]
    simp [hi]
theorem byM_n (v : Int32) (k : Nat) (hk : k < 4) : byM v k &&& 255 = iN (byN v k) := by
  apply Int32.toBitVec_inj.mp
  rw [Int32.toBitVec_and]
  apply BitVec.eq_of_getLsbD_eq
  intro i hi
  have e5 : ∀ i, i < 32 → (255 : Int32).toBitVec.getLsbD i = decide (i < 8) := by decide +kernel
  have e0 := byN_lt (v := v) (k := k)
  rw [BitVec.getLsbD_and, byM_b v k hk i hi, e5 i hi]
  show _ = (BitVec.ofNat 32 (byN v k)).getLsbD i
  rw [BitVec.getLsbD_ofNat, decide_eq_true hi, Bool.true_and]
  by_cases c : i < 8
  · rw [if_pos c, decide_eq_true c, Bool.and_true]
  · rw [decide_eq_false c, Bool.and_false]
    symm
    apply Nat.testBit_lt_two_pow
    exact Nat.lt_of_lt_of_le e0 (Nat.pow_le_pow_right (show 0 < 2 by decide) (show 8 ≤ i by omega))
theorem byM_s (v : Int32) (k : Nat) (hk : k < 4) (h : byN v k < 128) : byM v k = iN (byN v k) := by
  apply Int32.toBitVec_inj.mp
  apply BitVec.eq_of_getLsbD_eq
  intro i hi
  rw [byM_b v k hk i hi]
  show _ = (BitVec.ofNat 32 (byN v k)).getLsbD i
  rw [BitVec.getLsbD_ofNat, decide_eq_true hi, Bool.true_and]
  by_cases c : i < 8
  · rw [if_pos c]
  · rw [if_neg c, Nat.testBit_lt_two_pow (show byN v k < 2 ^ 7 from h)]
    symm
    apply Nat.testBit_lt_two_pow
    exact Nat.lt_of_lt_of_le h (Nat.pow_le_pow_right (show 0 < 2 by decide) (show 7 ≤ i by omega))
theorem nn0 {k : Nat} (h : k < 2147483648) : ¬ (iN k < 0) := by
  rw [show (0 : Int32) = iN 0 from rfl, iN_lt h (by decide)]; omega
section SG
variable {I A E I' A' : Nat → Nat → Int32} {L L' : Nat → Int64} {pr ot s : Nat} {J J' : Nat → Int32} {B B' : Nat → Nat → Int32} {M M' : Nat → Int64} {rdv : Value} {ru : Nat} {T : PH} {G P W p g n nr sz ro oa w t : Nat} {x y z : Int32} {out : Nat → Int64}
/-- four cells of X from n on are told by f -/
def fo4 (X : Nat → Int32) (n : Nat) (f : Nat → Int32) : Nat → Int32 := upd (upd (upd (upd X n (f 3)) (n + 1) (f 2)) (n + 2) (f 1)) (n + 3) (f 0)
theorem c_sg1 {k : Nat} (hk : k < 4) (hn : I 1 1 = iN n) (h : n < 80) (kx : PH → Option (Int32 × PH)) (m : Nat) : fX7_add_L16 1 x kx (m + 1) (iN (8 * k)) (encC I A L pr ot T) = fX7_add_L16 1 x kx m (iN (8 * k) + (-8 : Int32)) (encC (u2 I 1 1 (iN (n + 1))) (u1 A 2 (upd (A 2) n (byC x k))) L pr ot T) := by
  rw [fX7_add_L16, if_neg (nn0 (by omega)), bR_1_0, bG_1_1, hn, bS_2 (in_arr h (by decide) rfl), iN_nat (by omega), bG_1_1, hn, bW_1_1, show iN n + (1 : Int32) = iN (n + 1) from iN_add, letE_eq]
  rfl
theorem c_add4 (hn : I 1 1 = iN n) (h : n + 4 ≤ 80) : fX7_add 1 x (encC I A L pr ot T) = some (1, (encC (u2 I 1 1 (iN (n + 4))) (u1 A 2 (fo4 (A 2) n (byC x))) L pr ot T)) := by
  unfold fX7_add
  rw [bG_1_1, hn, if_pos (by rw [show (4 : Int32) = iN 4 from rfl, show (80 : Int32) = iN 80 from rfl, iN_add, iN_le (by omega) (by omega)]; exact h)]
  obtain ⟨m, hm⟩ : ∃ m, FU = m + 1 + 1 + 1 + 1 + 1 := ⟨1995, rfl⟩
  rw [hm]
  have e1 := c_sg1 (I := I) (A := A) (L := L) (pr := pr) (ot := ot) (T := T) (x := x) (k := 3) (by decide) hn (by omega)
  have e2 := c_sg1 (I := u2 I 1 1 (iN (n + 1))) (A := u1 A 2 (upd (A 2) n (byC x 3))) (L := L) (pr := pr) (ot := ot) (T := T) (x := x) (k := 2) (by decide) (by rw [u2_eq, if_pos ⟨rfl, rfl⟩]) (show n + 1 < 80 by omega)
  have e3 := c_sg1 (I := u2 I 1 1 (iN (n + 1 + 1))) (A := u1 A 2 (upd (upd (A 2) n (byC x 3)) (n + 1) (byC x 2))) (L := L) (pr := pr) (ot := ot) (T := T) (x := x) (k := 1) (by decide) (by rw [u2_eq, if_pos ⟨rfl, rfl⟩]) (show n + 1 + 1 < 80 by omega)
  have e4 := c_sg1 (I := u2 I 1 1 (iN (n + 1 + 1 + 1))) (A := u1 A 2 (upd (upd (upd (A 2) n (byC x 3)) (n + 1) (byC x 2)) (n + 1 + 1) (byC x 1))) (L := L) (pr := pr) (ot := ot) (T := T) (x := x) (k := 0) (by decide) (by rw [u2_eq, if_pos ⟨rfl, rfl⟩]) (show n + 1 + 1 + 1 < 80 by omega)
  simp only [u2_u2, u1_u1, u1_eq, if_true] at e2 e3 e4
  rw [show (24 : Int32) = iN (8 * 3) from rfl, e1, show iN (8 * 3) + (-8 : Int32) = iN (8 * 2) by decide, e2, show iN (8 * 2) + (-8 : Int32) = iN (8 * 1) by decide, e3, show iN (8 * 1) + (-8 : Int32) = iN (8 * 0) by decide, e4]
  rw [fX7_add_L16, if_pos (by decide)]
  rfl
theorem r_sg1 {k : Nat} (hk : k < 4) (hn : J 10 = iN n) (h : n < 80) (kx : PH → Option (Int32 × PH)) (m : Nat) : fX12_sign_L20 45 x kx (m + 1) (iN k) (encC I E L pr ot (encR J B M rdv ru T)) = fX12_sign_L20 45 x kx m (iN k + (-1 : Int32)) (encC I E L pr ot (encR (u1 J 10 (iN (n + 1))) (u1 B 9 (upd (B 9) n (byM x k))) M rdv ru T)) := by
  rw [fX12_sign_L20, if_neg (nn0 (by omega)), brR_9, brG_10, brW_10, hn, brS_9 (in_arr h (by decide) rfl), iN_nat (by omega), show iN n + (1 : Int32) = iN (n + 1) from iN_add, letE_eq]
  rfl
theorem r_sg4 (hn : J 10 = iN n) (h : n + 4 ≤ 80) (kx : PH → Option (Int32 × PH)) : fX12_sign_L20 45 x kx FU (3 : Int32) (encC I E L pr ot (encR J B M rdv ru T)) = kx (encC I E L pr ot (encR (u1 J 10 (iN (n + 4))) (u1 B 9 (fo4 (B 9) n (byM x))) M rdv ru T)) := by
  obtain ⟨m, hm⟩ : ∃ m, FU = m + 1 + 1 + 1 + 1 + 1 := ⟨1995, rfl⟩
  rw [hm]
  have e1 := r_sg1 (I := I) (E := E) (L := L) (pr := pr) (ot := ot) (J := J) (B := B) (M := M) (rdv := rdv) (ru := ru) (T := T) (x := x) (k := 3) (by decide) hn (by omega)
  have e2 := r_sg1 (I := I) (E := E) (L := L) (pr := pr) (ot := ot) (J := u1 J 10 (iN (n + 1))) (B := u1 B 9 (upd (B 9) n (byM x 3))) (M := M) (rdv := rdv) (ru := ru) (T := T) (x := x) (k := 2) (by decide) (by rw [u1_eq, if_pos rfl]) (show n + 1 < 80 by omega)
  have e3 := r_sg1 (I := I) (E := E) (L := L) (pr := pr) (ot := ot) (J := u1 J 10 (iN (n + 1 + 1))) (B := u1 B 9 (upd (upd (B 9) n (byM x 3)) (n + 1) (byM x 2))) (M := M) (rdv := rdv) (ru := ru) (T := T) (x := x) (k := 1) (by decide) (by rw [u1_eq, if_pos rfl]) (show n + 1 + 1 < 80 by omega)
  have e4 := r_sg1 (I := I) (E := E) (L := L) (pr := pr) (ot := ot) (J := u1 J 10 (iN (n + 1 + 1 + 1))) (B := u1 B 9 (upd (upd (upd (B 9) n (byM x 3)) (n + 1) (byM x 2)) (n + 1 + 1) (byM x 1))) (M := M) (rdv := rdv) (ru := ru) (T := T) (x := x) (k := 0) (by decide) (by rw [u1_eq, if_pos rfl]) (show n + 1 + 1 + 1 < 80 by omega)
  simp only [u1_u1, u1_eq, if_true] at e2 e3 e4
  rw [show (3 : Int32) = iN 3 from rfl, e1, show iN 3 + (-1 : Int32) = iN 2 by decide, e2, show iN 2 + (-1 : Int32) = iN 1 by decide, e3, show iN 1 + (-1 : Int32) = iN 0 by decide, e4]
  rw [fX12_sign_L20, if_pos (by decide)]
  rfl
theorem fo4_c {X Y : Nat → Int32} (v : Int32) (h : ∀ k, k < n → ∃ c, c < 256 ∧ X k = iN c ∧ Y k &&& 255 = iN c ∧ (c < 128 → Y k = iN c)) : ∀ k, k < n + 4 → ∃ c, c < 256 ∧ fo4 X n (byC v) k = iN c ∧ fo4 Y n (byM v) k &&& 255 = iN c ∧ (c < 128 → fo4 Y n (byM v) k = iN c) := by
  intro k hk
  unfold fo4
  by_cases c3 : k = n + 3
  · subst c3
    rw [upd_eq, upd_eq]
    exact ⟨byN v 0, byN_lt, byC_n v 0 (by decide), byM_n v 0 (by decide), byM_s v 0 (by decide)⟩
  rw [upd_ne c3, upd_ne c3]
  by_cases c2 : k = n + 2
  · subst c2
    rw [upd_eq, upd_eq]
    exact ⟨byN v 1, byN_lt, byC_n v 1 (by decide), byM_n v 1 (by decide), byM_s v 1 (by decide)⟩
  rw [upd_ne c2, upd_ne c2]
  by_cases c1 : k = n + 1
  · subst c1
    rw [upd_eq, upd_eq]
    exact ⟨byN v 2, byN_lt, byC_n v 2 (by decide), byM_n v 2 (by decide), byM_s v 2 (by decide)⟩
  rw [upd_ne c1, upd_ne c1]
  by_cases c0 : k = n
  · subst c0
    rw [upd_eq, upd_eq]
    exact ⟨byN v 3, byN_lt, byC_n v 3 (by decide), byM_n v 3 (by decide), byM_s v 3 (by decide)⟩
  rw [upd_ne c0, upd_ne c0]
  exact h k (by omega)
theorem p_sign (h : INV s I A L pr ot J B M ru G P W) (x : Int32) : pairG s I A L pr ot J B M rdv ru out (fX11_sign 0 x) (fX12_sign 45 x) := by
  have hI := h
  obtain ⟨hF, hM, hpl, hz, hc, hn2, ⟨n, hn, e1, e2, e3⟩, -⟩ := h
  have e2' : (u1 J 13 0) 10 = iN n := by rw [u1_eq, if_neg (by decide)]; exact e2
  by_cases c : n + 4 ≤ 80
  · refine ⟨iN (n + 4), u2 I 1 1 (iN (n + 4)), u1 A 2 (fo4 (A 2) n (byC x)), L, pr, ot, u1 (u1 J 13 0) 10 (iN (n + 4)), u1 B 9 (fo4 (B 9) n (byM x)), M, rdv, ru, G, P, W, ?_, ?_, hI.text (fun o k hh => by rw [u2_eq, if_neg hh]) (fun x hx => by rw [u1_eq, if_neg hx]) (fun x h1 h2 => by rw [u1_eq, if_neg h1, u1_eq, if_neg h2]) (fun x hx => by rw [u1_eq, if_neg hx]) ⟨n + 4, c, by rw [u2_eq, if_pos ⟨rfl, rfl⟩], by rw [u1_eq, if_pos rfl], ?_⟩⟩
    · unfold EH fX11_sign
      rw [bR_0_0, bK_1, hb_of (c_add4 e1 c), if_neg (by decide), bR_0_0, bK_1]
      unfold fX7_size
      rw [bG_1_1, u2_eq, if_pos ⟨rfl, rfl⟩]
      rfl
    · unfold EH fX12_sign
      rw [brW_13, brG_10, e2', if_pos (by rw [show (4 : Int32) = iN 4 from rfl, show (80 : Int32) = iN 80 from rfl, iN_add, iN_le (by omega) (by omega)]; exact c), r_sg4 e2' c, brG_10, u1_eq, if_pos rfl]
    · rw [u1_eq, if_pos rfl, u1_eq, if_pos rfl]
      exact fo4_c x e3
  · have c2 : ¬ (iN n + (4 : Int32) ≤ (80 : Int32)) := by rw [show (4 : Int32) = iN 4 from rfl, show (80 : Int32) = iN 80 from rfl, iN_add, iN_le (by omega) (by omega)]; exact c
    refine pairG_q (ans := -1) hI (fun T => qC_no ?_) (qM_no (fun I E L pr ot T => ?_))
    · unfold fX11_sign fX7_add
      rw [bR_0_0, bK_1, bG_1_1, e1, if_neg c2]
      rfl
    · unfold fX12_sign
      rw [brW_13, brG_10, e2', if_neg c2]
end SG
