/-! a part told: both sides' fraction -/
def qN (n : Nat) : Int64 := Int64.ofNat n
theorem qN_int {a : Nat} (h : a < 9223372036854775808) : (qN a).toInt = (a : Int) := Int64.toInt_ofNat_of_lt h
theorem qN_of {x : Int64} {a : Nat} (ha : a < 9223372036854775808) (h : x.toInt = (a : Int)) : x = qN a := Int64.toInt_inj.mp (by rw [h, qN_int ha])
theorem qN_add {a b : Nat} : qN a + qN b = qN (a + b) := (Int64.ofNat_add a b).symm
theorem qN_mul {a b : Nat} : qN a * qN b = qN (a * b) := (Int64.ofNat_mul a b).symm
theorem qN_sub {a b : Nat} (h : b ≤ a) : qN a - qN b = qN (a - b) := (Int64.ofNat_sub a b h).symm
theorem iN_64 {a : Nat} (h : a < 2147483648) : (iN a).toInt64 = qN a := qN_of (by omega) (by rw [Int32.toInt_toInt64, iN_int h])
theorem qN_inj {a b : Nat} (ha : a < 9223372036854775808) (hb : b < 9223372036854775808) (h : qN a = qN b) : a = b := by
  have := congrArg Int64.toInt h
  rw [qN_int ha, qN_int hb] at this
  omega
theorem qN_ne {a : Nat} (ha : a < 9223372036854775808) (h : 0 < a) : ¬ qN a = 0 := fun e => by
  have := qN_inj (b := 0) ha (by decide) e
  omega
theorem qN_div {a b : Nat} (ha : a < 9223372036854775808) (hb : b < 9223372036854775808) : qN a / qN b = qN (a / b) := by
  have hl : a / b ≤ a := Nat.div_le_self a b
  refine qN_of (by omega) ?_
  rw [Int64.toInt_div, qN_int ha, qN_int hb, ← Int.ofNat_tdiv]
  have h0 : (0 : Int) ≤ ((a / b : Nat) : Int) := Int.natCast_nonneg _
  apply Int.bmod_eq_of_le
  · omega
  · have h1 : (((a / b : Nat) : Int)) < 9223372036854775808 := by omega
    exact h1
theorem qN_mod {a b : Nat} (ha : a < 9223372036854775808) (hb : b < 9223372036854775808) : qN a - qN a / qN b * qN b = qN (a % b) := by
  rw [qN_div ha hb, qN_mul, qN_sub (Nat.div_mul_le_self a b)]
  congr 1
  have := Nat.div_add_mod a b
  rw [Nat.mul_comm] at this
  omega
theorem qN_pos {a : Nat} (ha : a < 9223372036854775808) (h : 0 < a) : lg_cmp (qN a) (0 : Int64) = 1 := by
  unfold lg_cmp
  rw [if_pos]
  show (0 : Int64) < qN a
  rw [Int64.lt_iff_toInt_lt, qN_int ha]
  show (0 : Int) < _
  omega
theorem qN_cmp0 : lg_cmp (qN 0) (0 : Int64) = 0 := cmp_self
/-- the greatest common divisor takes few steps -/
theorem c_gcd {l1 l3 : Int64} {kx : Int64 → PH → Option (Unit × PH)} {h : PH} : ∀ (k a b i n : Nat), a < 9223372036854775808 → b < 2 ^ k → b < 9223372036854775808 → i + 2 * k < 999 → 2 * k + 1 < n → 0 < a →
    fX11_tellFraction_L9 0 l1 l3 kx n (qN a) (qN b) (iN i) h = kx (qN (Nat.gcd a b)) h
  | k, a, b, i, n, ha, hb, hb2, hi, hn, ha0 => by
    obtain ⟨m, rfl⟩ : ∃ m, n = m + 1 := ⟨n - 1, by omega⟩
    by_cases h0 : b = 0
    · subst h0
      rw [Nat.gcd_zero_right]
      have e1 : ¬ (1000 : Int32) ≤ iN i := by rw [show (1000 : Int32) = iN 1000 from rfl, iN_le (by omega) (by omega)]; omega
      unfold fX11_tellFraction_L9
      rw [if_neg e1, qN_cmp0, if_pos (by decide)]
    · have e1 : ¬ (1000 : Int32) ≤ iN i := by rw [show (1000 : Int32) = iN 1000 from rfl, iN_le (by omega) (by omega)]; omega
      unfold fX11_tellFraction_L9
      rw [if_neg e1, qN_pos hb2 (by omega), if_neg (by decide), if_neg (qN_ne hb2 (by omega)), letE_eq, letE_eq, qN_mod ha hb2, show iN i + (1 : Int32) = iN (i + 1) from iN_add]
      have hr : a % b < b := Nat.mod_lt _ (by omega)
      obtain ⟨m2, rfl⟩ : ∃ m2, m = m2 + 1 := ⟨m - 1, by omega⟩
      have hg : Nat.gcd a b = Nat.gcd b (a % b) := by rw [Nat.gcd_comm, Nat.gcd_rec, Nat.gcd_comm]
      rw [hg]
      by_cases h1 : a % b = 0
      · rw [h1, Nat.gcd_zero_right]
        have e2 : ¬ (1000 : Int32) ≤ iN (i + 1) := by rw [show (1000 : Int32) = iN 1000 from rfl, iN_le (by omega) (by omega)]; omega
        unfold fX11_tellFraction_L9
        rw [if_neg e2, qN_cmp0, if_pos (by decide)]
      · have e2 : ¬ (1000 : Int32) ≤ iN (i + 1) := by rw [show (1000 : Int32) = iN 1000 from rfl, iN_le (by omega) (by omega)]; omega
        unfold fX11_tellFraction_L9
        have hr2 : a % b < 9223372036854775808 := by omega
        rw [if_neg e2, qN_pos hr2 (by omega), if_neg (by decide), if_neg (qN_ne hr2 (by omega)), letE_eq, letE_eq, qN_mod hb2 hr2, show iN (i + 1) + (1 : Int32) = iN (i + 1 + 1) from iN_add]
        have hg2 : Nat.gcd b (a % b) = Nat.gcd (a % b) (b % (a % b)) := by rw [Nat.gcd_comm, Nat.gcd_rec, Nat.gcd_comm]
        rw [hg2]
        have hq : b % (a % b) < a % b := Nat.mod_lt _ (by omega)
        have hq2 : b % (a % b) + a % b ≤ b := by
          have := Nat.div_add_mod b (a % b)
          have h3 : 1 ≤ b / (a % b) := Nat.div_pos (by omega) (by omega)
          have h4 : (a % b) * 1 ≤ (a % b) * (b / (a % b)) := Nat.mul_le_mul_left _ h3
          omega
        obtain ⟨k2, rfl⟩ : ∃ k2, k = k2 + 1 := ⟨k - 1, by
          cases k with
          | zero => rw [Nat.pow_zero] at hb; omega
          | succ k => omega⟩
        rw [Nat.pow_succ] at hb
        exact c_gcd k2 _ _ _ m2 hr2 (by omega) (by omega) (by omega) (by omega) (by omega)
theorem r_gcd {h : PH} : ∀ (k a b n : Nat), a < 9223372036854775808 → b < 2 ^ k → b < 9223372036854775808 → 2 * k + 1 < n →
    rX12_common n (qN a) (qN b) h = some (qN (Nat.gcd a b), h)
  | k, a, b, n, ha, hb, hb2, hn => by
    obtain ⟨m, rfl⟩ : ∃ m, n = m + 1 := ⟨n - 1, by omega⟩
    by_cases h0 : b = 0
    · subst h0
      rw [Nat.gcd_zero_right]
      show fX12_common (rX12_common m) (qN a) (qN 0) h = _
      unfold fX12_common
      rw [qN_cmp0, if_pos rfl]
    · show fX12_common (rX12_common m) (qN a) (qN b) h = _
      unfold fX12_common
      rw [qN_pos hb2 (by omega), if_neg (by decide), if_neg (qN_ne hb2 (by omega)), qN_mod ha hb2]
      have hr : a % b < b := Nat.mod_lt _ (by omega)
      obtain ⟨m2, rfl⟩ : ∃ m2, m = m2 + 1 := ⟨m - 1, by omega⟩
      have hg : Nat.gcd a b = Nat.gcd b (a % b) := by rw [Nat.gcd_comm, Nat.gcd_rec, Nat.gcd_comm]
      rw [hg]
      have st : rX12_common (m2 + 1) (qN b) (qN (a % b)) h = some (qN (Nat.gcd b (a % b)), h) := by
        by_cases h1 : a % b = 0
        · rw [h1, Nat.gcd_zero_right]
          show fX12_common (rX12_common m2) (qN b) (qN 0) h = _
          unfold fX12_common
          rw [qN_cmp0, if_pos rfl]
        · show fX12_common (rX12_common m2) (qN b) (qN (a % b)) h = _
          unfold fX12_common
          have hr2 : a % b < 9223372036854775808 := by omega
          rw [qN_pos hr2 (by omega), if_neg (by decide), if_neg (qN_ne hr2 (by omega)), qN_mod hb2 hr2]
          have hg2 : Nat.gcd b (a % b) = Nat.gcd (a % b) (b % (a % b)) := by rw [Nat.gcd_comm, Nat.gcd_rec, Nat.gcd_comm]
          rw [hg2]
          have hq : b % (a % b) < a % b := Nat.mod_lt _ (by omega)
          have hq2 : b % (a % b) + a % b ≤ b := by
            have := Nat.div_add_mod b (a % b)
            have h3 : 1 ≤ b / (a % b) := Nat.div_pos (by omega) (by omega)
            have h4 : (a % b) * 1 ≤ (a % b) * (b / (a % b)) := Nat.mul_le_mul_left _ h3
            omega
          obtain ⟨k2, rfl⟩ : ∃ k2, k = k2 + 1 := ⟨k - 1, by
            cases k with
            | zero => rw [Nat.pow_zero] at hb; omega
            | succ k => omega⟩
          rw [Nat.pow_succ] at hb
          rw [hb_of (r_gcd k2 _ _ m2 hr2 (by omega) (by omega) (by omega))]
      rw [hb_of st]
def ptN (a b : Nat) : List Int64 := [qN (a / Nat.gcd b a), qN (b / Nat.gcd b a)]
section PT
variable {I A E I' A' : Nat → Nat → Int32} {L L' : Nat → Int64} {pr ot s : Nat} {J J' : Nat → Int32} {B B' : Nat → Nat → Int32} {M M' : Nat → Int64} {rdv rdv' : Value} {ru : Nat} {T : PH} {G P W p q g n nr sz ro oa w t k a b : Nat} {Z Z' R X : Nat → Int32} {x y z i2 m : Int32} {out : Nat → Int64} {pu : (Nat → Int32) → Int32}
theorem c_part (ha : a < 2 ^ 45) (hb : b < 2 ^ 45) (h0 : 0 < b) : fX11_tellFraction 0 (qN a) (qN b) (encC I A L pr ot T) = some ((), (encC (u2 I 9 1 (iN 2)) A (vp_updL (vp_updL L 0 (qN (a / Nat.gcd b a))) 1 (qN (b / Nat.gcd b a))) pr ot T)) := by
  have hg : 0 < Nat.gcd b a := Nat.gcd_pos_of_pos_left _ h0
  have hg2 : Nat.gcd b a ≤ b := Nat.gcd_le_left _ h0
  have h45 : (2 : Nat) ^ 45 = 35184372088832 := by decide
  have hge : (2 : Nat) ^ 45 < 9223372036854775808 := by decide
  unfold fX11_tellFraction
  rw [show (0 : Int32) = iN 0 from rfl, c_gcd 45 b a 0 FU (by omega) ha (by omega) (by omega) (by unfold FU; omega) h0]
  have a1 := c_add (I := I) (A := A) (L := L) (pr := pr) (ot := ot) (T := T) (v := qN (a / Nat.gcd b a)) (n := 0) (by decide)
  have a2 := c_add (I := I) (A := A) (L := vp_updL L 0 (qN (a / Nat.gcd b a))) (pr := pr) (ot := ot) (T := T) (v := qN (b / Nat.gcd b a)) (n := 1) (by decide)
  have d1 := qN_div (a := a) (b := Nat.gcd b a) (by omega) (by omega)
  have d2 := qN_div (a := b) (b := Nat.gcd b a) (by omega) (by omega)
  have p1 := qN_pos (a := Nat.gcd b a) (by omega) hg
  have p2 := qN_ne (a := Nat.gcd b a) (by omega) hg
  unfold fX11_tellFraction_J71 fX11_tellFraction_J93
  rw [bR_0_6, bK_9, hb_of c_start, bR_0_6, p1, if_neg (by decide), if_neg p2, d1, bK_9, hb_of a1, bR_0_6, if_neg (by decide), if_neg p2, d2, bK_9, hb_of a2]
theorem r_part (ha : a < 2 ^ 45) (hb : b < 2 ^ 45) (h0 : 0 < b) : fX12_tellPart 45 (qN a) (qN b) (encC I E L pr ot (encR J B M rdv ru T)) = some ((), (encC I E L pr ot (encR (u1 J 12 (iN 2)) B (vp_updL (vp_updL M 0 (qN (a / Nat.gcd b a))) 1 (qN (b / Nat.gcd b a))) rdv ru T))) := by
  have hg : 0 < Nat.gcd b a := Nat.gcd_pos_of_pos_left _ h0
  have hg2 : Nat.gcd b a ≤ b := Nat.gcd_le_left _ h0
  have hge : (2 : Nat) ^ 45 < 9223372036854775808 := by decide
  have g1 := r_gcd (h := (encC I E L pr ot (encR J B M rdv ru T))) 45 a b 100 (by omega) hb (by omega) (by decide)
  rw [Nat.gcd_comm] at g1
  have a1 := r_tell (I := I) (E := E) (L := L) (pr := pr) (ot := ot) (J := u1 J 12 0) (B := B) (M := M) (rdv := rdv) (ru := ru) (T := T) (v := qN (a / Nat.gcd b a)) (n := 0) rfl (by decide)
  have a2 := r_tell (I := I) (E := E) (L := L) (pr := pr) (ot := ot) (J := u1 J 12 (iN 1)) (B := B) (M := vp_updL M 0 (qN (a / Nat.gcd b a))) (rdv := rdv) (ru := ru) (T := T) (v := qN (b / Nat.gcd b a)) (n := 1) (by rw [u1_eq, if_pos rfl]) (by decide)
  rw [u1_u1] at a1 a2
  have d1 := qN_div (a := a) (b := Nat.gcd b a) (by omega) (by omega)
  have d2 := qN_div (a := b) (b := Nat.gcd b a) (by omega) (by omega)
  have p2 := qN_ne (a := Nat.gcd b a) (by omega) hg
  unfold fX12_tellPart
  rw [hb_of g1, brW_12, if_neg p2, d1, d2, brK, hb_of a1, if_neg p2, brK, hb_of a2]
end PT
