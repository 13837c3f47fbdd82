/-! CALL: sign -/
/-- a byte of v -/
def byN (v : Int32) (k : Nat) : Nat := v.toBitVec.toNat / 2 ^ (8 * k) % 256
def byC (v : Int32) (k : Nat) : Int32 := vp_nar .char (((((v.toUInt32 >>> ((iN (8 * k)).toUInt32 &&& Int32.toUInt32 31)).toInt32) &&& (255 : Int32)).toUInt32 % 65536).toInt32)
def byM (v : Int32) (k : Nat) : Int32 := vp_nar .byte ((v >>> (((8 : Int32) * iN k) &&& 31)).toInt8.toInt32)
theorem byN_lt {v : Int32} {k : Nat} : byN v k < 256 := Nat.mod_lt _ (by decide)
theorem byC_n (v : Int32) (k : Nat) (hk : k < 4) : byC v k = iN (byN v k) := by
  unfold byC
  rw [vp_nar_char]
  apply Int32.toBitVec_inj.mp
  apply BitVec.eq_of_toNat_eq
  have e1 : (iN (byN v k)).toBitVec.toNat = byN v k := by
    have := byN_lt (v := v) (k := k)
    show (BitVec.ofNat 32 _).toNat = _
    rw [BitVec.toNat_ofNat, Nat.mod_eq_of_lt (by omega)]
  rw [e1]
  have e2 : ∀ k, k < 4 → ((iN (8 * k)).toUInt32 &&& Int32.toUInt32 31).toNat % 32 = 8 * k := by decide +kernel
  sorry
theorem byM_n (v : Int32) (k : Nat) (hk : k < 4) : byM v k &&& 255 = iN (byN v k) := by
  unfold byM
  rw [vp_nar_byte]
  sorry
