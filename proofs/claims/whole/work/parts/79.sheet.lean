/-! CALLS: sheet: what a line of a sheet puts -/
def shV (md x : Int32) : Int32 := if md = 0 then x.toInt8.toInt32 else if md = 1 then x.toInt16.toInt32 else x
def cl99 (x : Int32) : Int32 := if 0 ≤ x then (if x ≤ 99 then x else 99) else 0
theorem cl99_m {x : Int32} : (if (0 : Int32) < (if x < 99 then x else 99) then (if x < 99 then x else 99) else 0) = cl99 x := by
  unfold cl99
  by_cases h1 : x < 99
  · rw [if_pos h1]
    have h2 : x ≤ 99 := Int32.le_of_lt h1
    rw [if_pos h2]
    by_cases h3 : 0 < x
    · rw [if_pos h3, if_pos (Int32.le_of_lt h3)]
    · rw [if_neg h3]
      by_cases h4 : 0 ≤ x
      · rw [if_pos h4]
        apply Int32.toInt_inj.mp
        rw [Int32.lt_iff_toInt_lt] at h3
        rw [Int32.le_iff_toInt_le] at h4
        omega
      · rw [if_neg h4]
  · rw [if_neg h1, if_pos (show (0 : Int32) < 99 by decide)]
    rw [Int32.lt_iff_toInt_lt] at h1
    have h99 : (99 : Int32).toInt = 99 := by decide
    have h00 : (0 : Int32).toInt = 0 := by decide
    have h4 : (0 : Int32) ≤ x := by rw [Int32.le_iff_toInt_le]; omega
    rw [if_pos h4]
    by_cases h5 : x ≤ 99
    · rw [if_pos h5]
      rw [Int32.le_iff_toInt_le] at h5
      apply Int32.toInt_inj.mp
      omega
    · rw [if_neg h5]
theorem cl99_b {x : Int32} : 0 ≤ cl99 x ∧ cl99 x ≤ 99 := by
  unfold cl99
  by_cases h : 0 ≤ x
  · rw [if_pos h]
    by_cases h2 : x ≤ 99
    · rw [if_pos h2]; exact ⟨h, h2⟩
    · rw [if_neg h2]; exact ⟨by decide, by decide⟩
  · rw [if_neg h]; exact ⟨by decide, by decide⟩
def shZ (Z : Nat → Int32) (md c x d : Int32) : Nat → Nat → Int32
  | 0 => Z
  | k + 1 => upd (shZ Z md c x d k) k (if md = 3 ∨ c ≤ iN k then 0 else cl99 (shV md (x + iN k * d)))
