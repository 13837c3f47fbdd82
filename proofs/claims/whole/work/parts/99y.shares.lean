/-! SHARES -/
section SHx
variable {I A : Nat → Nat → Int32} {L : Nat → Int64} {pr ot s : Nat} {J : Nat → Int32} {B : Nat → Nat → Int32} {M : Nat → Int64} {rdv : Value} {ru : Nat} {out : Nat → Int64} {G P W : Nat}
theorem p_shares (h : INV s I A L pr ot J B M ru G P W) (x : Int32) : pairG s I A L pr ot J B M rdv ru out (fX11_shares 0 x) (fX12_shares 45 x) := by
  sorry
end SHx
