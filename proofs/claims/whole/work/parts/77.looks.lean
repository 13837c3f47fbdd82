/-! CALLS: looks (5) -/
def wI (f : Nat → Nat) : Nat → Int32
  | 0 => -1
  | k + 1 => iN (miH f k)
def wV (f : Nat → Nat) : Nat → Int32
  | 0 => iN 1000000
  | k + 1 => iN (f (miH f k))
section LQ
variable {I A E I' A' : Nat → Nat → Int32} {L L' : Nat → Int64} {pr ot s : Nat} {J J' : Nat → Int32} {B B' : Nat → Nat → Int32} {M M' : Nat → Int64} {rdv rdv' : Value} {ru : Nat} {T : PH} {G P W p q g n nr sz ro oa w t k N d m h : Nat} {Z Z' R X a : Nat → Int32} {x y z i2 i4 i5 acc mm : Int32} {out : Nat → Int64} {pu : (Nat → Int32) → Int32} {V : Nat → Nat}
theorem look126_M (hz : OK G P (A 28)) (h6 : P ≤ 6) (hp : p < P) (hG : J 1 = iN G) (h8 : G ≤ 8) (ht : ∀ g, g < G → hasB mm g = true → ∀ h, h < 4 → B 38 (4 * g + h) = lkZ A pu G p n g (8 + p * 4 + h)) :
    ∃ B2, (∀ kx : Int32 → Int32 → PH → Option (Int32 × PH), fX12_looks_L126 45 mm kx FU (-1) (iN 1000000) (iN 0) (encC I E L pr ot (encR J B M rdv ru T)) = kx (iN (miH (loM A pu G p n mm) 3)) (iN (loM A pu G p n mm (miH (loM A pu G p n mm) 3))) (encC I E L pr ot (encR J B2 M rdv ru T))) ∧ frRB B B2 := by
  have hOK : ∀ g, OK G P (lkZ A pu G p n g) := fun g => (hz.ld h8 h6 hp G (Nat.le_refl _)).ps h8 (by omega) n
  have hr : ∀ h, h < 4 → rM (hasB mm) (lkV A pu G p n h) G = loM A pu G p n mm h := fun h hh => rM_eq G (fun g _ => by have := ((hOK g).hu (p := p) (h := h) (by omega) hh).2; show huN _ _ _ < 10; omega)
  have hlo : ∀ h, loM A pu G p n mm h ≤ 100 := fun h => mM_le (fun v hv => Nat.le_trans (cN_le G) (by omega))
  generalize hf : loM A pu G p n mm = f at hr hlo ⊢
  have key := lp_k (fun (kx : Int32 → Int32 → PH → Option (Int32 × PH)) n' k (B1 : Nat → Nat → Int32) => fX12_looks_L126 45 mm kx n' (wI f k) (wV f k) (iN k) (encC I E L pr ot (encR J B1 M rdv ru T))) (fun kx B1 => kx (wI f 4) (wV f 4) (encC I E L pr ot (encR J B1 M rdv ru T))) (fun k B1 => frRB B B1 ∧ B1 38 = B 38) 4
    (fun k B1 hk hi => by
      obtain ⟨j1, j2⟩ := hi
      obtain ⟨F, f1, f2⟩ := look138_M (I := I) (E := E) (L := L) (pr := pr) (ot := ot) (J := J) (B := B1) (M := M) (rdv := rdv) (ru := ru) (T := T) (mm := mm) (x := iN k) (i4 := wI f k) (i5 := wV f k) (i7 := 0)
      obtain ⟨F2, g1⟩ := look162_M (I := I) (E := E) (L := L) (pr := pr) (ot := ot) (J := J) (B := u1 B1 39 F) (M := M) (rdv := rdv) (ru := ru) (T := T) (mm := mm) (h := k) (i4 := wI f k) (i5 := wV f k) (V := lkV A pu G p n k) hG h8 hk
        (fun g hg hgb => by
          show B1 38 (4 * g + k) = _
          rw [j2, ht g hg hgb k hk]
          exact ((hOK g).hu (p := p) (h := k) (by omega) hk).1)
        (fun g => by have := ((hOK g).hu (p := p) (h := k) (by omega) hk).2; show huN _ _ _ < 10; omega)
        (fun i hi => by rw [u1_eq, if_pos rfl]; exact f2 i hi)
      rw [hr k hk, u1_u1] at g1
      refine ⟨u1 B1 39 F2, ⟨j1.trans (frRB.w (by decide)), j2⟩, fun kx n' => ?_⟩
      show fX12_looks_L126 45 mm kx (n' + 1) (wI f k) (wV f k) (iN k) (encC I E L pr ot (encR J B1 M rdv ru T)) = _
      rw [fX12_looks_L126, if_neg (show ¬ (4 : Int32) ≤ iN k by rw [show (4 : Int32) = iN 4 from rfl, iN_le (by omega) (by omega)]; omega)]
      refine (f1 _).trans ((g1 _).trans ?_)
      have l1 := hlo k
      have e9 : iN k + (1 : Int32) = iN (k + 1) := iN_add
      unfold fX12_looks_J252_126
      cases k with
      | zero =>
        rw [if_pos (show iN (f 0) < wV f 0 by show iN (f 0) < iN 1000000; rw [iN_lt (by omega) (by omega)]; omega), letE_eq, e9]
        rfl
      | succ j =>
        have hml := miH_le (f := f) j
        have l2 := hlo (miH f j)
        have em : miH f (j + 1) = if f (j + 1) < f (miH f j) then j + 1 else miH f j := rfl
        have w1 : wI f (j + 1 + 1) = iN (miH f (j + 1)) := rfl
        have w2 : wV f (j + 1 + 1) = iN (f (miH f (j + 1))) := rfl
        have w3 : wI f (j + 1) = iN (miH f j) := rfl
        have w4 : wV f (j + 1) = iN (f (miH f j)) := rfl
        rw [w1, w2, w3, w4, em]
        by_cases hl : f (j + 1) < f (miH f j)
        · rw [if_pos (show iN (f (j + 1)) < iN (f (miH f j)) by rw [iN_lt (by omega) (by omega)]; exact hl), if_pos hl, letE_eq, e9]
        · rw [if_neg (show ¬ iN (f (j + 1)) < iN (f (miH f j)) by rw [iN_lt (by omega) (by omega)]; exact hl), if_neg hl, letE_eq, e9])
    (fun B1 hi kx n' => by
      show fX12_looks_L126 45 mm kx (n' + 1) (wI f 4) (wV f 4) (iN 4) (encC I E L pr ot (encR J B1 M rdv ru T)) = _
      rw [fX12_looks_L126, if_pos (show (4 : Int32) ≤ iN 4 by decide)]) 4 0 B (by omega) ⟨frRB.refl, rfl⟩
  obtain ⟨B2, ⟨k1, -⟩, k2⟩ := key
  exact ⟨B2, fun kx => k2 kx FU (by unfold FU; omega), k1⟩
end LQ
