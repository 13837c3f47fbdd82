/-! CALLS: looks (2) -/
def huN (Z : Nat → Int32) (p h : Nat) : Nat := (Z (8 + p * 4 + h)).toNatClampNeg
theorem OK.hu {G P : Nat} {Z : Nat → Int32} {p h : Nat} (hz : OK G P Z) (hp : p < 6) (hh : h < 4) : Z (8 + p * 4 + h) = iN (huN Z p h) ∧ huN Z p h ≤ 9 := by
  have hk := hz.2.2.1 p hp h hh
  obtain ⟨k, h1, h2⟩ := iN_of' (n := 9) hk.1 hk.2 (by decide)
  have e : huN Z p h = k := by
    unfold huN
    rw [h2, iN_nat (by omega)]
  rw [e]
  exact ⟨h2, h1⟩
def lkZ (A : Nat → Nat → Int32) (pu : (Nat → Int32) → Int32) (G p n g : Nat) : Nat → Int32 := psZ A pu G p (ldF (A 28) p ((1 : Int32) <<< (iN g &&& 31)) G) n
def lkV (A : Nat → Nat → Int32) (pu : (Nat → Int32) → Int32) (G p n h g : Nat) : Nat := huN (lkZ A pu G p n g) p h
section LL
variable {I A E I' A' : Nat → Nat → Int32} {L L' : Nat → Int64} {pr ot s : Nat} {J J' : Nat → Int32} {B B' : Nat → Nat → Int32} {M M' : Nat → Int64} {rdv rdv' : Value} {ru : Nat} {T : PH} {G P W p q g n nr sz ro oa w t k N d m : Nat} {Z Z' R X a : Nat → Int32} {x y z i2 acc mm : Int32} {out : Nat → Int64} {pu : (Nat → Int32) → Int32}
theorem tal_C (e4 : A' 32 = Z) (hz : OK G P Z) (hp : p < 6) : ∃ F, fX4_tallyHumours 35 (iN p) (encC I A' L pr ot T) = some ((), (encC I (u1 A' 39 F) L pr ot T)) ∧ ∀ h v, h < 4 → v < 10 → F (h * 10 + v) = if v = huN Z p h then A' 39 (h * 10 + v) + 1 else A' 39 (h * 10 + v) := by
  have key := lp_k (fun (_ : Unit) n k (F : Nat → Int32) => fX4_tallyHumours_L2 35 (iN p) (fun h1 => some ((), h1)) n (iN k) (encC I (u1 A' 39 F) L pr ot T)) (fun _ F => some ((), (encC I (u1 A' 39 F) L pr ot T))) (fun k F => ∀ h v, h < 4 → v < 10 → F (h * 10 + v) = if h < k ∧ v = huN Z p h then A' 39 (h * 10 + v) + 1 else A' 39 (h * 10 + v)) 4
    (fun k F hk hi => by
      obtain ⟨hv, hv9⟩ := hz.hu (p := p) (h := k) hp hk
      have f1 := c_humourOf (I := I) (A := u1 A' 39 F) (L := L) (pr := pr) (ot := ot) (T := T) (o := 31) (p := p) (k := k) (Or.inr rfl) hp hk
      rw [show (u1 A' 39 F) (31 + 1) = Z from e4, hv] at f1
      have f0 := hi k (huN Z p k) hk (by omega)
      rw [if_neg (by omega)] at f0
      obtain ⟨vv, hvv⟩ : ∃ vv, vv = huN Z p k := ⟨_, rfl⟩
      rw [← hvv] at hv hv9 f1 f0
      have f0' : F (k * 10 + vv) = A' 39 (k * 10 + vv) := f0
      have f2 : fX11_clamp (iN vv) (0 : Int32) (9 : Int32) (encC I (u1 A' 39 F) L pr ot T) = some (iN vv, (encC I (u1 A' 39 F) L pr ot T)) := by
        rw [c_clamp, if_pos (show (0 : Int32) ≤ iN vv by rw [show (0 : Int32) = iN 0 from rfl, iN_le (by omega) (by omega)]; omega), if_pos (show iN vv ≤ (9 : Int32) by rw [show (9 : Int32) = iN 9 from rfl, iN_le (by omega) (by omega)]; omega)]
      refine ⟨upd F (k * 10 + vv) (F (k * 10 + vv) + 1), fun h v hh hv' => ?_, fun _ n => ?_⟩
      · rw [upd_if]
        by_cases e : h = k
        · subst e
          by_cases ev : v = vv
          · rw [ev, if_pos rfl, if_pos ⟨by omega, hvv⟩, f0']
          · rw [if_neg (by omega), hi h v hh hv', if_neg (by omega), if_neg (fun c => ev (c.2.trans hvv.symm))]
        · rw [if_neg (by omega), hi h v hh hv']
          by_cases e2 : h < k ∧ v = huN Z p h
          · rw [if_pos e2, if_pos ⟨by omega, e2.2⟩]
          · rw [if_neg e2, if_neg (fun c => e2 ⟨by omega, c.2⟩)]
      · show fX4_tallyHumours_L2 35 (iN p) (fun h1 => some ((), h1)) (n + 1) (iN k) (encC I (u1 A' 39 F) L pr ot T) = _
        rw [fX4_tallyHumours_L2, if_neg (show ¬ (4 : Int32) ≤ iN k by rw [show (4 : Int32) = iN 4 from rfl, iN_le (by omega) (by omega)]; omega), bR_35_7, bR_35_2, bK_31, hb_of f1, hb_of f2, letE_eq, show iN k * (10 : Int32) = iN (k * 10) from iN_mul, iN_add, bA_39 (by rw [show (0 : Int32) = iN 0 from rfl, iN_lt (by omega) (by omega), iN_nat (by omega)]; omega), bS_39 (by rw [show (0 : Int32) = iN 0 from rfl, iN_lt (by omega) (by omega), iN_nat (by omega)]; omega), iN_nat (by omega), letE_eq, show iN k + (1 : Int32) = iN (k + 1) from iN_add, u1_u1, u1_eq, if_pos rfl])
    (fun F hi _ n => by
      show fX4_tallyHumours_L2 35 (iN p) (fun h1 => some ((), h1)) (n + 1) (iN 4) (encC I (u1 A' 39 F) L pr ot T) = _
      rw [fX4_tallyHumours_L2, if_pos (show (4 : Int32) ≤ iN 4 by decide)]) 4 0 (A' 39) (by omega) (fun h v _ _ => by rw [if_neg (by omega)])
  obtain ⟨F, k1, k2⟩ := key
  refine ⟨F, ?_, fun h v hh hv => ?_⟩
  · have k3 := k2 () FU (by unfold FU; omega)
    rw [u1_self] at k3
    exact k3
  · rw [k1 h v hh hv]
    by_cases e : v = huN Z p h
    · rw [if_pos ⟨hh, e⟩, if_pos e]
    · rw [if_neg (fun c => e c.2), if_neg e]
theorem most_C {f : Nat → Nat} {h : Nat} (hh : h < 4) (hf : ∀ v, v < 10 → A' 39 (h * 10 + v) = iN (f v)) (hb : ∀ v, v < 10 → f v ≤ 100) : fX4_mostLeft 35 (iN h) (encC I A' L pr ot T) = some (iN (mM f 10), (encC I A' L pr ot T)) := by
  have key := lp_det (fun n k (q : Int32) => fX4_mostLeft_L4 35 (iN h) (fun x1 h2 => some (x1, h2)) n q (iN k) (encC I A' L pr ot T)) (fun q => some (q, (encC I A' L pr ot T))) (fun k => iN (mM f k)) 10
    (fun k hk n => by
      have h1 := hf k hk
      have h2 := hb k hk
      have h3 : mM f k ≤ 100 := mM_le (fun j hj => hb j (by omega))
      have e1 : mM f (k + 1) = if mM f k < f k then f k else mM f k := rfl
      rw [e1]
      show fX4_mostLeft_L4 35 (iN h) (fun x1 h2 => some (x1, h2)) (n + 1) (iN (mM f k)) (iN k) (encC I A' L pr ot T) = _
      rw [fX4_mostLeft_L4, if_neg (show ¬ (9 : Int32) < iN k by rw [show (9 : Int32) = iN 9 from rfl, iN_lt (by omega) (by omega)]; omega), bR_35_7, show iN h * (10 : Int32) = iN (h * 10) from iN_mul, iN_add, bA_39 (by rw [show (0 : Int32) = iN 0 from rfl, iN_lt (by omega) (by omega), iN_nat (by omega)]; omega), iN_nat (by omega), h1, letE_eq, letE_eq, show iN k + (1 : Int32) = iN (k + 1) from iN_add]
      by_cases hl : mM f k < f k
      · rw [if_pos hl, if_pos (by rw [iN_lt (by omega) (by omega)]; exact hl)]
      · rw [if_neg hl, if_neg (by rw [iN_lt (by omega) (by omega)]; exact hl)])
    (fun n => by
      show fX4_mostLeft_L4 35 (iN h) (fun x1 h2 => some (x1, h2)) (n + 1) (iN (mM f 10)) (iN 10) (encC I A' L pr ot T) = _
      rw [fX4_mostLeft_L4, if_pos (show (9 : Int32) < iN 10 by decide)]) FU (by unfold FU; omega)
  exact key
end LL
