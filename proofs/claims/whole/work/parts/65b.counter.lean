/-! CALLS: counter (2) -/
theorem upd_if {f : Nat → Int32} {k j : Nat} {v : Int32} : upd f k v j = if j = k then v else f j := rfl
section CT
variable {I A E I' A' : Nat → Nat → Int32} {L L' : Nat → Int64} {pr ot s : Nat} {J J' : Nat → Int32} {B B' : Nat → Nat → Int32} {M M' : Nat → Int64} {rdv rdv' : Value} {ru : Nat} {T : PH} {G P W p q g n nr sz ro oa w t k v d a b N : Nat} {Z Z' R X : Nat → Int32} {x y z i2 m : Int32} {out : Nat → Int64} {pu : (Nat → Int32) → Int32} {h : PH}
def pB (b : Bool) : Int32 := if b then iN 1 else iN 0
theorem c_wins18 : ∀ (f a b i n : Nat) (par : Bool), b ≤ a → a + b < f → a < 100 → i + (a + b) < 900 → f < n →
    fX11_winsAt_L18 (fun x3 x4 h5 => if x3 ≤ 0 then (if x4 = 0 then (h_z (1 : Int32) (some ((1 : Int32), h5))) else (h_z (0 : Int32) (some ((0 : Int32), h5)))) else (h_z x4 (some (x4, h5)))) n (iN a) (iN b) (pB par) (iN i) h = some (pB (euW f a b == par), h)
  | 0, _, _, _, _, _, _, hf, _, _, _ => absurd hf (Nat.not_lt_zero _)
  | f + 1, a, b, i, n, par, hb, hf, ha, hi, hn => by
    obtain ⟨m, rfl⟩ : ∃ m, n = m + 1 := ⟨n - 1, by omega⟩
    have e1 : ¬ (1000 : Int32) ≤ iN i := by rw [show (1000 : Int32) = iN 1000 from rfl, iN_le (by omega) (by omega)]; omega
    unfold fX11_winsAt_L18 euW
    rw [if_neg e1]
    by_cases h0 : b = 0
    · subst h0
      rw [if_pos (show iN 0 ≤ (0 : Int32) by decide), if_pos rfl, if_pos (show iN 0 ≤ (0 : Int32) by decide)]
      cases par
      · rw [if_pos (show pB false = 0 from rfl), h_z1]; rfl
      · rw [if_neg (show ¬ pB true = 0 by decide), h_z0]; rfl
    · have e2 : ¬ iN b ≤ (0 : Int32) := by rw [show (0 : Int32) = iN 0 from rfl, iN_le (by omega) (by omega)]; omega
      have e3 : ((2 : Int32) * iN b ≤ iN a) = (2 * b ≤ a) := by rw [show (2 : Int32) = iN 2 from rfl, iN_mul, iN_le (by omega) (by omega)]
      rw [if_neg e2, if_neg h0]
      by_cases h2 : 2 * b ≤ a
      · rw [if_pos (by rw [e3]; exact h2), if_pos h2, if_neg e2]
        cases par
        · show h_z (0 : Int32) _ = _
          rw [h_z0]; rfl
        · show h_z (1 : Int32) _ = _
          rw [h_z1]; rfl
      · rw [if_neg (by rw [e3]; exact h2), if_neg h2, letE_eq, iN_sub hb]
        unfold fX11_winsAt_J57_18
        rw [letE_eq, show iN i + (1 : Int32) = iN (i + 1) from iN_add]
        cases par
        · rw [if_pos (show pB false = 0 from rfl)]
          have := c_wins18 f b (a - b) (i + 1) m true (by omega) (by omega) (by omega) (by omega) (by omega)
          refine this.trans ?_
          cases euW f b (a - b) <;> rfl
        · rw [if_neg (show ¬ pB true = 0 by decide)]
          have := c_wins18 f b (a - b) (i + 1) m false (by omega) (by omega) (by omega) (by omega) (by omega)
          refine this.trans ?_
          cases euW f b (a - b) <;> rfl
theorem mx_i (ha : a < 100) (hb : b < 100) : (if iN a < iN b then iN b else iN a) = iN (mxN a b) := by
  unfold mxN
  by_cases h : a < b
  · rw [if_pos (by rw [iN_lt (by omega) (by omega)]; exact h), if_pos h]
  · rw [if_neg (by rw [iN_lt (by omega) (by omega)]; exact h), if_neg h]
theorem mi_i (ha : a < 100) (hb : b < 100) : (if iN b < iN a then iN b else iN a) = iN (miN a b) := by
  unfold miN
  by_cases h : b < a
  · rw [if_pos (by rw [iN_lt (by omega) (by omega)]; exact h), if_pos h]
  · rw [if_neg (by rw [iN_lt (by omega) (by omega)]; exact h), if_neg h]
theorem mxmi (ha : a < 100) (hb : b < 100) : miN a b ≤ mxN a b ∧ mxN a b < 100 ∧ miN a b + mxN a b = a + b := by
  unfold mxN miN
  split <;> split <;> omega
theorem mx_pos (ha : 0 < a) (hb : 0 < b) : 0 < miN a b ∧ 0 < mxN a b := by
  unfold mxN miN
  split <;> split <;> omega
theorem wS_s (ha : a < 100) (hb : b < 100) : wS (mxN a b) (miN a b) = wS a b := by
  have h := mxmi ha hb
  unfold wS
  have e1 : mxN (mxN a b) (miN a b) = mxN a b := by
    generalize mxN a b = u at h ⊢; generalize miN a b = v at h ⊢
    unfold mxN; split <;> omega
  have e2 : miN (mxN a b) (miN a b) = miN a b := by
    generalize mxN a b = u at h ⊢; generalize miN a b = v at h ⊢
    unfold miN; split <;> omega
  rw [e1, e2]
theorem c_wins (ha : a < 100) (hb : b < 100) : fX11_winsAt (iN a) (iN b) h = some (pB (wS a b), h) := by
  have hm := mxmi ha hb
  unfold fX11_winsAt
  rw [letE_eq, letE_eq, mx_i ha hb, mi_i ha hb]
  have key := c_wins18 (h := h) 400 (mxN a b) (miN a b) 0 FU true hm.1 (by omega) hm.2.1 (by omega) (by unfold FU; omega)
  refine key.trans ?_
  unfold wS
  cases euW 400 (mxN a b) (miN a b) <;> rfl
theorem r_times (ha : a < 100) (hb : 0 < b) (hba : b ≤ a) (ht : tbK (B 45) a) {kx : PH → Option (Int32 × PH)} : fX12_timesBy_L16 45 (iN b) (iN a) kx FU (iN 1) (encC I E L pr ot (encR J B M rdv ru T)) = match tmO a b with | some j => some (iN j, (encC I E L pr ot (encR J B M rdv ru T))) | none => kx (encC I E L pr ot (encR J B M rdv ru T)) := by
  have hN : a / b + 1 < 102 := by have := Nat.div_le_self a b; omega
  have hq : ∀ k, k < a / b + 1 → k * b ≤ a := fun k hk => Nat.le_trans (Nat.mul_le_mul_right b (show k ≤ a / b by omega)) (Nat.div_mul_le_self a b)
  have hqn : a < (a / b + 1) * b := by
    have := Nat.lt_div_mul_add hb (a := a)
    rw [Nat.add_mul, Nat.one_mul]; exact this
  have hl2 : (a / b + 1) * b ≤ a + b := by rw [Nat.add_mul, Nat.one_mul]; have := Nat.div_mul_le_self a b; omega
  have key := lp_find (fun n k (_ : Unit) => fX12_timesBy_L16 45 (iN b) (iN a) kx n (iN k) (encC I E L pr ot (encR J B M rdv ru T))) (fun _ => kx (encC I E L pr ot (encR J B M rdv ru T))) (fun k _ => 0 < k) (fun q => !wS (a - q * b) b) (fun k z => z = some (iN k, (encC I E L pr ot (encR J B M rdv ru T)))) (a / b + 1)
    (fun k _ hk h0 hc => by
      refine ⟨_, rfl, fun n => ?_⟩
      have hkb := hq k hk
      have hk1 : 1 * b ≤ k * b := Nat.mul_le_mul_right b h0
      have hra : a - k * b < a := by omega
      have hrb : b + (a - k * b) ≤ a := by omega
      show fX12_timesBy_L16 45 (iN b) (iN a) kx (n + 1) (iN k) (encC I E L pr ot (encR J B M rdv ru T)) = _
      rw [fX12_timesBy_L16, iN_mul, if_neg (show ¬ iN a < iN (k * b) by rw [iN_lt (by omega) (by omega)]; omega), letE_eq, iN_sub hkb]
      generalize a - k * b = r at hc hra hrb ⊢
      by_cases hr : r = 0
      · subst hr
        rw [if_pos (show iN 0 = (0 : Int32) from rfl)]
      · rw [if_neg (show ¬ iN r = (0 : Int32) by rw [show (0 : Int32) = iN 0 from rfl, iN_eq (by omega) (by omega)]; exact hr)]
        have hw : wS r b = false := by cases h : wS r b <;> rw [h] at hc <;> simp at hc ⊢
        rw [brR_45, mx_i (by omega) (by omega), mi_i (by omega) (by omega)]
        have hm := mxmi (a := r) (b := b) (by omega) (by omega)
        have hp := mx_pos (a := r) (b := b) (by omega) hb
        have hv := ht (mxN r b) (miN r b) (by unfold mxN; split <;> omega) hp.1 hm.1
        have h0' := tN_0 (a := mxN r b) (b := miN r b) hm.2.1 hm.1 hp.1
        rw [wS_s (by omega) (by omega)] at h0'
        have hl := tN_le (a := mxN r b) (b := miN r b) hm.2.1
        generalize mxN r b = u at *
        generalize miN r b = v at *
        have hi : ((100 : Int32) * iN u + iN v) = iN (100 * u + v) := by rw [show (100 : Int32) = iN 100 from rfl, iN_mul, iN_add]
        rw [hi, brA_45 (by rw [show (0 : Int32) = iN 0 from rfl, iN_lt (by omega) (by omega), iN_nat (by omega)]; omega), iN_nat (by omega), hv]
        rw [if_pos (show iN (tN u v) = (0 : Int32) from by rw [show tN u v = 0 from by rw [h0']; exact hw]; rfl)])
    (fun k _ hk h0 hc => by
      refine ⟨(), by omega, fun n => ?_⟩
      have hkb := hq k hk
      have hk1 : 1 * b ≤ k * b := Nat.mul_le_mul_right b h0
      have hra : a - k * b < a := by omega
      have hrb : b + (a - k * b) ≤ a := by omega
      show fX12_timesBy_L16 45 (iN b) (iN a) kx (n + 1) (iN k) (encC I E L pr ot (encR J B M rdv ru T)) = _
      rw [fX12_timesBy_L16, iN_mul, if_neg (show ¬ iN a < iN (k * b) by rw [iN_lt (by omega) (by omega)]; omega), letE_eq, iN_sub hkb]
      generalize a - k * b = r at hc hra hrb ⊢
      have hw : wS r b = true := by cases h : wS r b <;> rw [h] at hc <;> simp at hc ⊢
      have hr : ¬ r = 0 := fun e => by
        subst e
        have : wS 0 b = false := by
          unfold wS miN mxN
          rw [if_pos hb, if_neg (by omega)]
          unfold euW
          rw [if_pos rfl]
        rw [this] at hw; cases hw
      rw [if_neg (show ¬ iN r = (0 : Int32) by rw [show (0 : Int32) = iN 0 from rfl, iN_eq (by omega) (by omega)]; exact hr)]
      rw [brR_45, mx_i (by omega) (by omega), mi_i (by omega) (by omega)]
      have hm := mxmi (a := r) (b := b) (by omega) (by omega)
      have hp := mx_pos (a := r) (b := b) (by omega) hb
      have hv := ht (mxN r b) (miN r b) (by unfold mxN; split <;> omega) hp.1 hm.1
      have h0' := tN_0 (a := mxN r b) (b := miN r b) hm.2.1 hm.1 hp.1
      rw [wS_s (by omega) (by omega)] at h0'
      have hl := tN_le (a := mxN r b) (b := miN r b) hm.2.1
      generalize mxN r b = u at *
      generalize miN r b = v at *
      have hi : ((100 : Int32) * iN u + iN v) = iN (100 * u + v) := by rw [show (100 : Int32) = iN 100 from rfl, iN_mul, iN_add]
      rw [hi, brA_45 (by rw [show (0 : Int32) = iN 0 from rfl, iN_lt (by omega) (by omega), iN_nat (by omega)]; omega), iN_nat (by omega), hv]
      rw [if_neg (show ¬ iN (tN u v) = (0 : Int32) from by rw [show (0 : Int32) = iN 0 from rfl, iN_eq (by omega) (by omega), h0', hw]; decide), letE_eq, show iN k + (1 : Int32) = iN (k + 1) from iN_add])
    (fun _ _ n => by
      show fX12_timesBy_L16 45 (iN b) (iN a) kx (n + 1) (iN (a / b + 1)) (encC I E L pr ot (encR J B M rdv ru T)) = _
      rw [fX12_timesBy_L16, iN_mul, if_pos (show iN a < iN ((a / b + 1) * b) by rw [iN_lt (by omega) (by omega)]; exact hqn)]) (a / b) 1 () (by omega) (by omega)
  unfold tmO
  cases hf : fnd (fun q => !wS (a - q * b) b) (a / b) 1 with
  | some j =>
    obtain ⟨z, k1, k2⟩ := key.1 j hf
    rw [k2 FU (by unfold FU; omega), k1]
  | none =>
    obtain ⟨_, _, k2⟩ := key.2 hf
    rw [k2 FU (by unfold FU; omega)]
theorem r_timesBy (ha : a < 100) (hb : b < 100) (ha0 : 0 < a) (hb0 : 0 < b) (ht : tbK (B 45) (mxN a b)) : fX12_timesBy 45 (iN a) (iN b) (encC I E L pr ot (encR J B M rdv ru T)) = some (iN (tN (mxN a b) (miN a b)), (encC I E L pr ot (encR J B M rdv ru T))) := by
  have hm := mxmi ha hb
  have hp := mx_pos ha0 hb0
  unfold fX12_timesBy
  rw [letE_eq, letE_eq, mx_i ha hb, mi_i ha hb]
  refine (r_times (B := B) (I := I) (E := E) (L := L) (pr := pr) (ot := ot) (M := M) (ru := ru) (T := T) (rdv := rdv) (J := J) hm.2.1 hp.1 hm.1 ht).trans ?_
  unfold tN
  cases tmO (mxN a b) (miN a b) <;> rfl
theorem r_tb52 (ha : a < 100) (ht : tbK (B 45) a) : ∃ X, (∀ kx : PH → Option (Int32 × PH), fX12_counter_L52 45 x y (iN a) kx FU (iN 1) (encC I E L pr ot (encR J B M rdv ru T)) = kx (encC I E L pr ot (encR J (u1 B 45 X) M rdv ru T))) ∧ tbK X (a + 1) := by
  have key := lp_k (fun (kx : PH → Option (Int32 × PH)) n k (X : Nat → Int32) => fX12_counter_L52 45 x y (iN a) kx n (iN (k + 1)) (encC I E L pr ot (encR J (u1 B 45 X) M rdv ru T))) (fun kx X => kx (encC I E L pr ot (encR J (u1 B 45 X) M rdv ru T))) (fun k X => tbK X a ∧ ∀ v, 0 < v → v ≤ k → X (100 * a + v) = iN (tN a v)) a
    (fun k X hk hi => by
      have e1 : mxN a (k + 1) = a := by unfold mxN; split <;> omega
      have e2 : miN a (k + 1) = k + 1 := by unfold miN; split <;> omega
      have ht' : tbK ((u1 B 45 X) 45) (mxN a (k + 1)) := by rw [e1, u1_eq, if_pos rfl]; exact hi.1
      have f1 := r_timesBy (I := I) (E := E) (L := L) (pr := pr) (ot := ot) (J := J) (M := M) (rdv := rdv) (ru := ru) (T := T) (B := u1 B 45 X) (a := a) (b := k + 1) ha (by omega) (by omega) (by omega) ht'
      rw [e1, e2] at f1
      refine ⟨upd X (100 * a + (k + 1)) (iN (tN a (k + 1))), ⟨fun u v h1 h2 h3 => ?_, fun v h1 h2 => ?_⟩, fun kx n => ?_⟩
      · rw [upd_if, if_neg (by omega)]; exact hi.1 u v h1 h2 h3
      · rw [upd_if]
        by_cases hv : v = k + 1
        · subst hv; rw [if_pos rfl]
        · rw [if_neg (by omega)]; exact hi.2 v h1 (by omega)
      · have hix : ((100 : Int32) * iN a + iN (k + 1)) = iN (100 * a + (k + 1)) := by rw [show (100 : Int32) = iN 100 from rfl, iN_mul, iN_add]
        show fX12_counter_L52 45 x y (iN a) kx (n + 1) (iN (k + 1)) (encC I E L pr ot (encR J (u1 B 45 X) M rdv ru T)) = _
        rw [fX12_counter_L52, if_neg (show ¬ iN a < iN (k + 1) by rw [iN_lt (by omega) (by omega)]; omega), brR_45, brK, hb_of f1, hix, brS_45 (by rw [show (0 : Int32) = iN 0 from rfl, iN_lt (by omega) (by omega), iN_nat (by omega)]; omega), iN_nat (by omega), letE_eq, show iN (k + 1) + (1 : Int32) = iN (k + 1 + 1) from iN_add, u1_u1, u1_eq, if_pos rfl])
    (fun X hi kx n => by
      show fX12_counter_L52 45 x y (iN a) kx (n + 1) (iN (a + 1)) (encC I E L pr ot (encR J (u1 B 45 X) M rdv ru T)) = _
      rw [fX12_counter_L52, if_pos (show iN a < iN (a + 1) by rw [iN_lt (by omega) (by omega)]; omega)]) a 0 (B 45) (by omega) ⟨ht, fun v h1 h2 => absurd h1 (by omega)⟩
  obtain ⟨X, k1, k2⟩ := key
  refine ⟨X, fun kx => ?_, fun u v h1 h2 h3 => ?_⟩
  · rw [← k2 kx FU (by unfold FU; omega), u1_self]
  · by_cases hu : u = a
    · subst hu; exact k1.2 v h2 h3
    · exact k1.1 u v (by omega) h2 h3
theorem r_tb40 (hN : N < 100) (hNe : (if x < y then y else x) = iN N) : ∃ X, (∀ kx : PH → Option (Int32 × PH), fX12_counter_L40 45 x y kx FU (iN 1) (encC I E L pr ot (encR J B M rdv ru T)) = kx (encC I E L pr ot (encR J (u1 B 45 X) M rdv ru T))) ∧ tbK X (N + 1) := by
  have key := lp_k (fun (kx : PH → Option (Int32 × PH)) n k (X : Nat → Int32) => fX12_counter_L40 45 x y kx n (iN (k + 1)) (encC I E L pr ot (encR J (u1 B 45 X) M rdv ru T))) (fun kx X => kx (encC I E L pr ot (encR J (u1 B 45 X) M rdv ru T))) (fun k X => tbK X (k + 1)) N
    (fun k X hk hi => by
      obtain ⟨Y, f1, f2⟩ := r_tb52 (I := I) (E := E) (L := L) (pr := pr) (ot := ot) (J := J) (M := M) (rdv := rdv) (ru := ru) (T := T) (B := u1 B 45 X) (a := k + 1) (x := x) (y := y) (by omega) (by rw [u1_eq, if_pos rfl]; exact hi)
      refine ⟨Y, f2, fun kx n => ?_⟩
      show fX12_counter_L40 45 x y kx (n + 1) (iN (k + 1)) (encC I E L pr ot (encR J (u1 B 45 X) M rdv ru T)) = _
      rw [fX12_counter_L40, hNe, if_neg (show ¬ iN N < iN (k + 1) by rw [iN_lt (by omega) (by omega)]; omega)]
      refine (f1 _).trans ?_
      rw [letE_eq, show iN (k + 1) + (1 : Int32) = iN (k + 1 + 1) from iN_add, u1_u1])
    (fun X hi kx n => by
      show fX12_counter_L40 45 x y kx (n + 1) (iN (N + 1)) (encC I E L pr ot (encR J (u1 B 45 X) M rdv ru T)) = _
      rw [fX12_counter_L40, hNe, if_pos (show iN N < iN (N + 1) by rw [iN_lt (by omega) (by omega)]; omega)]) N 0 (B 45) (by omega) (fun u v h1 h2 h3 => absurd h1 (by omega))
  obtain ⟨X, k1, k2⟩ := key
  exact ⟨X, fun kx => by rw [← k2 kx FU (by unfold FU; omega), u1_self], k1⟩
theorem c_count56 (ha : a < 100) (hb : 0 < b) (hba : b ≤ a) : fX11_counter_L56 0 (iN a) (iN b) (fun h9 => some ((0 : Int32), h9)) FU (1 : Int32) (encC (u2 I 9 1 (iN 0)) A L pr ot T) = match tmO a b with | some j => some (1, (encC (u2 I 9 1 (iN 1)) A (vp_updL L 0 (iN j).toInt64) pr ot T)) | none => some (0, (encC (u2 I 9 1 (iN 0)) A L pr ot T)) := by
  have hq : ∀ k, k < a / b + 1 → k * b ≤ a := fun k hk => Nat.le_trans (Nat.mul_le_mul_right b (show k ≤ a / b by omega)) (Nat.div_mul_le_self a b)
  have hN : a / b + 1 < 102 := by have := Nat.div_le_self a b; omega
  have hqn : a < (a / b + 1) * b := by
    have := Nat.lt_div_mul_add hb (a := a)
    rw [Nat.add_mul, Nat.one_mul]; exact this
  have hl2 : (a / b + 1) * b ≤ a + b := by rw [Nat.add_mul, Nat.one_mul]; have := Nat.div_mul_le_self a b; omega
  have key := lp_find (fun n k (_ : Unit) => fX11_counter_L56 0 (iN a) (iN b) (fun h9 => some ((0 : Int32), h9)) n (iN k) (encC (u2 I 9 1 (iN 0)) A L pr ot T)) (fun _ => some (0, (encC (u2 I 9 1 (iN 0)) A L pr ot T))) (fun k _ => 0 < k) (fun q => !wS (a - q * b) b) (fun k z => z = some (1, (encC (u2 I 9 1 (iN 1)) A (vp_updL L 0 (iN k).toInt64) pr ot T))) (a / b + 1)
    (fun k _ hk h0 hc => by
      refine ⟨_, rfl, fun n => ?_⟩
      have hkb := hq k hk
      have f1 := c_wins (a := a - k * b) (b := b) (h := (encC (u2 I 9 1 (iN 0)) A L pr ot T)) (by omega) (by omega)
      have hw : wS (a - k * b) b = false := by cases h : wS (a - k * b) b <;> rw [h] at hc <;> simp at hc ⊢
      rw [hw] at f1
      have a1 := c_add (I := I) (A := A) (L := L) (pr := pr) (ot := ot) (T := T) (v := (iN k).toInt64) (n := 0) (by decide)
      show fX11_counter_L56 0 (iN a) (iN b) (fun h9 => some ((0 : Int32), h9)) (n + 1) (iN k) (encC (u2 I 9 1 (iN 0)) A L pr ot T) = _
      rw [fX11_counter_L56, iN_mul, if_neg (show ¬ iN a < iN (k * b) by rw [iN_lt (by omega) (by omega)]; omega), iN_sub hkb, hb_of f1, if_pos (show pB false = 0 from rfl), bR_0_6, bK_9, hb_of a1])
    (fun k _ hk h0 hc => by
      refine ⟨(), by omega, fun n => ?_⟩
      have hkb := hq k hk
      have f1 := c_wins (a := a - k * b) (b := b) (h := (encC (u2 I 9 1 (iN 0)) A L pr ot T)) (by omega) (by omega)
      have hw : wS (a - k * b) b = true := by cases h : wS (a - k * b) b <;> rw [h] at hc <;> simp at hc ⊢
      rw [hw] at f1
      show fX11_counter_L56 0 (iN a) (iN b) (fun h9 => some ((0 : Int32), h9)) (n + 1) (iN k) (encC (u2 I 9 1 (iN 0)) A L pr ot T) = _
      rw [fX11_counter_L56, iN_mul, if_neg (show ¬ iN a < iN (k * b) by rw [iN_lt (by omega) (by omega)]; omega), iN_sub hkb, hb_of f1, if_neg (show ¬ pB true = 0 by decide), letE_eq, show iN k + (1 : Int32) = iN (k + 1) from iN_add])
    (fun _ _ n => by
      show fX11_counter_L56 0 (iN a) (iN b) (fun h9 => some ((0 : Int32), h9)) (n + 1) (iN (a / b + 1)) (encC (u2 I 9 1 (iN 0)) A L pr ot T) = _
      rw [fX11_counter_L56, iN_mul, if_pos (show iN a < iN ((a / b + 1) * b) by rw [iN_lt (by omega) (by omega)]; exact hqn)]) (a / b) 1 () (by omega) (by omega)
  unfold tmO
  cases hf : fnd (fun q => !wS (a - q * b) b) (a / b) 1 with
  | some j =>
    obtain ⟨z, k1, k2⟩ := key.1 j hf
    refine (k2 FU (by unfold FU; omega)).trans ?_
    rw [k1]
  | none =>
    obtain ⟨_, _, k2⟩ := key.2 hf
    exact k2 FU (by unfold FU; omega)
end CT
