/-! CALLS: right -/
def orN : Nat → Nat
  | 0 => 1
  | n + 1 => (n + 1) * orN n
def chN (d : Nat) : Nat → Nat
  | 0 => 1
  | k + 1 => chN d k * (d + (k + 1)) / (k + 1)
def asL : Nat → Int64
  | 0 => 1
  | k + 1 => asL k * qN (k + 1) + (if (k + 1) % 2 = 0 then (1 : Int32) else -1).toInt64
def deN : Nat → Nat
  | 0 => 1
  | 1 => 0
  | n + 2 => (n + 1) * (deN (n + 1) + deN n)
theorem right_fin : ∀ d k : Fin 9, d.val + k.val ≤ 8 → qN (chN d.val k.val) * asL d.val = qN (chN d.val k.val * deN d.val) ∧ chN d.val k.val * deN d.val ≤ 100000 ∧ chN d.val k.val ≤ 100000 ∧ orN (d.val + k.val) / orN k.val / orN d.val * deN d.val = chN d.val k.val * deN d.val := by decide +kernel
theorem orN_fin : ∀ n : Fin 9, 0 < orN n.val ∧ orN n.val ≤ 100000 := by decide +kernel
section RI
variable {I A E I' A' : Nat → Nat → Int32} {L L' : Nat → Int64} {pr ot s : Nat} {J J' : Nat → Int32} {B B' : Nat → Nat → Int32} {M M' : Nat → Int64} {rdv rdv' : Value} {ru : Nat} {T : PH} {G P W p q g n nr sz ro oa w t k v d : Nat} {Z Z' R X : Nat → Int32} {x y z i2 m : Int32} {out : Nat → Int64} {pu : (Nat → Int32) → Int32} {h : PH}
theorem r_ord : ∀ (n d : Nat), d < n → d ≤ 8 → rX12_orders n (iN d) h = some (qN (orN d), h)
  | 0, _, hd, _ => absurd hd (Nat.not_lt_zero _)
  | n + 1, 0, _, _ => by
    show fX12_orders (rX12_orders n) (iN 0) h = _
    unfold fX12_orders
    rw [if_pos (show iN 0 = (0 : Int32) from rfl)]; rfl
  | n + 1, d + 1, hd, h8 => by
    show fX12_orders (rX12_orders n) (iN (d + 1)) h = _
    unfold fX12_orders
    rw [if_neg (show ¬ iN (d + 1) = (0 : Int32) by rw [show (0 : Int32) = iN 0 from rfl, iN_eq (by omega) (by omega)]; omega), show iN (d + 1) - (1 : Int32) = iN d from iN_pred, hb_of (r_ord n d (by omega) (by omega)), iN_64 (by omega), qN_mul]
    rfl
theorem r_str : ∀ (n d : Nat), d < n → d ≤ 8 → rX12_strays n (iN d) h = some (qN (deN d), h)
  | 0, _, hd, _ => absurd hd (Nat.not_lt_zero _)
  | n + 1, 0, _, _ => by
    show fX12_strays (rX12_strays n) (iN 0) h = _
    unfold fX12_strays
    rw [if_pos (show iN 0 = (0 : Int32) from rfl)]; rfl
  | n + 1, 1, _, _ => by
    show fX12_strays (rX12_strays n) (iN 1) h = _
    unfold fX12_strays
    rw [if_neg (show ¬ iN 1 = (0 : Int32) by decide), if_pos (show iN 1 = (1 : Int32) from rfl)]; rfl
  | n + 1, d + 2, hd, h8 => by
    show fX12_strays (rX12_strays n) (iN (d + 2)) h = _
    unfold fX12_strays
    rw [if_neg (show ¬ iN (d + 2) = (0 : Int32) by rw [show (0 : Int32) = iN 0 from rfl, iN_eq (by omega) (by omega)]; omega), if_neg (show ¬ iN (d + 2) = (1 : Int32) by rw [show (1 : Int32) = iN 1 from rfl, iN_eq (by omega) (by omega)]; omega), show iN (d + 2) - (1 : Int32) = iN (d + 1) from iN_pred, show iN (d + 2) - (2 : Int32) = iN d from iN_sub (b := 2) (by omega), hb_of (r_str n (d + 1) (by omega) (by omega)), hb_of (r_str n d (by omega) (by omega)), iN_64 (by omega), qN_add, qN_mul]
    rfl
theorem c_ast (hd : d ≤ 8) : fX11_allAstray (iN d) h = some (asL d, h) := by
  have ev : ∀ k : Fin 10, (iN k.val - iN k.val / (2 : Int32) * (2 : Int32) = 0) = (k.val % 2 = 0) := by decide +kernel
  have key := lp_det (fun n j (q : Int64) => fX11_allAstray_L4 (iN d) (fun y1 h2 => some (y1, h2)) n q (iN (j + 1)) h) (fun q => some (q, h)) asL d
    (fun j hj n => by
      have e1 : asL (j + 1) = asL j * qN (j + 1) + (if (j + 1) % 2 = 0 then (1 : Int32) else -1).toInt64 := rfl
      show fX11_allAstray_L4 (iN d) (fun y1 h2 => some (y1, h2)) (n + 1) (asL j) (iN (j + 1)) h = _
      have hv := ev ⟨j + 1, by omega⟩
      dsimp only at hv
      rw [fX11_allAstray_L4, if_neg (show ¬ iN d < iN (j + 1) by rw [iN_lt (by omega) (by omega)]; omega), if_neg (show ¬ (2 : Int32) = 0 by decide), iN_64 (show j + 1 < 2147483648 by omega)]
      unfold fX11_allAstray_J24_4
      rw [e1]
      by_cases h2 : (j + 1) % 2 = 0
      · rw [if_pos (by rw [hv]; exact h2), if_pos h2, letE_eq, letE_eq, show iN (j + 1) + (1 : Int32) = iN (j + 1 + 1) from iN_add]
      · rw [if_neg (by rw [hv]; exact h2), if_neg h2, letE_eq, letE_eq, show iN (j + 1) + (1 : Int32) = iN (j + 1 + 1) from iN_add])
    (fun n => by
      show fX11_allAstray_L4 (iN d) (fun y1 h2 => some (y1, h2)) (n + 1) (asL d) (iN (d + 1)) h = _
      rw [fX11_allAstray_L4, if_pos (show iN d < iN (d + 1) by rw [iN_lt (by omega) (by omega)]; omega)]) FU (by unfold FU; omega)
  exact key
theorem c_r43 (hd : n ≤ 8) {l3 : Int64} (kx : Int64 → PH → Option (Int32 × PH)) : fX11_right_L43 0 (iN n) i2 l3 kx FU (1 : Int64) (1 : Int32) h = kx (qN (orN n)) h :=
  lp_det (fun f j (q : Int64) => fX11_right_L43 0 (iN n) i2 l3 kx f q (iN (j + 1)) h) (fun q => kx q h) (fun j => qN (orN j)) n
    (fun j hj f => by
      have e1 : qN (orN (j + 1)) = qN (orN j) * qN (j + 1) := by rw [qN_mul, Nat.mul_comm]; rfl
      show fX11_right_L43 0 (iN n) i2 l3 kx (f + 1) (qN (orN j)) (iN (j + 1)) h = _
      rw [fX11_right_L43, if_neg (show ¬ iN n < iN (j + 1) by rw [iN_lt (by omega) (by omega)]; omega), iN_64 (show j + 1 < 2147483648 by omega), letE_eq, letE_eq, ← e1, show iN (j + 1) + (1 : Int32) = iN (j + 1 + 1) from iN_add])
    (fun f => by
      show fX11_right_L43 0 (iN n) i2 l3 kx (f + 1) (qN (orN n)) (iN (n + 1)) h = _
      rw [fX11_right_L43, if_pos (show iN n < iN (n + 1) by rw [iN_lt (by omega) (by omega)]; omega)]) FU (by unfold FU; omega)
theorem c_r66 (hd : d + k ≤ 8) {l5 : Int64} (kx : Int64 → PH → Option (Int32 × PH)) : fX11_right_L66 0 (iN (d + k)) (iN k) l5 kx FU (1 : Int64) (1 : Int32) h = kx (qN (chN d k)) h :=
  lp_det (fun f j (q : Int64) => fX11_right_L66 0 (iN (d + k)) (iN k) l5 kx f q (iN (j + 1)) h) (fun q => kx q h) (fun j => qN (chN d j)) k
    (fun j hj f => by
      have hb := right_fin ⟨d, by omega⟩ ⟨j, by omega⟩ (by dsimp only; omega)
      dsimp only at hb
      have hm : chN d j * (d + (j + 1)) ≤ 100000 * 20 := Nat.mul_le_mul hb.2.2.1 (by omega)
      have e1 : qN (chN d (j + 1)) = qN (chN d j) * qN (d + (j + 1)) / qN (j + 1) := by
        rw [qN_mul, qN_div (by omega) (by omega)]; rfl
      show fX11_right_L66 0 (iN (d + k)) (iN k) l5 kx (f + 1) (qN (chN d j)) (iN (j + 1)) h = _
      rw [fX11_right_L66, if_neg (show ¬ iN k < iN (j + 1) by rw [iN_lt (by omega) (by omega)]; omega), iN_sub (show k ≤ d + k by omega), Nat.add_sub_cancel, iN_add, iN_64 (show j + 1 < 2147483648 by omega), iN_64 (show d + (j + 1) < 2147483648 by omega), if_neg (qN_ne (by omega) (by omega)), letE_eq, letE_eq, ← e1, show iN (j + 1) + (1 : Int32) = iN (j + 1 + 1) from iN_add])
    (fun f => by
      show fX11_right_L66 0 (iN (d + k)) (iN k) l5 kx (f + 1) (qN (chN d k)) (iN (k + 1)) h = _
      rw [fX11_right_L66, if_pos (show iN k < iN (k + 1) by rw [iN_lt (by omega) (by omega)]; omega)]) FU (by unfold FU; omega)
theorem p_right (h : INV s I A L pr ot J B M ru G P W) (x y : Int32) : pairG s I A L pr ot J B M rdv ru out (fX11_right 0 x y) (fX12_right 45 x y) := by
  have hI := h
  have bad : ¬ (iN 1 ≤ x ∧ x ≤ iN 8) → pairG s I A L pr ot J B M rdv ru out (fX11_right 0 x y) (fX12_right 45 x y) := fun hn => by
    refine pairG_q (ans := -1) hI (fun T => qC_no ?_) (qM_no (fun I E L pr ot T => ?_))
    · unfold fX11_right
      simp only [iN_lit]
      rw [hb_of (within_n hn), if_00]
    · unfold fX12_right
      simp only [iN_lit]
      rw [brW_13, hb_of (in_n hn), if_00]
  rcases arg_le 8 (by decide) x with ⟨n, hn, rfl⟩ | hx
  rotate_left
  · exact bad (fun c => hx ⟨Int32.le_trans (by decide) c.1, c.2⟩)
  by_cases hn0 : n = 0
  · subst hn0
    exact bad (by decide)
  have hn1 : 1 ≤ n := by omega
  rcases arg_le 8 (by decide) y with ⟨k, hk, rfl⟩ | hy
  rotate_left
  · refine pairG_q (ans := -1) hI (fun T => qC_no ?_) (qM_no (fun I E L pr ot T => ?_))
    · unfold fX11_right
      simp only [iN_lit]
      rw [hb_of (within_y hn1 hn (by decide)), if_10, hb_of (within_n (show ¬ (iN 0 ≤ y ∧ y ≤ iN 8) from hy)), if_00]
    · unfold fX12_right
      simp only [iN_lit]
      rw [brW_13, hb_of (in_y hn1 hn (by decide)), if_10, hb_of (in_n (show ¬ (iN 0 ≤ y ∧ y ≤ iN 8) from hy)), if_00]
  have h45 : (2 : Nat) ^ 45 = 35184372088832 := by decide
  have ho := orN_fin ⟨n, by omega⟩
  dsimp only at ho
  by_cases hkn : k ≤ n
  · obtain ⟨d, rfl⟩ : ∃ d, n = d + k := ⟨n - k, by omega⟩
    have hb := right_fin ⟨d, by omega⟩ ⟨k, by omega⟩ (by dsimp only; omega)
    dsimp only at hb
    obtain ⟨b1, b2, b3, b4⟩ := hb
    have ok := orN_fin ⟨k, by omega⟩
    have od := orN_fin ⟨d, by omega⟩
    dsimp only at ok od
    refine pairG_q (ans := 0) (rw := some (ptN (chN d k * deN d) (orN (d + k)))) hI (fun T => ?_) (fun I E L pr ot T => ?_)
    · have f5 := c_part (I := I) (A := A) (L := L) (pr := pr) (ot := ot) (T := T) (a := chN d k * deN d) (b := orN (d + k)) (by omega) (by omega) ho.1
      refine ⟨u2 I 9 1 (iN 2), A, vp_updL (vp_updL L 0 (qN (chN d k * deN d / Nat.gcd (orN (d + k)) (chN d k * deN d)))) 1 (qN (orN (d + k) / Nat.gcd (orN (d + k)) (chN d k * deN d))), ?_, frI.u, frQ.refl, by simp [ptN], row_2 rfl⟩
      unfold fX11_right
      rw [hb_of (show fX11_within (iN (d + k)) (1 : Int32) (8 : Int32) (encC I A L pr ot T) = some (1, (encC I A L pr ot T)) from within_y hn1 hn (by decide)), if_1z, hb_of (show fX11_within (iN k) (0 : Int32) (8 : Int32) (encC I A L pr ot T) = some (1, (encC I A L pr ot T)) from within_y (Nat.zero_le k) hk (by decide)), if_1z, if_pos (show iN k ≤ iN (d + k) by rw [iN_le (by omega) (by omega)]; omega), c_r43 hn, c_r66 hn, iN_sub (show k ≤ d + k by omega), Nat.add_sub_cancel, hb_of (c_ast (by omega)), bK_0, b1, hb_of f5]
    · have f5 := r_part (I := I) (E := E) (L := L) (pr := pr) (ot := ot) (J := u1 J 13 (iN 0)) (B := B) (M := M) (rdv := rdv) (ru := ru) (T := T) (a := chN d k * deN d) (b := orN (d + k)) (by omega) (by omega) ho.1
      have q1 : qN (orN (d + k)) / qN (orN k) / qN (orN d) * qN (deN d) = qN (chN d k * deN d) := by
        have l1 := Nat.div_le_self (orN (d + k)) (orN k)
        rw [qN_div (by omega) (by omega), qN_div (by omega) (by omega), qN_mul, b4]
      refine ⟨u1 (u1 J 13 (iN 0)) 12 (iN 2), B, vp_updL (vp_updL M 0 (qN (chN d k * deN d / Nat.gcd (orN (d + k)) (chN d k * deN d)))) 1 (qN (orN (d + k) / Nat.gcd (orN (d + k)) (chN d k * deN d))), rdv, ?_, (frRJ.u (by decide)).trans (frRJ.u (by decide)), frRB.refl, by simp [ptN], by rw [u1_eq, if_pos rfl]; exact row_2 rfl⟩
      unfold fX12_right fX12_right_J60
      rw [brW_13, hb_of (show fX12_in (iN (d + k)) (1 : Int32) (8 : Int32) (encC I E L pr ot (encR (u1 J 13 0) B M rdv ru T)) = some (1, (encC I E L pr ot (encR (u1 J 13 0) B M rdv ru T))) from in_y hn1 hn (by decide)), if_1z, hb_of (show fX12_in (iN k) (0 : Int32) (8 : Int32) (encC I E L pr ot (encR (u1 J 13 0) B M rdv ru T)) = some (1, (encC I E L pr ot (encR (u1 J 13 0) B M rdv ru T))) from in_y (Nat.zero_le k) hk (by decide)), if_1z, if_pos (show iN k ≤ iN (d + k) by rw [iN_le (by omega) (by omega)]; omega), hb_of (r_ord 10 (d + k) (by omega) (by omega)), hb_of (r_ord 10 k (by omega) (by omega)), if_neg (qN_ne (by omega) ok.1), iN_sub (show k ≤ d + k by omega), Nat.add_sub_cancel, hb_of (r_ord 10 d (by omega) (by omega)), if_neg (qN_ne (by omega) od.1), hb_of (r_str 10 d (by omega) (by omega)), hb_of (r_ord 10 (d + k) (by omega) (by omega)), brK, q1]
      rw [hb_of (show fX12_tellPart 45 (qN (chN d k * deN d)) (qN (orN (d + k))) (encC I E L pr ot (encR (u1 J 13 0) B M rdv ru T)) = _ from f5)]
  · refine pairG_q (ans := 0) (rw := some [qN 0, qN 1]) hI (fun T => ?_) (fun I E L pr ot T => ?_)
    · have f5 := c_part (I := I) (A := A) (L := L) (pr := pr) (ot := ot) (T := T) (a := 0) (b := 1) (by omega) (by omega) (by decide)
      rw [Nat.gcd_zero_right, Nat.zero_div, Nat.div_self Nat.one_pos] at f5
      refine ⟨u2 I 9 1 (iN 2), A, vp_updL (vp_updL L 0 (qN 0)) 1 (qN 1), ?_, frI.u, frQ.refl, by simp, row_2 rfl⟩
      unfold fX11_right
      rw [hb_of (show fX11_within (iN n) (1 : Int32) (8 : Int32) (encC I A L pr ot T) = some (1, (encC I A L pr ot T)) from within_y hn1 hn (by decide)), if_1z, hb_of (show fX11_within (iN k) (0 : Int32) (8 : Int32) (encC I A L pr ot T) = some (1, (encC I A L pr ot T)) from within_y (Nat.zero_le k) hk (by decide)), if_1z, if_neg (show ¬ iN k ≤ iN n by rw [iN_le (by omega) (by omega)]; omega), bK_0]
      rw [hb_of (show fX11_tellFraction 0 (0 : Int64) (1 : Int64) (encC I A L pr ot T) = _ from f5)]
    · have f5 := r_part (I := I) (E := E) (L := L) (pr := pr) (ot := ot) (J := u1 J 13 (iN 0)) (B := B) (M := M) (rdv := rdv) (ru := ru) (T := T) (a := 0) (b := orN n) (by omega) (by omega) ho.1
      rw [Nat.gcd_zero_right, Nat.zero_div, Nat.div_self ho.1] at f5
      refine ⟨u1 (u1 J 13 (iN 0)) 12 (iN 2), B, vp_updL (vp_updL M 0 (qN 0)) 1 (qN 1), rdv, ?_, (frRJ.u (by decide)).trans (frRJ.u (by decide)), frRB.refl, by simp, by rw [u1_eq, if_pos rfl]; exact row_2 rfl⟩
      unfold fX12_right fX12_right_J60
      rw [brW_13, hb_of (show fX12_in (iN n) (1 : Int32) (8 : Int32) (encC I E L pr ot (encR (u1 J 13 0) B M rdv ru T)) = some (1, (encC I E L pr ot (encR (u1 J 13 0) B M rdv ru T))) from in_y hn1 hn (by decide)), if_1z, hb_of (show fX12_in (iN k) (0 : Int32) (8 : Int32) (encC I E L pr ot (encR (u1 J 13 0) B M rdv ru T)) = some (1, (encC I E L pr ot (encR (u1 J 13 0) B M rdv ru T))) from in_y (Nat.zero_le k) hk (by decide)), if_1z, if_neg (show ¬ iN k ≤ iN n by rw [iN_le (by omega) (by omega)]; omega), hb_of (r_ord 10 n (by omega) (by omega)), brK]
      rw [hb_of (show fX12_tellPart 45 (0 : Int64) (qN (orN n)) (encC I E L pr ot (encR (u1 J 13 0) B M rdv ru T)) = _ from f5)]
end RI
