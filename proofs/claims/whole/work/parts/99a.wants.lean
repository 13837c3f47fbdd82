/-! WANTS: both sides add -/
/-- m terms from a on, laid to want w -/
def wtA (A : Nat → Nat → Int32) (c : Nat → Nat) (a w m : Nat) : Nat → Nat → Int32 :=
  u1 (u1 (u1 A 16 (fil (A 16) (w * 3) (fun t => iN (c (a + 3 * t) - 97)) m)) 17 (fil (A 17) (w * 3) (fun t => iN (c (a + 3 * t + 1))) m)) 18 (fil (A 18) (w * 3) (fun t => dgt c (a + 3 * t + 2)) m)
def wnS (Q : Nat → Nat → Int32) (c : Nat → Nat) (a w m : Nat) : Nat → Nat → Int32 := u1 (wtA Q c a w m) 15 (upd (Q 15) w (iN m))
def wnA (A : Nat → Nat → Int32) (c tt : Nat → Nat) (W : Nat) : Nat → Nat → Nat → Int32
  | 0 => A
  | j + 1 => wnS (wnA A c tt W j) c (psW tt j) (W + j) (tt j)
def wnT (Q : Nat → Nat → Int32) (X Y : Nat → Int32) (w j : Nat) : Nat → Nat → Int32 := u1 (u1 Q 7 (upd (Q 7) w (Y j))) 8 (fil (Q 8) (9 * w) (fun i => X (9 * j + i)) 9)
def wnB (B : Nat → Nat → Int32) (X Y : Nat → Int32) (W : Nat) : Nat → Nat → Nat → Int32
  | 0 => B
  | j + 1 => wnT (wnB B X Y W j) X Y (W + j) j
section WA
variable {I A E I' A' : Nat → Nat → Int32} {L L' : Nat → Int64} {pr ot s : Nat} {J J' : Nat → Int32} {B B' Q : Nat → Nat → Int32} {M M' : Nat → Int64} {rdv rdv' : Value} {ru : Nat} {T : PH} {G P W n top fi mn w room most o k N i t l q ch a m : Nat} {c tt : Nat → Nat} {st : RSt} {X Y : Nat → Int32}
theorem wtA_16 : wtA A c a w m 16 = fil (A 16) (w * 3) (fun t => iN (c (a + 3 * t) - 97)) m := by unfold wtA; rw [u1_o (by decide), u1_o (by decide), u1_at]
theorem wtA_17 : wtA A c a w m 17 = fil (A 17) (w * 3) (fun t => iN (c (a + 3 * t + 1))) m := by unfold wtA; rw [u1_o (by decide), u1_at]
theorem wtA_18 : wtA A c a w m 18 = fil (A 18) (w * 3) (fun t => dgt c (a + 3 * t + 2)) m := by unfold wtA; rw [u1_at]
theorem wtA_ne {x : Nat} (h1 : x ≠ 16) (h2 : x ≠ 17) (h3 : x ≠ 18) : wtA A c a w m x = A x := by unfold wtA; rw [u1_o h3, u1_o h2, u1_o h1]
theorem wtA_s : u1 (u1 (u1 (wtA A c a w t) 16 (upd (wtA A c a w t 16) (w * 3 + t) (iN (c (a + 3 * t) - 97)))) 17 (upd (wtA A c a w t 17) (w * 3 + t) (iN (c (a + 3 * t + 1))))) 18 (upd (wtA A c a w t 18) (w * 3 + t) (dgt c (a + 3 * t + 2))) = wtA A c a w (t + 1) := by
  funext x
  simp only [u1_eq]
  by_cases h18 : x = 18
  · rw [if_pos h18, h18, wtA_18, wtA_18]; rfl
  rw [if_neg h18]
  by_cases h17 : x = 17
  · rw [if_pos h17, h17, wtA_17, wtA_17]; rfl
  rw [if_neg h17]
  by_cases h16 : x = 16
  · rw [if_pos h16, h16, wtA_16, wtA_16]; rfl
  rw [if_neg h16, wtA_ne h16 h17 h18, wtA_ne h16 h17 h18]
theorem wtA_0 : wtA A c a w 0 = A := by
  unfold wtA
  show u1 (u1 (u1 A 16 (A 16)) 17 (A 17)) 18 (A 18) = A
  rw [u1_same (F := A) rfl, u1_same (F := A) rfl, u1_same (F := A) rfl]
theorem c_adT (h1 : I 1 1 = iN n) (hn : n ≤ 80) (hc : ∀ k, k < n → c k < 256 ∧ A 2 k = iN (c k)) (hw : I 11 11 = iN w) (w6 : w < 6) (hm : m ≤ 3) (ha : a ≤ n) (ht : ∀ q, q < m → a + 3 * q + 2 < n ∧ TLc c (a + 3 * q)) (he : m = 3 ∨ ¬ (a + 3 * m < n ∧ 97 ≤ c (a + 3 * m) ∧ c (a + 3 * m) < 101)) (kx : Int32 → Int32 → PH → Option (Int32 × PH)) :
    fX0_addTerms_L5 11 1 kx FU (iN a) (0 : Int32) (encC I A L pr ot T) = kx (iN (a + 3 * m)) (iN m) (encC I (wtA A c a w m) L pr ot T) := by
  have hat : ∀ (A' : Nat → Nat → Int32), A' 2 = A 2 → ∀ p, p < n → fX7_at 1 (iN p) (encC I A' L pr ot T) = some (iN (c p), (encC I A' L pr ot T)) := fun A' e p hp => by
    rw [c_at h1 hn (fun k hk => by rw [e]; exact (hc k hk).2) (show p < 1000 by omega)]
    unfold hrV
    rw [if_pos ⟨hp, by omega⟩]
  have key := lp_det (fun f t (Q : Nat → Nat → Int32) => fX0_addTerms_L5 11 1 kx f (iN (a + 3 * t)) (iN t) (encC I Q L pr ot T)) (fun Q => kx (iN (a + 3 * m)) (iN m) (encC I Q L pr ot T)) (wtA A c a w) m
    (fun t hk f => by
      obtain ⟨g0, g1, g2, g3⟩ := ht t hk
      have a2 : wtA A c a w t 2 = A 2 := wtA_ne (by decide) (by decide) (by decide)
      have b2 : ∀ {v : Nat → Int32}, u1 (wtA A c a w t) 16 v 2 = A 2 := fun {v} => (u1_o (by decide)).trans a2
      have d2 : ∀ {v v' : Nat → Int32}, u1 (u1 (wtA A c a w t) 16 v) 17 v' 2 = A 2 := fun {v v'} => (u1_o (by decide)).trans b2
      rw [fX0_addTerms_L5, if_neg (show ¬ (3 : Int32) ≤ iN t by rw [show (3 : Int32) = iN 3 from rfl, iN_le (by omega) (by omega)]; omega), bK_1, hb_of (hat _ a2 (a + 3 * t) (by omega)), hb_of (show fX11_within (iN (c (a + 3 * t))) (97 : Int32) (100 : Int32) _ = _ from within_y g1.1 (show c (a + 3 * t) ≤ 100 by omega) (by decide)), if_neg (by decide), bG_11_11, hw, letE_eq, show iN w * (3 : Int32) + iN t = iN (w * 3 + t) by rw [show (3 : Int32) = iN 3 from rfl, iN_mul, iN_add], bR_11_4, bK_1, hb_of (hat _ a2 (a + 3 * t) (by omega)), show iN (c (a + 3 * t)) - (97 : Int32) = iN (c (a + 3 * t) - 97) from iN_sub g1.1, bS_16 (in_arr (show w * 3 + t < 18 by omega) (by decide) rfl), iN_nat (by omega), bR_11_5, bK_1, show iN (a + 3 * t) + (1 : Int32) = iN (a + 3 * t + 1) from iN_add, hb_of (hat _ b2 (a + 3 * t + 1) (by omega)), bS_17 (in_arr (show w * 3 + t < 18 by omega) (by decide) rfl), iN_nat (by omega), bR_11_6, bK_1, show iN (a + 3 * t) + (2 : Int32) = iN (a + 3 * t + 2) from iN_add]
      rw [hb_of (c_digitAt (c := c) h1 hn (fun k hk => by rw [d2]; exact (hc k hk).2) (show a + 3 * t + 2 < n by omega) g3.1), bS_18 (in_arr (show w * 3 + t < 18 by omega) (by decide) rfl), iN_nat (by omega), letE_eq, letE_eq, show iN (a + 3 * t) + (3 : Int32) = iN (a + 3 * (t + 1)) from iN_add, show iN t + (1 : Int32) = iN (t + 1) from iN_add]
      have e9 := wtA_s (A := A) (c := c) (a := a) (w := w) (t := t)
      rw [← e9]
      rw [show u1 (u1 (wtA A c a w t) 16 (upd (wtA A c a w t 16) (w * 3 + t) (iN (c (a + 3 * t) - 97)))) 17 (upd (u1 (wtA A c a w t) 16 (upd (wtA A c a w t 16) (w * 3 + t) (iN (c (a + 3 * t) - 97))) 17) (w * 3 + t) (iN (c (a + 3 * t + 1)))) 18 = wtA A c a w t 18 by rw [u1_o (by decide), u1_o (by decide)], show u1 (wtA A c a w t) 16 (upd (wtA A c a w t 16) (w * 3 + t) (iN (c (a + 3 * t) - 97))) 17 = wtA A c a w t 17 by rw [u1_o (by decide)]]
      rfl)
    (fun f => by
      have a2 : wtA A c a w m 2 = A 2 := wtA_ne (by decide) (by decide) (by decide)
      rw [fX0_addTerms_L5]
      by_cases m3 : m = 3
      · rw [if_pos (show (3 : Int32) ≤ iN m by rw [m3]; decide)]
      · have he := he.resolve_left m3
        rw [if_neg (show ¬ (3 : Int32) ≤ iN m by rw [show (3 : Int32) = iN 3 from rfl, iN_le (by omega) (by omega)]; omega), bK_1]
        by_cases d : a + 3 * m < n
        · rw [hb_of (hat _ a2 (a + 3 * m) d), hb_of (show fX11_within (iN (c (a + 3 * m))) (97 : Int32) (100 : Int32) _ = some (0, _) from within_n (fun e => he ⟨d, by
            have := (hc _ d).1
            rw [show (97 : Int32) = iN 97 from rfl, show (100 : Int32) = iN 100 from rfl, iN_le (by omega) (by omega), iN_le (by omega) (by omega)] at e
            omega⟩)), if_pos rfl]
        · have hz := c_at (A := wtA A c a w m) (L := L) (pr := pr) (ot := ot) (T := T) h1 hn (fun k hk => by rw [a2]; exact (hc k hk).2) (show a + 3 * m < 1000 by omega)
          rw [show hrV n 1000 c (a + 3 * m) = -1 from if_neg (fun e => d e.1)] at hz
          rw [hb_of hz, hb_of (show fX11_within (-1 : Int32) (97 : Int32) (100 : Int32) _ = some (0, _) from within_n (by decide)), if_pos rfl]) FU (by unfold FU; omega)
  refine Eq.trans ?_ key
  show _ = fX0_addTerms_L5 11 1 kx FU (iN (a + 3 * 0)) (iN 0) (encC I (wtA A c a w 0) L pr ot T)
  rw [wtA_0]
  rfl
theorem wnS_15 : wnS Q c a w m 15 = upd (Q 15) w (iN m) := by unfold wnS; rw [u1_at]
theorem wnS_o {x : Nat} (h : x ≠ 15) : wnS Q c a w m x = wtA Q c a w m x := by unfold wnS; rw [u1_o h]
theorem wnS_ne {x : Nat} (h : ¬ (15 ≤ x ∧ x ≤ 18)) : wnS Q c a w m x = Q x := by rw [wnS_o (by omega), wtA_ne (by omega) (by omega) (by omega)]
theorem wnA_ne {x : Nat} (h : ¬ (15 ≤ x ∧ x ≤ 18)) : ∀ j, wnA A c tt W j x = A x
  | 0 => rfl
  | j + 1 => (wnS_ne h).trans (wnA_ne h j)
theorem c_adW (h1 : I 1 1 = iN n) (hn : n ≤ 80) (hc : ∀ k, k < n → c k < 256 ∧ A 2 k = iN (c k)) (hw : I 11 11 = iN W) (w6 : W + k ≤ 6) (hk : n + 1 = psW tt k) (ht : ∀ j, j < k → 1 ≤ tt j ∧ tt j ≤ 3 ∧ (∀ q, q < tt j → TLc c (psW tt j + 3 * q)) ∧ (psW tt j + 3 * tt j = n ∨ c (psW tt j + 3 * tt j) = 59)) :
    fX0_addWants 11 1 (encC I A L pr ot T) = some ((), (encC (u2 I 11 11 (iN (W + k))) (wnA A c tt W k) L pr ot T)) := by
  have key := lp_det (fun f j (Q : (Nat → Nat → Int32) × (Nat → Nat → Int32)) => fX0_addWants_L2 11 1 (fun h1 => some ((), h1)) f (iN (psW tt j)) (encC (Q.1) (Q.2) L pr ot T)) (fun Q => some ((), (encC (Q.1) (Q.2) L pr ot T))) (fun j => (u2 I 11 11 (iN (W + j)), wnA A c tt W j)) k
    (fun j hj f => by
      obtain ⟨t1, t2, t3, t4⟩ := ht j hj
      have hp := psW_mono (f := tt) k hj
      have i1 : u2 I 11 11 (iN (W + j)) 1 1 = iN n := (u2_o (by decide)).trans h1
      have i9 : u2 I 11 11 (iN (W + j)) 11 11 = iN (W + j) := u2_at
      have a2 : wnA A c tt W j 2 = A 2 := wnA_ne (by decide) j
      have d1 := fun kx => c_adT (I := u2 I 11 11 (iN (W + j))) (A := wnA A c tt W j) (L := L) (pr := pr) (ot := ot) (T := T) (w := W + j) (m := tt j) (a := psW tt j) i1 hn (fun k hk => by rw [a2]; exact hc k hk) i9 (by omega) t2 (by omega) (fun q hq => ⟨by omega, t3 q hq⟩) (Or.inr (by
        rcases t4 with e | e
        · omega
        · rw [e]; omega)) kx
      try dsimp only
      rw [fX0_addWants_L2, bK_1, hb_of c_sizeT, i1, if_neg (show ¬ iN n ≤ iN (psW tt j) by rw [iN_le (by omega) (by omega)]; omega), bG_11_11, i9, if_neg (show ¬ (6 : Int32) ≤ iN (W + j) by rw [show (6 : Int32) = iN 6 from rfl, iN_le (by omega) (by omega)]; omega), bK_11]
      unfold fX0_addTerms
      rw [d1]
      rw [bR_11_3, bG_11_11, i9, bS_15 (in_arr (show W + j < 6 by omega) (by decide) rfl), iN_nat (by omega), hb_some, bG_11_11, i9, bW_11_11, show iN (W + j) + (1 : Int32) = iN (W + (j + 1)) from iN_add, u2_u2, show iN (psW tt j + 3 * tt j) + (1 : Int32) = iN (psW tt (j + 1)) from iN_add, wtA_ne (by decide) (by decide) (by decide)]
      rfl)
    (fun f => by
      have i1 : u2 I 11 11 (iN (W + k)) 1 1 = iN n := (u2_o (by decide)).trans h1
      try dsimp only
      rw [fX0_addWants_L2, bK_1, hb_of c_sizeT, i1, if_pos (show iN n ≤ iN (psW tt k) by rw [iN_le (by omega) (by omega)]; omega)]) FU (by unfold FU; omega)
  have e0 : u2 I 11 11 (iN (W + 0)) = I := u2_self hw
  try dsimp only at key
  rw [e0] at key
  exact key
theorem wnT_7 {j : Nat} : wnT Q X Y w j 7 = upd (Q 7) w (Y j) := by unfold wnT; rw [u1_o (by decide), u1_at]
theorem wnT_8 {j : Nat} : wnT Q X Y w j 8 = fil (Q 8) (9 * w) (fun i => X (9 * j + i)) 9 := by unfold wnT; rw [u1_at]
theorem wnT_ne {x j : Nat} (h1 : x ≠ 7) (h2 : x ≠ 8) : wnT Q X Y w j x = Q x := by unfold wnT; rw [u1_o h2, u1_o h1]
theorem wnB_ne {x : Nat} (h1 : x ≠ 7) (h2 : x ≠ 8) : ∀ j, wnB B X Y W j x = B x
  | 0 => rfl
  | j + 1 => (wnT_ne h1 h2).trans (wnB_ne h1 h2 j)
theorem r_wnI (hJ : J 3 = iN (W + i)) (hW : W + i < 6) {Y : Nat → Nat → Int32} (kx : PH → Option (Int32 × PH)) (hX : ∀ h, h < 9 → Y 19 (9 * i + h) = X (9 * i + h)) : fX12_wants_L123 45 (iN k) (iN i) kx FU (0 : Int32) (encC I E L pr ot (encR J Y M rdv ru T)) = kx (encC I E L pr ot (encR J (u1 Y 8 (fil (Y 8) (9 * (W + i)) (fun h => X (9 * i + h)) 9)) M rdv ru T)) := by
  have key := lp_det (fun m h (Z : Nat → Int32) => fX12_wants_L123 45 (iN k) (iN i) kx m (iN h) (encC I E L pr ot (encR J (u1 Y 8 Z) M rdv ru T))) (fun Z => kx (encC I E L pr ot (encR J (u1 Y 8 Z) M rdv ru T))) (fil (Y 8) (9 * (W + i)) (fun h => X (9 * i + h))) 9
    (fun h hh m => by
      have e1 : u1 Y 8 (fil (Y 8) (9 * (W + i)) (fun h => X (9 * i + h)) h) 19 = Y 19 := u1_o (by decide)
      try dsimp only
      rw [fX12_wants_L123, if_neg (by rw [show (9 : Int32) = iN 9 from rfl, iN_le (by omega) (by omega)]; omega), brR_8, brG_3, hJ, brR_19, show (9 : Int32) * iN i + iN h = iN (9 * i + h) by rw [show (9 : Int32) = iN 9 from rfl, iN_mul, iN_add], brA_19 (in_arr (show 9 * i + h < 64 by omega) (by decide) rfl), iN_nat (by omega), e1, hX h hh, show (9 : Int32) * iN (W + i) + iN h = iN (9 * (W + i) + h) by rw [show (9 : Int32) = iN 9 from rfl, iN_mul, iN_add], brS_8 (in_arr (show 9 * (W + i) + h < 54 by omega) (by decide) rfl), iN_nat (by omega), letE_eq, show iN h + (1 : Int32) = iN (h + 1) from iN_add, u1_u1, u1_at]
      rfl)
    (fun m => by rw [fX12_wants_L123, if_pos (by decide)]) FU (by unfold FU; omega)
  refine Eq.trans ?_ key
  show _ = fX12_wants_L123 45 (iN k) (iN i) kx FU (iN 0) (encC I E L pr ot (encR J (u1 Y 8 (Y 8)) M rdv ru T))
  rw [u1_same (F := Y) rfl]
  rfl
theorem r_wnL (hJ : J 3 = iN W) (h6 : W + k ≤ 6) (hX : B 19 = X) (hY : B 20 = Y) (kx : PH → Option (Int32 × PH)) :
    fX12_wants_L100 45 (iN k) kx FU (0 : Int32) (encC I E L pr ot (encR J B M rdv ru T)) = kx (encC I E L pr ot (encR (u1 J 3 (iN (W + k))) (wnB B X Y W k) M rdv ru T)) := by
  have key := lp_det (fun m i (q : (Nat → Int32) × (Nat → Nat → Int32)) => fX12_wants_L100 45 (iN k) kx m (iN i) (encC I E L pr ot (encR (q.1) (q.2) M rdv ru T))) (fun q => kx (encC I E L pr ot (encR (q.1) (q.2) M rdv ru T))) (fun i => (u1 J 3 (iN (W + i)), wnB B X Y W i)) k
    (fun i hi m => by
      have i9 : u1 J 3 (iN (W + i)) 3 = iN (W + i) := u1_at
      have b19 : wnB B X Y W i 19 = X := (wnB_ne (by decide) (by decide) i).trans hX
      have b20 : wnB B X Y W i 20 = Y := (wnB_ne (by decide) (by decide) i).trans hY
      try dsimp only
      rw [fX12_wants_L100, if_neg (by rw [iN_le (by omega) (by omega)]; omega), brR_7, brG_3, i9, brR_20, brA_20 (in_arr (show i < 6 by omega) (by decide) rfl), iN_nat (by omega), b20, brS_7 (in_arr (show W + i < 6 by omega) (by decide) rfl), iN_nat (by omega)]
      refine Eq.trans (r_wnI (X := X) (i := i) (W := W) i9 (by omega) _ (fun h hh => by rw [u1_o (by decide), b19])) ?_
      try dsimp only
      rw [brG_3, i9, show iN (W + i) + (1 : Int32) = iN (W + (i + 1)) from iN_add, brW_3, letE_eq, show iN i + (1 : Int32) = iN (i + 1) from iN_add, u1_u1, show u1 (wnB B X Y W i) 7 (upd (wnB B X Y W i 7) (W + i) (Y i)) 8 = wnB B X Y W i 8 from u1_o (by decide)]
      rfl)
    (fun m => by
      try dsimp only
      rw [fX12_wants_L100, if_pos (by rw [iN_le (by omega) (by omega)]; omega)]) FU (by unfold FU; omega)
  have e0 : u1 J 3 (iN (W + 0)) = J := u1_same hJ
  try dsimp only at key
  rw [e0] at key
  exact key
end WA
