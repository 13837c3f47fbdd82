/-! PEOPLE: both sides add -/
def mV (c : Nat → Nat) (i h : Nat) : Int32 := dgt c (6 * i + 1 + h)
/-- the class's cells, the model's row with i PEOPLE more -/
def mnZ (Z : Nat → Int32) (c : Nat → Nat) (P : Nat) : Nat → Nat → Int32
  | 0 => Z
  | i + 1 => fil (mnZ Z c P i) (8 + (P + i) * 4) (mV c i) 4
def mnB (a : Nat → Int32) (c : Nat → Nat) (P : Nat) : Nat → Nat → Int32
  | 0 => a
  | i + 1 => fil (upd (fil (mnB a c P i) (8 + (P + i) * 4) (mV c i) 4) (32 + (P + i)) 0) (38 + 8 * (P + i)) (fun _ => 0) 8
def mnA (A : Nat → Nat → Int32) (c : Nat → Nat) (P i : Nat) : Nat → Nat → Int32 := u1 (u1 A 28 (mnZ (A 28) c P i)) 14 (fil (A 14) P (fun j => dgt c (6 * j)) i)
def mnR (B : Nat → Nat → Int32) (c : Nat → Nat) (P i : Nat) : Nat → Nat → Int32 := u1 (u1 B 0 (mnB (B 0) c P i)) 6 (fil (B 6) P (fun j => dgt c (6 * j)) i)
section PW
variable {I A E I' A' : Nat → Nat → Int32} {L L' : Nat → Int64} {pr ot s : Nat} {J J' : Nat → Int32} {B B' : Nat → Nat → Int32} {M M' : Nat → Int64} {rdv rdv' : Value} {ru : Nat} {T : PH} {out : Nat → Int64} {G P W G' P' W' n top fi mn w da room most o k N i q : Nat} {c : Nat → Nat} {st : RSt} {X Z a v : Nat → Int32}
theorem mnA_14 : mnA A c P i 14 = fil (A 14) P (fun j => dgt c (6 * j)) i := by unfold mnA; rw [u1_eq, if_pos rfl]
theorem mnA_28 : mnA A c P i 28 = mnZ (A 28) c P i := by unfold mnA; rw [u1_eq, if_neg (by decide), u1_eq, if_pos rfl]
theorem mnA_ne {x : Nat} (h1 : x ≠ 14) (h3 : x ≠ 28) : mnA A c P i x = A x := by unfold mnA; rw [u1_eq, if_neg h1, u1_eq, if_neg h3]
theorem mnR_6 : mnR B c P i 6 = fil (B 6) P (fun j => dgt c (6 * j)) i := by unfold mnR; rw [u1_eq, if_pos rfl]
theorem mnR_0 : mnR B c P i 0 = mnB (B 0) c P i := by unfold mnR; rw [u1_eq, if_neg (by decide), u1_eq, if_pos rfl]
theorem mnR_ne {x : Nat} (h1 : x ≠ 6) (h3 : x ≠ 0) : mnR B c P i x = B x := by unfold mnR; rw [u1_eq, if_neg h1, u1_eq, if_neg h3]
theorem mnA_s : u1 (u1 (mnA A c P i) 28 (fil (mnA A c P i 28) (8 + (P + i) * 4) (mV c i) 4)) 14 (upd (mnA A c P i 14) (P + i) (dgt c (6 * i))) = mnA A c P (i + 1) := by
  funext x
  rw [u1_eq]
  by_cases h12 : x = 14
  · rw [if_pos h12, h12, mnA_14, mnA_14]; rfl
  rw [if_neg h12, u1_eq]
  by_cases h28 : x = 28
  · rw [if_pos h28, h28, mnA_28, mnA_28]; rfl
  rw [if_neg h28, mnA_ne h12 h28, mnA_ne h12 h28]
theorem mnR_s : u1 (u1 (mnR B c P i) 6 (upd (mnR B c P i 6) (P + i) (dgt c (6 * i)))) 0 (fil (upd (fil (mnR B c P i 0) (8 + (P + i) * 4) (mV c i) 4) (32 + (P + i)) 0) (38 + 8 * (P + i)) (fun _ => 0) 8) = mnR B c P (i + 1) := by
  funext x
  rw [u1_eq]
  by_cases h12 : x = 0
  · rw [if_pos h12, h12, mnR_0, mnR_0]; rfl
  rw [if_neg h12, u1_eq]
  by_cases h28 : x = 6
  · rw [if_pos h28, h28, mnR_6, mnR_6]; rfl
  rw [if_neg h28, mnR_ne h28 h12, mnR_ne h28 h12]
theorem c_addPerson (hP : I 11 10 = iN P) (h : P < 6) {v : Int32} : fX0_addPerson 11 v (encC I A L pr ot T) = some ((), (encC (u2 I 11 10 (iN (P + 1))) (u1 A 14 (upd (A 14) P v)) L pr ot T)) := by
  unfold fX0_addPerson
  rw [bG_11_10, hP, if_neg (by rw [show (6 : Int32) = iN 6 from rfl, iN_le (by omega) (by omega)]; omega), bR_11_2, bG_11_10, hP, bS_14 (in_arr (show P < 6 by omega) (by decide) rfl), iN_nat (by omega), bG_11_10, hP, bW_11_10, show iN P + (1 : Int32) = iN (P + 1) from iN_add]
theorem c_mnI (h1 : I 1 1 = iN n) (hn : n ≤ 80) (hc : ∀ k, k < n → A 2 k = iN (c k)) (hP : I 11 10 = iN P) (h6 : P < 6) {j : Nat} (hj : 6 * i + 5 ≤ n) (hd : ∀ h, h < 4 → 48 ≤ c (6 * i + 1 + h)) (kx : PH → Option (Int32 × PH)) :
    fX11_readPeople_L67 0 (iN k) (iN j) (iN (6 * i)) kx FU (iN 0) (encC I A L pr ot T) = kx (encC I (u1 A 28 (fil (A 28) (8 + P * 4) (mV c i) 4)) L pr ot T) := by
  have key := lp_det (fun m h (Z : Nat → Int32) => fX11_readPeople_L67 0 (iN k) (iN j) (iN (6 * i)) kx m (iN h) (encC I (u1 A 28 Z) L pr ot T)) (fun Z => kx (encC I (u1 A 28 Z) L pr ot T)) (fil (A 28) (8 + P * 4) (mV c i)) 4
    (fun h hh m => by
      have d1 := c_digitAt (I := I) (A := u1 A 28 (fil (A 28) (8 + P * 4) (mV c i) h)) (L := L) (pr := pr) (ot := ot) (T := T) h1 hn (fun k hk => by rw [u1_eq, if_neg (by decide)]; exact hc k hk) (show 6 * i + 1 + h < n by omega) (hd h hh)
      have d2 := c_putHumour (I := I) (A := u1 A 28 (fil (A 28) (8 + P * 4) (mV c i) h)) (L := L) (pr := pr) (ot := ot) (T := T) (o := 27) (p := P) (k := h) (v := iN (c (6 * i + 1 + h) - 48)) (Or.inl rfl) h6 hh
      try dsimp only
      rw [fX11_readPeople_L67, if_neg (by rw [show (4 : Int32) = iN 4 from rfl, iN_le (by omega) (by omega)]; omega), bR_0_8, bR_0_7, bK_11, hb_of c_personSize, hP, bR_0_0, bK_1, show iN (6 * i) + (1 : Int32) + iN h = iN (6 * i + 1 + h) by rw [show (1 : Int32) = iN 1 from rfl, iN_add, iN_add], hb_of d1, bK_27, hb_of d2, letE_eq, show iN h + (1 : Int32) = iN (h + 1) from iN_add, u1_u1, u1_eq, if_pos rfl]
      rfl)
    (fun m => by
      try dsimp only
      rw [fX11_readPeople_L67, if_pos (by decide)]) FU (by unfold FU; omega)
  refine Eq.trans ?_ key
  show _ = fX11_readPeople_L67 0 (iN k) (iN j) (iN (6 * i)) kx FU (iN 0) (encC I (u1 A 28 (A 28)) L pr ot T)
  rw [u1_same (F := A) rfl]
theorem c_mnL (h1 : I 1 1 = iN n) (hn : n ≤ 80) (hc : ∀ k, k < n → c k < 256 ∧ A 2 k = iN (c k)) (hP : I 11 10 = iN P) (h6 : P + k ≤ 6) (hk : ∀ j, j < k → 6 * j + 5 ≤ n ∧ MLc c (6 * j)) (kx : PH → Option (Int32 × PH)) :
    fX11_readPeople_L53 0 (iN k) kx FU (0 : Int32) (encC I A L pr ot T) = kx (encC (u2 I 11 10 (iN (P + k))) (mnA A c P k) L pr ot T) := by
  have key := lp_det (fun m i (q : (Nat → Nat → Int32) × (Nat → Nat → Int32)) => fX11_readPeople_L53 0 (iN k) kx m (iN i) (encC (q.1) (q.2) L pr ot T)) (fun q => kx (encC (q.1) (q.2) L pr ot T)) (fun i => (u2 I 11 10 (iN (P + i)), mnA A c P i)) k
    (fun i hi m => by
      obtain ⟨g1, g2, g4⟩ := hk i hi
      have i1 : u2 I 11 10 (iN (P + i)) 1 1 = iN n := by rw [u2_eq, if_neg (by decide)]; exact h1
      have i9 : u2 I 11 10 (iN (P + i)) 11 10 = iN (P + i) := by rw [u2_eq, if_pos ⟨rfl, rfl⟩]
      have hcc : ∀ A' : Nat → Nat → Int32, A' 2 = A 2 → ∀ k, k < n → A' 2 k = iN (c k) := fun A' e k hk => by rw [e]; exact (hc k hk).2
      have a2 : mnA A c P i 2 = A 2 := mnA_ne (by decide) (by decide)
      have d1 := c_mnI (I := u2 I 11 10 (iN (P + i))) (A := mnA A c P i) (L := L) (pr := pr) (ot := ot) (T := T) (k := k) (i := i) (P := P + i) (j := i) i1 hn (hcc _ a2) i9 (by omega) g1 (fun h hh => (g4 h hh).1)
      have d2 := c_digitAt (I := u2 I 11 10 (iN (P + i))) (A := u1 (mnA A c P i) 28 (fil (mnA A c P i 28) (8 + (P + i) * 4) (mV c i) 4)) (L := L) (pr := pr) (ot := ot) (T := T) i1 hn (hcc _ (by rw [u1_eq, if_neg (by decide)]; exact a2)) (show 6 * i < n by omega) (show 48 ≤ c (6 * i) by omega)
      have d3 := c_addPerson (I := u2 I 11 10 (iN (P + i))) (A := u1 (mnA A c P i) 28 (fil (mnA A c P i 28) (8 + (P + i) * 4) (mV c i) 4)) (L := L) (pr := pr) (ot := ot) (T := T) (P := P + i) (v := iN (c (6 * i) - 48)) i9 (by omega)
      try dsimp only
      rw [fX11_readPeople_L53, if_neg (by rw [iN_le (by omega) (by omega)]; omega), letE_eq, show iN i * (6 : Int32) = iN (6 * i) from by rw [show (6 : Int32) = iN 6 from rfl, iN_mul, Nat.mul_comm]]
      refine Eq.trans (d1 _) ?_
      try dsimp only
      rw [bR_0_7, bR_0_0, bK_1, hb_of d2, bK_11, hb_of d3, letE_eq, show iN i + (1 : Int32) = iN (i + 1) from iN_add, u2_u2]
      have e9 := mnA_s (A := A) (c := c) (P := P) (i := i)
      rw [← e9, show u1 (mnA A c P i) 28 (fil (mnA A c P i 28) (8 + (P + i) * 4) (mV c i) 4) 14 = mnA A c P i 14 by rw [u1_eq, if_neg (by decide)]]
      rfl)
    (fun m => by
      try dsimp only
      rw [fX11_readPeople_L53, if_pos (by rw [iN_le (by omega) (by omega)]; omega)]) FU (by unfold FU; omega)
  have e0 : u2 I 11 10 (iN (P + 0)) = I := u2_self hP
  have e1 : mnA A c P 0 = A := by
    unfold mnA
    show u1 (u1 A 28 (A 28)) 14 (A 14) = A
    rw [u1_same (F := A) rfl, u1_same (F := A) rfl]
  dsimp only at key
  rw [e0, e1] at key
  exact key
theorem r_mnI (hJ : J 2 = iN (P + i)) (hP : P + i < 6) {Y : Nat → Nat → Int32} (kx : PH → Option (Int32 × PH)) (hX : ∀ h, h < 4 → Y 19 (5 * i + 1 + h) = mV c i h) : fX12_people_L118 45 (iN k) (iN i) kx FU (iN 0) (encC I E L pr ot (encR J Y M rdv ru T)) = kx (encC I E L pr ot (encR J (u1 Y 0 (fil (Y 0) (8 + (P + i) * 4) (mV c i) 4)) M rdv ru T)) := by
  have key := lp_det (fun m h (Z : Nat → Int32) => fX12_people_L118 45 (iN k) (iN i) kx m (iN h) (encC I E L pr ot (encR J (u1 Y 0 Z) M rdv ru T))) (fun Z => kx (encC I E L pr ot (encR J (u1 Y 0 Z) M rdv ru T))) (fil (Y 0) (8 + (P + i) * 4) (mV c i)) 4
    (fun h hh m => by
      have e1 : u1 Y 0 (fil (Y 0) (8 + (P + i) * 4) (mV c i) h) 19 = Y 19 := by rw [u1_eq, if_neg (by decide)]
      try dsimp only
      rw [fX12_people_L118, if_neg (by rw [show (4 : Int32) = iN 4 from rfl, iN_le (by omega) (by omega)]; omega), brR_0, brG_2, hJ, brR_19, show (5 : Int32) * iN i + (1 : Int32) + iN h = iN (5 * i + 1 + h) by rw [show (5 : Int32) = iN 5 from rfl, show (1 : Int32) = iN 1 from rfl, iN_mul, iN_add, iN_add], brA_19 (in_arr (show 5 * i + 1 + h < 64 by omega) (by decide) rfl), iN_nat (by omega), e1, hX h hh, show (8 : Int32) + (4 : Int32) * iN (P + i) + iN h = iN (8 + (P + i) * 4 + h) by rw [show (4 : Int32) = iN 4 from rfl, show (8 : Int32) = iN 8 from rfl, iN_mul, iN_add, iN_add, Nat.mul_comm], brS_0 (in_arr (show 8 + (P + i) * 4 + h < 88 by omega) (by decide) rfl), iN_nat (by omega), letE_eq, show iN h + (1 : Int32) = iN (h + 1) from iN_add, u1_u1, u1_eq, if_pos rfl]
      rfl)
    (fun m => by rw [fX12_people_L118, if_pos (by decide)]) FU (by unfold FU; omega)
  refine Eq.trans ?_ key
  show _ = fX12_people_L118 45 (iN k) (iN i) kx FU (iN 0) (encC I E L pr ot (encR J (u1 Y 0 (Y 0)) M rdv ru T))
  rw [u1_same (F := Y) rfl]
theorem r_mnD (hJ : J 2 = iN (P + i)) (hP : P + i < 6) {Y : Nat → Nat → Int32} (kx : PH → Option (Int32 × PH)) : fX12_people_L176 45 (iN k) (iN i) kx FU (iN 0) (encC I E L pr ot (encR J Y M rdv ru T)) = kx (encC I E L pr ot (encR J (u1 Y 0 (fil (Y 0) (38 + 8 * (P + i)) (fun _ => 0) 8)) M rdv ru T)) := by
  have key := lp_det (fun m h (Z : Nat → Int32) => fX12_people_L176 45 (iN k) (iN i) kx m (iN h) (encC I E L pr ot (encR J (u1 Y 0 Z) M rdv ru T))) (fun Z => kx (encC I E L pr ot (encR J (u1 Y 0 Z) M rdv ru T))) (fil (Y 0) (38 + 8 * (P + i)) (fun _ => 0)) 8
    (fun h hh m => by
      try dsimp only
      rw [fX12_people_L176, if_neg (by rw [show (8 : Int32) = iN 8 from rfl, iN_le (by omega) (by omega)]; omega), brR_0, brG_2, hJ, show (38 : Int32) + (8 : Int32) * iN (P + i) + iN h = iN (38 + 8 * (P + i) + h) by rw [show (38 : Int32) = iN 38 from rfl, show (8 : Int32) = iN 8 from rfl, iN_mul, iN_add, iN_add], brS_0 (in_arr (show 38 + 8 * (P + i) + h < 88 by omega) (by decide) rfl), iN_nat (by omega), letE_eq, show iN h + (1 : Int32) = iN (h + 1) from iN_add, u1_u1, u1_eq, if_pos rfl]
      rfl)
    (fun m => by rw [fX12_people_L176, if_pos (by decide)]) FU (by unfold FU; omega)
  refine Eq.trans ?_ key
  show _ = fX12_people_L176 45 (iN k) (iN i) kx FU (iN 0) (encC I E L pr ot (encR J (u1 Y 0 (Y 0)) M rdv ru T))
  rw [u1_same (F := Y) rfl]
theorem r_mnL (hJ : J 2 = iN P) (h6 : P + k ≤ 6) (hX : ∀ j, j < k → B 19 (5 * j) = dgt c (6 * j) ∧ ∀ h, h < 4 → B 19 (5 * j + 1 + h) = mV c j h) (kx : PH → Option (Int32 × PH)) :
    fX12_people_L93 45 (iN k) kx FU (iN 0) (encC I E L pr ot (encR J B M rdv ru T)) = kx (encC I E L pr ot (encR (u1 J 2 (iN (P + k))) (mnR B c P k) M rdv ru T)) := by
  have key := lp_det (fun m i (q : (Nat → Int32) × (Nat → Nat → Int32)) => fX12_people_L93 45 (iN k) kx m (iN i) (encC I E L pr ot (encR (q.1) (q.2) M rdv ru T))) (fun q => kx (encC I E L pr ot (encR (q.1) (q.2) M rdv ru T))) (fun i => (u1 J 2 (iN (P + i)), mnR B c P i)) k
    (fun i hi m => by
      obtain ⟨x1, x3⟩ := hX i hi
      have i9 : u1 J 2 (iN (P + i)) 2 = iN (P + i) := by rw [u1_eq, if_pos rfl]
      have b19 : mnR B c P i 19 = B 19 := mnR_ne (by decide) (by decide)
      try dsimp only
      rw [fX12_people_L93, if_neg (by rw [iN_le (by omega) (by omega)]; omega), brR_6, brG_2, i9, brR_19, show (5 : Int32) * iN i = iN (5 * i) from iN_mul, brA_19 (in_arr (show 5 * i < 64 by omega) (by decide) rfl), iN_nat (by omega), b19, x1, brS_6 (in_arr (show P + i < 6 by omega) (by decide) rfl), iN_nat (by omega)]
      refine Eq.trans (r_mnI (c := c) (i := i) (P := P) i9 (by omega) _ (fun h hh => by rw [u1_eq, if_neg (by decide), b19]; exact x3 h hh)) ?_
      try dsimp only
      rw [brR_0, brG_2, i9, show (32 : Int32) + iN (P + i) = iN (32 + (P + i)) from iN_add, brS_0 (in_arr (show 32 + (P + i) < 88 by omega) (by decide) rfl), iN_nat (by omega)]
      refine Eq.trans (r_mnD (i := i) (P := P) i9 (by omega) _) ?_
      try dsimp only
      rw [brG_2, i9, show iN (P + i) + (1 : Int32) = iN (P + (i + 1)) from iN_add, brW_2, letE_eq, show iN i + (1 : Int32) = iN (i + 1) from iN_add, u1_u1]
      have e9 := mnR_s (B := B) (c := c) (P := P) (i := i)
      rw [← e9]
      have q0 : u1 (mnR B c P i) 6 (upd (mnR B c P i 6) (P + i) (dgt c (6 * i))) 0 = mnR B c P i 0 := by rw [u1_eq, if_neg (by decide)]
      simp only [u1_u1, q0, u1_eq, if_true])
    (fun m => by
      try dsimp only
      rw [fX12_people_L93, if_pos (by rw [iN_le (by omega) (by omega)]; omega)]) FU (by unfold FU; omega)
  have e0 : u1 J 2 (iN (P + 0)) = J := u1_same hJ
  have e1 : mnR B c P 0 = B := by
    unfold mnR
    show u1 (u1 B 0 (B 0)) 6 (B 6) = B
    rw [u1_same (F := B) rfl, u1_same (F := B) rfl]
  dsimp only at key
  rw [e0, e1] at key
  exact key
theorem hdB_fil {p g : Nat} (ho : o + k ≤ 32) : hdB (fil Z o v k) p g = hdB Z p g := by
  unfold hdB
  rw [fil_eq, if_neg (by omega)]
theorem CP.man (hc : CP Z a) (hq : q < 6) (hh : ∀ g, g < 8 → hdB Z q g = false) : CP (fil Z (8 + q * 4) v 4) (fil (upd (fil a (8 + q * 4) v 4) (32 + q) 0) (38 + 8 * q) (fun _ => 0) 8) := by
  obtain ⟨h1, h2, h3, h4, h5⟩ := hc
  have out : ∀ j, ¬ (38 + 8 * q ≤ j ∧ j < 38 + 8 * q + 8) → j ≠ 32 + q → ¬ (8 + q * 4 ≤ j ∧ j < 8 + q * 4 + 4) → fil (upd (fil a (8 + q * 4) v 4) (32 + q) 0) (38 + 8 * q) (fun _ => 0) 8 j = a j := fun j e1 e2 e3 => by
    rw [fil_eq, if_neg e1, upd_ne e2, fil_eq, if_neg e3]
  refine ⟨fun k hk => ?_, fun p hp => ?_, fun p g hp hg hb => ?_, ?_, ?_⟩
  · rw [fil_eq, if_neg (by omega), upd_ne (by omega), fil_eq, fil_eq]
    by_cases d : 8 + q * 4 ≤ k ∧ k < 8 + q * 4 + 4
    · rw [if_pos d, if_pos d]
    · rw [if_neg d, if_neg d]; exact h1 k hk
  · rw [bt_congr (g := hdB Z p) (fun k hk => hdB_fil (by omega))]
    by_cases e : p = q
    · subst e
      rw [fil_eq, if_neg (by omega), upd_eq, bt_congr (g := fun _ => false) (fun k hk => hh k hk)]
      decide
    · rw [out _ (by omega) (by omega) (by omega)]
      exact h2 p hp
  · rw [hdB_fil (by omega)] at hb
    have e : p ≠ q := fun e => by rw [e, hh g hg] at hb; cases hb
    rw [out _ (by omega) (by omega) (by omega), fil_eq, if_neg (by omega)]
    exact h3 p g hp hg hb
  · rw [out _ (by omega) (by omega) (by omega), fil_eq, if_neg (by omega)]
    exact h4
  · rw [out _ (by omega) (by omega) (by omega), fil_eq, if_neg (by omega)]
    exact h5
theorem OK.man (hz : OK G P Z) (hq : q < 6) (hv : ∀ h, h < 4 → 0 ≤ v h ∧ v h ≤ 9) : OK G P (fil Z (8 + q * 4) v 4) := by
  obtain ⟨h1, h2, h3, h4⟩ := hz
  refine ⟨fun j hj => ?_, fun g hg => ?_, fun p hp h hh => ?_, fun p g hp hg hb => ?_⟩
  · rw [fil_eq, if_neg (by omega)]; exact h1 j hj
  · rw [fil_eq, if_neg (by omega)]; exact h2 g hg
  · rw [fil_eq]
    by_cases d : 8 + q * 4 ≤ 8 + p * 4 + h ∧ 8 + p * 4 + h < 8 + q * 4 + 4
    · rw [if_pos d]; exact hv _ (by omega)
    · rw [if_neg d]; exact h3 p hp h hh
  · rw [hdB_fil (by omega)] at hb
    rw [fil_eq, if_neg (by omega)]
    exact h4 p g hp hg hb
theorem mnZ_all (hz : OK G P Z) (hc : CP Z a) (h6 : P + k ≤ 6) (hv : ∀ j h, j < k → h < 4 → 0 ≤ mV c j h ∧ mV c j h ≤ 9) : ∀ i, i ≤ k → OK G P (mnZ Z c P i) ∧ CP (mnZ Z c P i) (mnB a c P i)
  | 0, _ => ⟨hz, hc⟩
  | i + 1, h => by
    obtain ⟨g1, g2⟩ := mnZ_all hz hc h6 hv i (by omega)
    refine ⟨g1.man (by omega) (fun h' hh => hv i h' (by omega) hh), g2.man (by omega) (fun g hg => ?_)⟩
    cases d : hdB (mnZ Z c P i) (P + i) g with
    | false => rfl
    | true =>
      have := (g1.2.2.2 (P + i) g (by omega) hg d).1
      omega
end PW
