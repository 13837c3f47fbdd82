/-! GROUNDS: both sides add, and the call -/
theorem fil_app {f V : Nat → Int32} {o a : Nat} : ∀ b, fil (fil f o V a) (o + a) (fun k => V (a + k)) b = fil f o V (a + b)
  | 0 => rfl
  | b + 1 => by
    show upd (fil (fil f o V a) (o + a) (fun k => V (a + k)) b) (o + a + b) (V (a + b)) = upd (fil f o V (a + b)) (o + (a + b)) (V (a + b))
    rw [fil_app b, Nat.add_assoc]
theorem fil_congr {f v w : Nat → Int32} {o : Nat} : ∀ k, (∀ j, j < k → v j = w j) → fil f o v k = fil f o w k
  | 0, _ => rfl
  | k + 1, h => by
    show upd (fil f o v k) (o + k) (v k) = upd (fil f o w k) (o + k) (w k)
    rw [fil_congr k (fun j hj => h j (by omega)), h k (by omega)]
theorem u2_self {F : Nat → Nat → Int32} {o k : Nat} {v : Int32} (h : F o k = v) : u2 F o k v = F := by
  funext o' k'
  rw [u2_eq]
  split
  · rename_i e; rw [e.1, e.2]; exact h.symm
  · rfl
theorem u1_same {α : Type} {F : Nat → α} {o : Nat} {v : α} (h : F o = v) : u1 F o v = F := by
  funext o'
  rw [u1_eq]
  split
  · rename_i e; rw [e]; exact h.symm
  · rfl
def pvV (c : Nat → Nat) (q : Nat) : Int32 := pvc c (7 * (q / 4) + 2 + q % 4)
theorem pvV_eq {c : Nat → Nat} {i k : Nat} (h : k < 4) : pvV c (4 * i + k) = pvc c (7 * i + 2 + k) := by
  unfold pvV
  rw [show (4 * i + k) / 4 = i by omega, show (4 * i + k) % 4 = k by omega]
/-- the class's cells with i GROUNDS more -/
def grA (A : Nat → Nat → Int32) (c : Nat → Nat) (G i : Nat) : Nat → Nat → Int32 :=
  u1 (u1 (u1 A 28 (fil (A 28) G (fun j => dgt c (7 * j + 1)) i)) 12 (fil (A 12) G (fun j => dgt c (7 * j)) i)) 13 (fil (A 13) (4 * G) (pvV c) (4 * i))
def grB (B : Nat → Nat → Int32) (c : Nat → Nat) (G i : Nat) : Nat → Nat → Int32 :=
  u1 (u1 (u1 B 0 (fil (B 0) G (fun j => dgt c (7 * j + 1)) i)) 4 (fil (B 4) G (fun j => dgt c (7 * j)) i)) 5 (fil (B 5) (4 * G) (pvV c) (4 * i))
/-- the signs of k lines of GROUNDS -/
def GLc (c : Nat → Nat) (a : Nat) : Prop := (49 ≤ c a ∧ c a < 58) ∧ (48 ≤ c (a + 1) ∧ c (a + 1) < 58) ∧ ∀ h, h < 4 → (c (a + 2 + h) = 45 ∨ 48 ≤ c (a + 2 + h) ∧ c (a + 2 + h) < 58)
section GW
variable {I A E I' A' : Nat → Nat → Int32} {L L' : Nat → Int64} {pr ot s : Nat} {J J' : Nat → Int32} {B B' : Nat → Nat → Int32} {M M' : Nat → Int64} {rdv rdv' : Value} {ru : Nat} {T : PH} {G P W G' P' W' n top fi mn w da room most o k N i : Nat} {c : Nat → Nat} {st : RSt} {X : Nat → Int32}
theorem grA_12 : grA A c G i 12 = fil (A 12) G (fun j => dgt c (7 * j)) i := by unfold grA; rw [u1_eq, if_neg (by decide), u1_eq, if_pos rfl]
theorem grA_13 : grA A c G i 13 = fil (A 13) (4 * G) (pvV c) (4 * i) := by unfold grA; rw [u1_eq, if_pos rfl]
theorem grA_28 : grA A c G i 28 = fil (A 28) G (fun j => dgt c (7 * j + 1)) i := by unfold grA; rw [u1_eq, if_neg (by decide), u1_eq, if_neg (by decide), u1_eq, if_pos rfl]
theorem grA_ne {x : Nat} (h1 : x ≠ 12) (h2 : x ≠ 13) (h3 : x ≠ 28) : grA A c G i x = A x := by unfold grA; rw [u1_eq, if_neg h2, u1_eq, if_neg h1, u1_eq, if_neg h3]
theorem grB_4 : grB B c G i 4 = fil (B 4) G (fun j => dgt c (7 * j)) i := by unfold grB; rw [u1_eq, if_neg (by decide), u1_eq, if_pos rfl]
theorem grB_5 : grB B c G i 5 = fil (B 5) (4 * G) (pvV c) (4 * i) := by unfold grB; rw [u1_eq, if_pos rfl]
theorem grB_0 : grB B c G i 0 = fil (B 0) G (fun j => dgt c (7 * j + 1)) i := by unfold grB; rw [u1_eq, if_neg (by decide), u1_eq, if_neg (by decide), u1_eq, if_pos rfl]
theorem grB_ne {x : Nat} (h1 : x ≠ 4) (h2 : x ≠ 5) (h3 : x ≠ 0) : grB B c G i x = B x := by unfold grB; rw [u1_eq, if_neg h2, u1_eq, if_neg h1, u1_eq, if_neg h3]
theorem grA_s : u1 (u1 (u1 (grA A c G i) 28 (upd (grA A c G i 28) (G + i) (dgt c (7 * i + 1)))) 12 (upd (grA A c G i 12) (G + i) (dgt c (7 * i)))) 13 (fil (grA A c G i 13) (4 * (G + i)) (fun k => pvc c (7 * i + 2 + k)) 4) = grA A c G (i + 1) := by
  have e13 : fil (grA A c G i 13) (4 * (G + i)) (fun k => pvc c (7 * i + 2 + k)) 4 = grA A c G (i + 1) 13 := by
    rw [grA_13, grA_13, show 4 * (G + i) = 4 * G + 4 * i by omega, fil_congr (w := fun k => pvV c (4 * i + k)) 4 (fun j hj => (pvV_eq hj).symm), fil_app]
    rfl
  funext x
  rw [u1_eq]
  by_cases h13 : x = 13
  · rw [if_pos h13, h13]; exact e13
  rw [if_neg h13, u1_eq]
  by_cases h12 : x = 12
  · rw [if_pos h12, h12, grA_12, grA_12]; rfl
  rw [if_neg h12, u1_eq]
  by_cases h28 : x = 28
  · rw [if_pos h28, h28, grA_28, grA_28]; rfl
  rw [if_neg h28, grA_ne h12 h13 h28, grA_ne h12 h13 h28]
theorem grB_s : u1 (u1 (u1 (grB B c G i) 4 (upd (grB B c G i 4) (G + i) (dgt c (7 * i)))) 0 (upd (grB B c G i 0) (G + i) (dgt c (7 * i + 1)))) 5 (fil (grB B c G i 5) (4 * (G + i)) (fun k => pvc c (7 * i + 2 + k)) 4) = grB B c G (i + 1) := by
  have e13 : fil (grB B c G i 5) (4 * (G + i)) (fun k => pvc c (7 * i + 2 + k)) 4 = grB B c G (i + 1) 5 := by
    rw [grB_5, grB_5, show 4 * (G + i) = 4 * G + 4 * i by omega, fil_congr (w := fun k => pvV c (4 * i + k)) 4 (fun j hj => (pvV_eq hj).symm), fil_app]
    rfl
  funext x
  rw [u1_eq]
  by_cases h13 : x = 5
  · rw [if_pos h13, h13]; exact e13
  rw [if_neg h13, u1_eq]
  by_cases h12 : x = 0
  · rw [if_pos h12, h12, grB_0, grB_0]; rfl
  rw [if_neg h12, u1_eq]
  by_cases h28 : x = 4
  · rw [if_pos h28, h28, grB_4, grB_4]; rfl
  rw [if_neg h28, grB_ne h28 h13 h12, grB_ne h28 h13 h12]
theorem c_grL (h1 : I 1 1 = iN n) (hn : n ≤ 80) (hc : ∀ k, k < n → c k < 256 ∧ A 2 k = iN (c k)) (hG : I 11 9 = iN G) (hG8 : G + k ≤ 8) (hk : ∀ j, j < k → 7 * j + 6 ≤ n ∧ GLc c (7 * j)) (kx : PH → Option (Int32 × PH)) :
    fX11_readGrounds_L53 0 (iN k) kx FU (0 : Int32) (encC I A L pr ot T) = kx (encC (u2 I 11 9 (iN (G + k))) (grA A c G k) L pr ot T) := by
  have key := lp_det (fun m i (q : (Nat → Nat → Int32) × (Nat → Nat → Int32)) => fX11_readGrounds_L53 0 (iN k) kx m (iN i) (encC (q.1) (q.2) L pr ot T)) (fun q => kx (encC (q.1) (q.2) L pr ot T)) (fun i => (u2 I 11 9 (iN (G + i)), grA A c G i)) k
    (fun i hi m => by
      obtain ⟨g1, g2, g3, g4⟩ := hk i hi
      have i1 : u2 I 11 9 (iN (G + i)) 1 1 = iN n := by rw [u2_eq, if_neg (by decide)]; exact h1
      have i9 : u2 I 11 9 (iN (G + i)) 11 9 = iN (G + i) := by rw [u2_eq, if_pos ⟨rfl, rfl⟩]
      have hcc : ∀ A' : Nat → Nat → Int32, A' 2 = A 2 → ∀ k, k < n → A' 2 k = iN (c k) := fun A' e k hk => by rw [e]; exact (hc k hk).2
      have a2 : grA A c G i 2 = A 2 := grA_ne (by decide) (by decide) (by decide)
      have d1 := c_digitAt (I := u2 I 11 9 (iN (G + i))) (A := grA A c G i) (L := L) (pr := pr) (ot := ot) (T := T) i1 hn (hcc _ a2) (show 7 * i + 1 < n by omega) g3.1
      have d2 := c_putStock (I := u2 I 11 9 (iN (G + i))) (A := grA A c G i) (L := L) (pr := pr) (ot := ot) (T := T) (o := 27) (g := G + i) (v := iN (c (7 * i + 1) - 48)) (Or.inl rfl) (by omega)
      have d3 := c_addGround (I := u2 I 11 9 (iN (G + i))) (A := u1 (grA A c G i) 28 (upd (grA A c G i 28) (G + i) (iN (c (7 * i + 1) - 48)))) (L := L) (pr := pr) (ot := ot) (T := T) (G := G + i) (a := 7 * i) i1 hn (hcc _ (by rw [u1_eq, if_neg (by decide)]; exact a2)) i9 (by omega) g1 (by omega) (fun h hh => ⟨by rcases g4 h hh with e | e <;> omega, (hc _ (by omega)).1⟩)
      try dsimp only
      rw [fX11_readGrounds_L53, if_neg (by rw [iN_le (by omega) (by omega)]; omega), letE_eq, bR_0_8, bR_0_7, bK_11, hb_of c_groundSize, i9, bR_0_0, bK_1, show iN i * (7 : Int32) = iN (7 * i) from by rw [show (7 : Int32) = iN 7 from rfl, iN_mul, Nat.mul_comm], show iN (7 * i) + (1 : Int32) = iN (7 * i + 1) from iN_add, hb_of d1, bK_27, hb_of d2, bR_0_7, bR_0_0, bK_11, hb_of d3, letE_eq, show iN i + (1 : Int32) = iN (i + 1) from iN_add, u2_u2]
      have e9 := grA_s (A := A) (c := c) (G := G) (i := i)
      rw [← e9]
      have q12 : u1 (grA A c G i) 28 (upd (grA A c G i 28) (G + i) (iN (c (7 * i + 1) - 48))) 12 = grA A c G i 12 := by rw [u1_eq, if_neg (by decide)]
      have q13 : u1 (grA A c G i) 28 (upd (grA A c G i 28) (G + i) (iN (c (7 * i + 1) - 48))) 13 = grA A c G i 13 := by rw [u1_eq, if_neg (by decide)]
      rw [q12, q13]
      rfl)
    (fun m => by
      try dsimp only
      rw [fX11_readGrounds_L53, if_pos (by rw [iN_le (by omega) (by omega)]; omega)]) FU (by unfold FU; omega)
  have e0 : u2 I 11 9 (iN (G + 0)) = I := u2_self hG
  have e1 : grA A c G 0 = A := by
    unfold grA
    show u1 (u1 (u1 A 28 (A 28)) 12 (A 12)) 13 (A 13) = A
    rw [u1_same (F := A) rfl, u1_same (F := A) rfl, u1_same (F := A) rfl]
  dsimp only at key
  rw [e0, e1] at key
  exact key
theorem r_grI (hJ : J 1 = iN (G + i)) (hG : G + i < 8) {Y : Nat → Nat → Int32} (kx : PH → Option (Int32 × PH)) (hX : ∀ h, h < 4 → Y 19 (6 * i + 2 + h) = pvc c (7 * i + 2 + h)) : fX12_grounds_L140 45 (iN k) (iN i) kx FU (iN 0) (encC I E L pr ot (encR J Y M rdv ru T)) = kx (encC I E L pr ot (encR J (u1 Y 5 (fil (Y 5) (4 * (G + i)) (fun k => pvc c (7 * i + 2 + k)) 4)) M rdv ru T)) := by
  have key := lp_det (fun m h (Z : Nat → Int32) => fX12_grounds_L140 45 (iN k) (iN i) kx m (iN h) (encC I E L pr ot (encR J (u1 Y 5 Z) M rdv ru T))) (fun Z => kx (encC I E L pr ot (encR J (u1 Y 5 Z) M rdv ru T))) (fil (Y 5) (4 * (G + i)) (fun k => pvc c (7 * i + 2 + k))) 4
    (fun h hh m => by
      have e1 : u1 Y 5 (fil (Y 5) (4 * (G + i)) (fun k => pvc c (7 * i + 2 + k)) h) 19 = Y 19 := by rw [u1_eq, if_neg (by decide)]
      try dsimp only
      rw [fX12_grounds_L140, if_neg (by rw [show (4 : Int32) = iN 4 from rfl, iN_le (by omega) (by omega)]; omega), brR_5, brG_1, hJ, brR_19, show (6 : Int32) * iN i + (2 : Int32) + iN h = iN (6 * i + 2 + h) by rw [show (6 : Int32) = iN 6 from rfl, show (2 : Int32) = iN 2 from rfl, iN_mul, iN_add, iN_add], brA_19 (in_arr (show 6 * i + 2 + h < 64 by omega) (by decide) rfl), iN_nat (by omega), e1, hX h hh, show (4 : Int32) * iN (G + i) + iN h = iN (4 * (G + i) + h) by rw [show (4 : Int32) = iN 4 from rfl, iN_mul, iN_add], brS_5 (in_arr (show 4 * (G + i) + h < 32 by omega) (by decide) rfl), iN_nat (by omega), letE_eq, show iN h + (1 : Int32) = iN (h + 1) from iN_add, u1_u1, u1_eq, if_pos rfl]
      rfl)
    (fun m => by rw [fX12_grounds_L140, if_pos (by decide)]) FU (by unfold FU; omega)
  refine Eq.trans ?_ key
  show _ = fX12_grounds_L140 45 (iN k) (iN i) kx FU (iN 0) (encC I E L pr ot (encR J (u1 Y 5 (Y 5)) M rdv ru T))
  rw [u1_same (F := Y) rfl]
theorem r_grL (hJ : J 1 = iN G) (hG8 : G + k ≤ 8) (hX : ∀ j, j < k → B 19 (6 * j) = dgt c (7 * j) ∧ B 19 (6 * j + 1) = dgt c (7 * j + 1) ∧ ∀ h, h < 4 → B 19 (6 * j + 2 + h) = pvc c (7 * j + 2 + h)) (kx : PH → Option (Int32 × PH)) :
    fX12_grounds_L94 45 (iN k) kx FU (iN 0) (encC I E L pr ot (encR J B M rdv ru T)) = kx (encC I E L pr ot (encR (u1 J 1 (iN (G + k))) (grB B c G k) M rdv ru T)) := by
  have key := lp_det (fun m i (q : (Nat → Int32) × (Nat → Nat → Int32)) => fX12_grounds_L94 45 (iN k) kx m (iN i) (encC I E L pr ot (encR (q.1) (q.2) M rdv ru T))) (fun q => kx (encC I E L pr ot (encR (q.1) (q.2) M rdv ru T))) (fun i => (u1 J 1 (iN (G + i)), grB B c G i)) k
    (fun i hi m => by
      obtain ⟨x1, x2, x3⟩ := hX i hi
      have i9 : u1 J 1 (iN (G + i)) 1 = iN (G + i) := by rw [u1_eq, if_pos rfl]
      have b19 : grB B c G i 19 = B 19 := grB_ne (by decide) (by decide) (by decide)
      try dsimp only
      rw [fX12_grounds_L94, if_neg (by rw [iN_le (by omega) (by omega)]; omega), brR_4, brG_1, i9, brR_19, show (6 : Int32) * iN i = iN (6 * i) from iN_mul, brA_19 (in_arr (show 6 * i < 64 by omega) (by decide) rfl), iN_nat (by omega), b19, x1, brS_4 (in_arr (show G + i < 8 by omega) (by decide) rfl), iN_nat (by omega), brR_0, brG_1, i9, brR_19, show iN (6 * i) + (1 : Int32) = iN (6 * i + 1) from iN_add, brA_19 (in_arr (show 6 * i + 1 < 64 by omega) (by decide) rfl), iN_nat (by omega), u1_eq, if_neg (by decide), b19, x2, brS_0 (in_arr (show G + i < 88 by omega) (by decide) rfl), iN_nat (by omega)]
      refine Eq.trans (r_grI (c := c) (i := i) (G := G) i9 (by omega) _ (fun h hh => by rw [u1_eq, if_neg (by decide), u1_eq, if_neg (by decide), b19]; exact x3 h hh)) ?_
      try dsimp only
      rw [brG_1, i9, show iN (G + i) + (1 : Int32) = iN (G + (i + 1)) from iN_add, brW_1, letE_eq, show iN i + (1 : Int32) = iN (i + 1) from iN_add, u1_u1]
      have e9 := grB_s (B := B) (c := c) (G := G) (i := i)
      rw [← e9]
      have q0 : u1 (grB B c G i) 4 (upd (grB B c G i 4) (G + i) (dgt c (7 * i))) 0 = grB B c G i 0 := by rw [u1_eq, if_neg (by decide)]
      have q5 : u1 (u1 (grB B c G i) 4 (upd (grB B c G i 4) (G + i) (dgt c (7 * i)))) 0 (upd (grB B c G i 0) (G + i) (dgt c (7 * i + 1))) 5 = grB B c G i 5 := by rw [u1_eq, if_neg (by decide), u1_eq, if_neg (by decide)]
      rw [q0, q5])
    (fun m => by
      try dsimp only
      rw [fX12_grounds_L94, if_pos (by rw [iN_le (by omega) (by omega)]; omega)]) FU (by unfold FU; omega)
  have e0 : u1 J 1 (iN (G + 0)) = J := u1_same hJ
  have e1 : grB B c G 0 = B := by
    unfold grB
    show u1 (u1 (u1 B 0 (B 0)) 4 (B 4)) 5 (B 5) = B
    rw [u1_same (F := B) rfl, u1_same (F := B) rfl, u1_same (F := B) rfl]
  dsimp only at key
  rw [e0, e1] at key
  exact key
end GW
