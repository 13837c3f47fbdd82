/-! WANTS: the model's loop; the class's form -/
section WL
variable {I A E I' A' : Nat → Nat → Int32} {L L' : Nat → Int64} {pr ot s : Nat} {J J' : Nat → Int32} {B B' : Nat → Nat → Int32} {M M' : Nat → Int64} {rdv rdv' : Value} {ru : Nat} {T : PH} {G P W n top fi mn w da room most o k N i t a : Nat} {c tt : Nat → Nat} {st : RSt} {X Y Z : Nat → Int32} {s0 : Nat × Nat × Nat}
theorem u1_cm {α : Type} {F : Nat → α} {x y : Nat} {u v w : α} (h : x ≠ y) : u1 (u1 (u1 F x u) y v) x w = u1 (u1 F x w) y v := by
  funext o
  simp only [u1_eq]
  by_cases hx : o = x
  · rw [if_pos hx, if_neg (by omega), if_pos hx]
  · rw [if_neg hx, if_neg hx, if_neg hx]
theorem r_wnR (hJ : J 3 = iN W) (hW : W ≤ 6) (hn : n ≤ 80) (kx : Int32 → PH → Option (Int32 × PH)) (hR : ∀ Y X, RD J (u1 (u1 B 20 Y) 19 X) rdv n 59 c) : ∀ d k tt X Y, W + k + d = 6 → Sim (tkW (6 - W)) mayW n 59 c (0, 0, 0) (k, 0, 0) (psW tt k, none) → (∀ j, j < k → 1 ≤ tt j ∧ tt j ≤ 3 ∧ Y j = iN (tt j) ∧ WL2 c (psW tt j) (9 * j) (tt j) X ∧ c (psW tt j + 3 * tt j) = 59) →
    ∃ k' tt' st' X' Y', (∀ m, d + 1 < m → fX12_wants_L24 45 kx m (iN k) (1 : Int32) (encC I E L pr ot (encR (pj J (psW tt k, none)) (u1 (u1 B 20 Y) 19 X) M rdv ru T)) = kx (iN k') (encC I E L pr ot (encR (pj J st') (u1 (u1 B 20 Y') 19 X') M rdv ru T))) ∧ RB 90 st' ∧ Sim (tkW (6 - W)) mayW n 59 c (0, 0, 0) (k', tt' (k' - 1), 0) st' ∧ (st'.2 = none → W + k' ≤ 6 ∧ 0 < tt' (k' - 1) ∧ st'.1 + 1 = psW tt' k' ∧ ¬ (st'.1 < n ∧ st'.1 < 59 ∧ (c st'.1 = 59 ∨ 97 ≤ c st'.1 ∧ c st'.1 < 101)) ∧ ∀ j, j < k' → 1 ≤ tt' j ∧ tt' j ≤ 3 ∧ Y' j = iN (tt' j) ∧ WL2 c (psW tt' j) (9 * j) (tt' j) X' ∧ (psW tt' j + 3 * tt' j = st'.1 ∨ c (psW tt' j + 3 * tt' j) = 59)) := by
  intro d
  induction d with
  | zero =>
    intro k tt X Y hk hS hX
    have hlt : (psW tt k, (none : Option Nat)).1 ≤ min n 59 := (hS.1 rfl).1
    dsimp only at hlt
    have e1 := r_fault (I := I) (E := E) (L := L) (pr := pr) (ot := ot) (J := J) (B := u1 (u1 B 20 Y) 19 X) (M := M) (rdv := rdv) (ru := ru) (T := T) (st := (psW tt k, none)) (fun q hq => by cases hq)
    have e2 := r_passes (I := I) (E := E) (L := L) (pr := pr) (ot := ot) (M := M) (ru := ru) (T := T) (ch := 59) (st := fltP (psW tt k, none)) (hR Y X) (show psW tt k < 1000 by omega) (fun q hq => by cases hq; omega) (by decide)
    have e3 : pasP n 59 c 59 (fltP (psW tt k, none)) = (false, fltP (psW tt k, none)) := by
      unfold pasP
      rw [if_neg]
      rintro ⟨d, -⟩
      cases d
    rw [e3] at e2
    try dsimp only at e2
    refine ⟨k + 1, tt, fltP (psW tt k, none), X, Y, fun m hm => ?_, ⟨show psW tt k ≤ 90 by omega, fun q hq => by cases hq; omega⟩, hS.flt rfl (fun _ _ => by rw [tkW_0, if_neg (by omega)]) (fun _ _ => decide_eq_false (by dsimp only; omega)), fun e => by cases e⟩
    obtain ⟨m, rfl⟩ : ∃ m', m = m' + 2 := ⟨m - 2, by omega⟩
    rw [fX12_wants_L24, if_neg (by decide), brK, hb_of (r_fine0 rfl), if_neg (by decide), brG_3, pj_ne (by decide) (by decide), hJ, iN_add, if_pos (by rw [show W + k = 6 by omega]; rfl), brG_17, pj_17, brK, hb_of e1]
    unfold fX12_wants_J71_24
    rw [letE_eq, brK, hb_of (show fX12_passes 45 (59 : Int32) _ = some (0, _) from e2), fX12_wants_L24, if_pos rfl, show iN k + (1 : Int32) = iN (k + 1) from iN_add]
  | succ d ih =>
    intro k tt X Y hk hS hX
    have hlt : (psW tt k, (none : Option Nat)).1 ≤ min n 59 := (hS.1 rfl).1
    dsimp only at hlt
    obtain ⟨t', st1, X1, g1, g2, g3, g4, g5⟩ := r_readWant (I := I) (E := E) (L := L) (pr := pr) (ot := ot) (M := M) (ru := ru) (T := T) (B := u1 B 20 Y) (i := 9 * k) (k := k) (a := psW tt k) (s0 := (0, 0, 0)) (hR Y) (show k < 6 - W by omega) (by omega) hn (fun x1 h2 => some (x1, h2)) 3 0 (psW tt k, none) X rfl hS ⟨by dsimp only; omega, fun q f => by cases f⟩ (fun _ => ⟨⟨by dsimp only; omega, fun q f => by cases f⟩, rfl, fun j hj => absurd hj (Nat.not_lt_zero _)⟩) (fun _ => rfl)
    have rw1 : fX12_readWant 45 (iN (9 * k)) (encC I E L pr ot (encR (pj J (psW tt k, none)) (u1 (u1 B 20 Y) 19 X) M rdv ru T)) = some (iN t', (encC I E L pr ot (encR (pj J st1) (u1 (u1 B 20 Y) 19 X1) M rdv ru T))) := g1 FU (by unfold FU; omega)
    have hb1 : RB 90 st1 := g2.mono (by decide)
    have e2 := r_passes (I := I) (E := E) (L := L) (pr := pr) (ot := ot) (M := M) (ru := ru) (T := T) (ch := 59) (st := st1) (hR (upd Y k (iN t')) X1) (show _ < 1000 by have := hb1.1; omega) hb1.2 (by decide)
    have hd : ∀ m, fX12_wants_L24 45 kx (m + 1) (iN k) (1 : Int32) (encC I E L pr ot (encR (pj J (psW tt k, none)) (u1 (u1 B 20 Y) 19 X) M rdv ru T)) = fX12_wants_L24 45 kx m (iN (k + 1)) (if (pasP n 59 c 59 st1).1 then 1 else 0) (encC I E L pr ot (encR (pj J (pasP n 59 c 59 st1).2) (u1 (u1 B 20 (upd Y k (iN t'))) 19 X1) M rdv ru T)) := by
      intro m
      rw [fX12_wants_L24, if_neg (by decide), brK, hb_of (r_fine0 rfl), if_neg (by decide), brG_3, pj_ne (by decide) (by decide), hJ, iN_add, if_neg (by rw [show (6 : Int32) = iN 6 from rfl, iN_eq (by omega) (by omega)]; omega), brR_20, brK, show (9 : Int32) * iN k = iN (9 * k) from iN_mul, hb_of rw1, brS_20 (in_arr (show k < 6 by omega) (by decide) rfl), iN_nat (by omega), u1_cm (by decide), u1_o (by decide), u1_at]
      unfold fX12_wants_J71_24
      rw [letE_eq, brK, hb_of (show fX12_passes 45 (59 : Int32) _ = _ from e2), show iN k + (1 : Int32) = iN (k + 1) from iN_add]
    obtain ⟨tn, htn⟩ : ∃ tn : Nat → Nat, tn = fun j => if j = k then t' else tt j := ⟨_, rfl⟩
    have tk : tn k = t' := by rw [htn]; exact if_pos rfl
    have tl : ∀ j, j < k → tn j = tt j := fun j hj => by rw [htn]; exact if_neg (by omega)
    have pl : ∀ j, j ≤ k → psW tn j = psW tt j := fun j hj => psW_congr j (fun q hq => tl q (by omega))
    have pk : psW tn (k + 1) = psW tt k + 3 * t' + 1 := by show psW tn k + 3 * tn k + 1 = _; rw [pl k (Nat.le_refl k), tk]
    have yy : ∀ j, j < k → upd Y k (iN t') j = Y j := fun j hj => upd_ne (by omega)
    by_cases dd : (pasP n 59 c 59 st1).1 = true
    · obtain ⟨p1, p2, p3, p4, p5⟩ := pasP_t dd
      obtain ⟨f0, f1, f2, f3, f4, f5⟩ := g5 p1
      have e5 : (pasP n 59 c 59 st1).2 = (psW tn (k + 1), none) := by rw [p5, pk, f3]
      have hS2 := g3.ok (s' := (k + 1, 0, 0)) p1 ⟨p2, p3⟩ (by rw [tkW_t (by omega), if_pos p4])
      rw [f3, ← pk] at hS2
      obtain ⟨k', tt', st', X', Y', q1, q2⟩ := ih (k + 1) tn X1 (upd Y k (iN t')) (by omega) hS2 (fun j hj => by
        by_cases ej : j = k
        · subst ej
          rw [tk, pl j (Nat.le_refl j), upd_eq]
          exact ⟨f1, f2, rfl, f4, by rw [← f3]; exact p4⟩
        · obtain ⟨x1, x2, x3, x4, x5⟩ := hX j (by omega)
          rw [tl j (by omega), pl j (by omega), yy j (by omega)]
          exact ⟨x1, x2, x3, x4.congr (fun q h1 h2 => g4 q (by omega)), x5⟩)
      refine ⟨k', tt', st', X', Y', fun m hm => ?_, q2⟩
      obtain ⟨m, rfl⟩ : ∃ m', m = m' + 1 := ⟨m - 1, by omega⟩
      rw [hd, if_pos dd, e5]
      exact q1 m (by omega)
    · obtain ⟨p1, p2⟩ := pasP_f dd
      refine ⟨k + 1, tn, st1, X1, upd Y k (iN t'), fun m hm => ?_, hb1, by rw [Nat.add_sub_cancel, tk]; exact g3, fun e => ?_⟩
      · obtain ⟨m, rfl⟩ : ∃ m', m = m' + 2 := ⟨m - 2, by omega⟩
        rw [hd, if_neg dd, p2, fX12_wants_L24, if_pos rfl]
      · obtain ⟨f0, f1, f2, f3, f4, f5⟩ := g5 e
        rw [Nat.add_sub_cancel, tk, pk]
        refine ⟨by omega, by omega, by omega, ?_, fun j hj => ?_⟩
        · rintro ⟨a1, a2, a3 | a3⟩
          · exact p1 ⟨e, a1, a2, a3⟩
          · exact f5 ⟨a1, a2, a3⟩
        · by_cases ej : j = k
          · subst ej
            rw [tk, pl j (Nat.le_refl j), upd_eq]
            exact ⟨f1, f2, rfl, f4, Or.inl f3.symm⟩
          · obtain ⟨x1, x2, x3, x4, x5⟩ := hX j (by omega)
            rw [tl j (by omega), pl j (by omega), yy j (by omega)]
            exact ⟨x1, x2, x3, x4.congr (fun q h1 h2 => g4 q (by omega)), Or.inr x5⟩
end WL
