/-! RULE: the class's form, sign by sign -/
def nP : List Nat → Nat
  | [] => 0
  | x :: t => (if x = 40 then 1 else 0) + nP t
def okW (w : List Nat) (p : Nat) : Prop := nP w = p ∧ ∀ x, x ∈ w → x < 1000 ∧ (rkN x ≠ 0 ∨ x = 40)
def frR (ro : Nat) (I I' : Nat → Nat → Int32) : Prop := ∀ x k, ¬ (x = ro ∧ 4 ≤ k) → I' x k = I x k
def frA (ro : Nat) (A A' : Nat → Nat → Int32) : Prop := ∀ x, x ≠ ro + 1 → x ≠ ro + 2 → A' x = A x
/-- the class's form stands as the machine -/
def RR (ro : Nat) (I A I' A' : Nat → Nat → Int32) (k : Nat) (s : RuS) : Prop :=
  frR ro I I' ∧ frA ro A A' ∧ I' ro 4 = iN s.1.length ∧ I' ro 5 = iN s.2.1.length ∧ I' ro 6 = iN s.2.2.1 ∧ I' ro 7 = iN s.2.2.2.1 ∧ I' ro 8 = bt s.2.2.2.2.1 8 ∧ I' ro 9 = bI s.2.2.2.2.2 ∧ stk (A' (ro + 1)) s.1 ∧ stk (A' (ro + 2)) (s.2.1.map iN) ∧ s.1.length + s.2.1.length ≤ k ∧ s.2.2.1 ≤ 4 ∧ s.2.2.2.1 ≤ 3 ∧ okW s.2.1 s.2.2.1
theorem sx_all : ∀ k : Fin 256, sx_idx (iN k.val) = (match ltN k.val with | some l => iN l | none => -1) := by decide +kernel
section RC
variable {I A E I' A' : Nat → Nat → Int32} {L L' : Nat → Int64} {pr ot s : Nat} {T : PH} {ro n p d k l ch a q r : Nat} {c : Nat → Nat} {o : List Int32} {w W : List Nat} {cm cm0 : Nat → Bool} {v : Int32} {β : Type}
theorem frR.refl : frR ro I I := fun _ _ _ => rfl
theorem frR.trans {I1 : Nat → Nat → Int32} (h1 : frR ro I I1) (h2 : frR ro I1 I') : frR ro I I' := fun x k h => (h2 x k h).trans (h1 x k h)
theorem frR.u (hk : 4 ≤ k) : frR ro I (u2 I ro k v) := fun x q h => u2_o (by omega)
theorem frA.refl : frA ro A A := fun _ _ _ => rfl
theorem frA.trans {A1 : Nat → Nat → Int32} (h1 : frA ro A A1) (h2 : frA ro A1 A') : frA ro A A' := fun x a b => (h2 x a b).trans (h1 x a b)
theorem frA.u {f : Nat → Int32} (hk : k = 1 ∨ k = 2) : frA ro A (u1 A (ro + k) f) := fun x a b => u1_o (by omega)
theorem gY (hro : ro = 19 ∨ ro = 23) {f : Int32 → Option β} (k : Nat) (hk : k < 10) (h4 : 4 ≤ k ∨ k = 0) : (h_gi 5 k (encC I A L pr ot T) ro).bind f = f (I ro k) := by
  rcases hro with rfl | rfl <;> (match k, hk, h4 with
    | 0, _, _ => rfl
    | 4, _, _ => rfl
    | 5, _, _ => rfl
    | 6, _, _ => rfl
    | 7, _, _ => rfl
    | 8, _, _ => rfl
    | 9, _, _ => rfl)
theorem wY (hro : ro = 19 ∨ ro = 23) {f : PH → Option β} (k : Nat) (v : Int32) (hk : k < 10) (h4 : 4 ≤ k) : (h_pv 5 k (encC I A L pr ot T) ro (.int v)).bind f = f (encC (u2 I ro k v) A L pr ot T) := by
  rcases hro with rfl | rfl <;> (match k, hk, h4 with
    | 4, _, _ => rfl
    | 5, _, _ => rfl
    | 6, _, _ => rfl
    | 7, _, _ => rfl
    | 8, _, _ => rfl
    | 9, _, _ => rfl)
theorem rY1 (hro : ro = 19 ∨ ro = 23) {f : Nat → Option β} : (h_gr 5 1 (encC I A L pr ot T) ro).bind f = f (ro + 1) := by rcases hro with rfl | rfl <;> rfl
theorem rY2 (hro : ro = 19 ∨ ro = 23) {f : Nat → Option β} : (h_gr 5 2 (encC I A L pr ot T) ro).bind f = f (ro + 2) := by rcases hro with rfl | rfl <;> rfl
theorem aY1 (hro : ro = 19 ∨ ro = 23) {i : Int32} {f : Int32 → Option β} (hi : ¬ (i < 0 ∨ 40 ≤ i.toNatClampNeg)) : (h_ald .int (encC I A L pr ot T) (ro + 1) i).bind f = f (A (ro + 1) i.toNatClampNeg) := by
  rcases hro with rfl | rfl
  · exact bA_20 hi
  · exact bA_24 hi
theorem aY2 (hro : ro = 19 ∨ ro = 23) {i : Int32} {f : Int32 → Option β} (hi : ¬ (i < 0 ∨ 40 ≤ i.toNatClampNeg)) : (h_ald .int (encC I A L pr ot T) (ro + 2) i).bind f = f (A (ro + 2) i.toNatClampNeg) := by
  rcases hro with rfl | rfl
  · exact bA_21 hi
  · exact bA_25 hi
theorem sY1 (hro : ro = 19 ∨ ro = 23) {i v : Int32} {f : PH → Option β} (hi : ¬ (i < 0 ∨ 40 ≤ i.toNatClampNeg)) : (h_ast .int (encC I A L pr ot T) (ro + 1) i v).bind f = f (encC I (u1 A (ro + 1) (upd (A (ro + 1)) i.toNatClampNeg v)) L pr ot T) := by
  rcases hro with rfl | rfl
  · exact bS_20 hi
  · exact bS_24 hi
theorem sY2 (hro : ro = 19 ∨ ro = 23) {i v : Int32} {f : PH → Option β} (hi : ¬ (i < 0 ∨ 40 ≤ i.toNatClampNeg)) : (h_ast .int (encC I A L pr ot T) (ro + 2) i v).bind f = f (encC I (u1 A (ro + 2) (upd (A (ro + 2)) i.toNatClampNeg v)) L pr ot T) := by
  rcases hro with rfl | rfl
  · exact bS_21 hi
  · exact bS_25 hi
theorem c_hold (hro : ro = 19 ∨ ro = 23) (h5 : I ro 5 = iN k) (hk : k < 40) : fX6_hold ro v (encC I A L pr ot T) = some ((), (encC (u2 I ro 5 (iN (k + 1))) (u1 A (ro + 2) (upd (A (ro + 2)) k v)) L pr ot T)) := by
  unfold fX6_hold
  rw [gY hro 5 (by decide) (by decide), h5, if_neg (show ¬ (40 : Int32) ≤ iN k by rw [show (40 : Int32) = iN 40 from rfl, iN_le (by omega) (by omega)]; omega), rY2 hro, gY hro 5 (by decide) (by decide), h5, sY2 hro (in_arr hk (by decide) rfl), iN_nat (by omega), gY hro 5 (by decide) (by decide), h5, show iN k + (1 : Int32) = iN (k + 1) from iN_add, wY hro 5 _ (by decide) (by decide)]
theorem c_step (hro : ro = 19 ∨ ro = 23) (h4 : I ro 4 = iN k) (hk : k < 40) : fX6_step ro v (encC I A L pr ot T) = some ((), (encC (u2 I ro 4 (iN (k + 1))) (u1 A (ro + 1) (upd (A (ro + 1)) k v)) L pr ot T)) := by
  unfold fX6_step
  rw [gY hro 4 (by decide) (by decide), h4, if_neg (show ¬ (40 : Int32) ≤ iN k by rw [show (40 : Int32) = iN 40 from rfl, iN_le (by omega) (by omega)]; omega), rY1 hro, gY hro 4 (by decide) (by decide), h4, sY1 hro (in_arr hk (by decide) rfl), iN_nat (by omega), gY hro 4 (by decide) (by decide), h4, show iN k + (1 : Int32) = iN (k + 1) from iN_add, wY hro 4 _ (by decide) (by decide)]
theorem c_rank {h : PH} (hc : ch < 1000) : fX6_rankOf (iN ch) h = some (iN (rkN ch), h) := by
  have q : ∀ m, m < 1000 → (iN ch = iN m) = (ch = m) := fun m hm => iN_eq (by omega) (by omega)
  unfold fX6_rankOf
  by_cases d1 : ch = 42
  · rw [if_pos (show iN ch = 42 by rw [d1]; rfl), d1]; rfl
  rw [if_neg (show ¬ iN ch = 42 from fun f => d1 ((q 42 (by decide)).mp f))]
  by_cases d2 : ch = 43
  · rw [if_pos (show iN ch = 43 by rw [d2]; rfl), d2]; rfl
  rw [if_neg (show ¬ iN ch = 43 from fun f => d2 ((q 43 (by decide)).mp f))]
  by_cases d3 : ch = 45
  · rw [if_pos (show iN ch = 45 by rw [d3]; rfl), d3]; rfl
  rw [if_neg (show ¬ iN ch = 45 from fun f => d3 ((q 45 (by decide)).mp f))]
  by_cases d4 : ch = 47
  · rw [if_pos (show iN ch = 47 by rw [d4]; rfl), d4]; rfl
  rw [if_neg (show ¬ iN ch = 47 from fun f => d4 ((q 47 (by decide)).mp f))]
  by_cases d5 : ch = 60
  · rw [if_pos (show iN ch = 60 by rw [d5]; rfl), d5]; rfl
  rw [if_neg (show ¬ iN ch = 60 from fun f => d5 ((q 60 (by decide)).mp f))]
  by_cases d6 : ch = 61
  · rw [if_pos (show iN ch = 61 by rw [d6]; rfl), d6]; rfl
  rw [if_neg (show ¬ iN ch = 61 from fun f => d6 ((q 61 (by decide)).mp f))]
  by_cases d7 : ch = 62
  · rw [if_pos (show iN ch = 62 by rw [d7]; rfl), d7]; rfl
  rw [if_neg (show ¬ iN ch = 62 from fun f => d7 ((q 62 (by decide)).mp f))]
  by_cases d8 : ch = 256
  · rw [if_pos (show iN ch = 256 by rw [d8]; rfl), d8]; rfl
  rw [if_neg (show ¬ iN ch = 256 from fun f => d8 ((q 256 (by decide)).mp f))]
  unfold rkN
  rw [if_neg (by omega), if_neg (by omega), if_neg (by omega), if_neg d8]
  rfl
theorem rk_5 : rkN ch < 5 := by
  unfold rkN
  repeat' split
  all_goals decide
theorem stk_at {V V' : Nat → Int32} : ∀ (st : List Int32), (∀ j, j < st.length → V' j = V j) → stk V st → stk V' st
  | [], _, _ => trivial
  | x :: t, h, h2 => ⟨(h _ (Nat.lt_succ_self _)).trans h2.1, stk_at t (fun j hj => h j (Nat.lt_succ_of_lt hj)) h2.2⟩
/-- what layOut leaves alone -/
def frL2 (ro : Nat) (I I' A A' : Nat → Nat → Int32) : Prop := (∀ x k, ¬ (x = ro ∧ (k = 4 ∨ k = 5)) → I' x k = I x k) ∧ ∀ x, x ≠ ro + 1 → A' x = A x
theorem c_layL (hro : ro = 19 ∨ ro = 23) (hr : r < 1000) (kx : PH → Option (Unit × PH)) : ∀ (w : List Nat) (o : List Int32) (I A : Nat → Nat → Int32), I ro 4 = iN o.length → I ro 5 = iN w.length → stk (A (ro + 1)) o → stk (A (ro + 2)) (w.map iN) → o.length + w.length ≤ 40 → (∀ x, x ∈ w → x < 1000) →
    ∃ I' A', (∀ m, w.length < m → fX6_layOut_L0 ro (iN r) kx m (encC I A L pr ot T) = kx (encC I' A' L pr ot T)) ∧ frL2 ro I I' A A' ∧ I' ro 4 = iN (layP r w o).1.length ∧ I' ro 5 = iN (layP r w o).2.length ∧ stk (A' (ro + 1)) (layP r w o).1 ∧ stk (A' (ro + 2)) ((layP r w o).2.map iN) := by
  intro w
  induction w with
  | nil =>
    intro o I A h4 h5 s1 s2 hl hw
    refine ⟨I, A, fun m hm => ?_, ⟨fun _ _ _ => rfl, fun _ _ => rfl⟩, h4, h5, s1, s2⟩
    obtain ⟨m, rfl⟩ : ∃ m', m = m' + 1 := ⟨m - 1, by omega⟩
    rw [fX6_layOut_L0, gY hro 5 (by decide) (by decide), h5, if_pos (by decide)]
  | cons x w ih =>
    intro o I A h4 h5 s1 s2 hl hw
    have hx := hw x List.mem_cons_self
    have hl' : o.length + (w.length + 1) ≤ 40 := hl
    have h5' : I ro 5 = iN (w.length + 1) := h5
    have top : A (ro + 2) w.length = iN x := by
      have := s2.1
      rw [List.length_map] at this
      exact this
    have g0 : ¬ iN (w.length + 1) ≤ 0 := by rw [show (0 : Int32) = iN 0 from rfl, iN_le (by omega) (by omega)]; omega
    by_cases hc : r ≤ rkN x
    · have rk := rk_5 (ch := x)
      have cs := c_step (I := u2 I ro 5 (iN w.length)) (A := A) (L := L) (pr := pr) (ot := ot) (T := T) (v := -(iN x)) hro ((u2_o (by omega)).trans h4) (show o.length < 40 by omega)
      obtain ⟨I', A', q1, q2, q3, q4, q5, q6⟩ := ih (-(iN x) :: o) (u2 (u2 I ro 5 (iN w.length)) ro 4 (iN (o.length + 1))) (u1 A (ro + 1) (upd (A (ro + 1)) o.length (-(iN x)))) u2_at ((u2_o (by omega)).trans u2_at) (by rw [u1_at]; exact stk_push s1) (by rw [u1_o (by omega)]; exact s2.2) (by show o.length + 1 + w.length ≤ 40; omega) (fun y hy => hw y (List.mem_cons_of_mem _ hy))
      rw [layP_c hc]
      refine ⟨I', A', fun m hm => ?_, ⟨fun y k hy => (q2.1 y k hy).trans ((u2_o (by omega)).trans (u2_o (by omega))), fun y hy => (q2.2 y hy).trans (u1_o hy)⟩, q3, q4, q5, q6⟩
      obtain ⟨m, rfl⟩ : ∃ m', m = m' + 1 := ⟨m - 1, by omega⟩
      rw [fX6_layOut_L0, gY hro 5 (by decide) (by decide), h5', if_neg g0, rY2 hro, gY hro 5 (by decide) (by decide), h5', show iN (w.length + 1) - (1 : Int32) = iN w.length from iN_pred, aY2 hro (in_arr (show w.length < 40 by omega) (by decide) rfl), iN_nat (by omega), top, hb_of (c_rank hx), if_neg (show ¬ iN (rkN x) < iN r by rw [iN_lt (by omega) (by omega)]; omega), gY hro 5 (by decide) (by decide), h5', show iN (w.length + 1) - (1 : Int32) = iN w.length from iN_pred, wY hro 5 _ (by decide) (by decide), rY2 hro, gY hro 5 (by decide) (by decide), u2_at, aY2 hro (in_arr (show w.length < 40 by omega) (by decide) rfl), iN_nat (by omega), top, zrK hro, hb_of cs]
      exact q1 m (by simp only [List.length_cons] at hm; omega)
    · have rk := rk_5 (ch := x)
      rw [layP_n hc]
      refine ⟨I, A, fun m hm => ?_, ⟨fun _ _ _ => rfl, fun _ _ => rfl⟩, h4, h5, s1, s2⟩
      obtain ⟨m, rfl⟩ : ∃ m', m = m' + 1 := ⟨m - 1, by omega⟩
      rw [fX6_layOut_L0, gY hro 5 (by decide) (by decide), h5', if_neg g0, rY2 hro, gY hro 5 (by decide) (by decide), h5', show iN (w.length + 1) - (1 : Int32) = iN w.length from iN_pred, aY2 hro (in_arr (show w.length < 40 by omega) (by decide) rfl), iN_nat (by omega), top, hb_of (c_rank hx), if_pos (show iN (rkN x) < iN r by rw [iN_lt (by omega) (by omega)]; omega)]
theorem c_layOut (hro : ro = 19 ∨ ro = 23) (hr : r < 1000) {w : List Nat} {o : List Int32} (h4 : I ro 4 = iN o.length) (h5 : I ro 5 = iN w.length) (s1 : stk (A (ro + 1)) o) (s2 : stk (A (ro + 2)) (w.map iN)) (hl : o.length + w.length ≤ 40) (hw : ∀ x, x ∈ w → x < 1000) :
    ∃ I' A', fX6_layOut ro (iN r) (encC I A L pr ot T) = some ((), (encC I' A' L pr ot T)) ∧ frL2 ro I I' A A' ∧ I' ro 4 = iN (layP r w o).1.length ∧ I' ro 5 = iN (layP r w o).2.length ∧ stk (A' (ro + 1)) (layP r w o).1 ∧ stk (A' (ro + 2)) ((layP r w o).2.map iN) := by
  obtain ⟨I', A', q1, q2⟩ := c_layL (L := L) (pr := pr) (ot := ot) (T := T) hro hr (fun h1 => some ((), h1)) w o I A h4 h5 s1 s2 hl hw
  exact ⟨I', A', q1 FU (by unfold FU; omega), q2⟩
theorem layP_st : ∀ (w : List Nat) (o : List Int32), stP r (layP r w o).2
  | [], o => stP_nil
  | x :: w, o => by
    by_cases hc : r ≤ rkN x
    · rw [layP_c hc]; exact layP_st w _
    · rw [layP_n hc]; exact stP_cons (by omega)
theorem layP_mem {x : Nat} : ∀ (w : List Nat) (o : List Int32), x ∈ (layP r w o).2 → x ∈ w
  | [], o, h => h
  | y :: w, o, h => by
    by_cases hc : r ≤ rkN y
    · rw [layP_c hc] at h; exact List.mem_cons_of_mem _ (layP_mem w _ h)
    · rw [layP_n hc] at h; exact h
theorem layP_nP (hr : 1 ≤ r) : ∀ (w : List Nat) (o : List Int32), nP (layP r w o).2 = nP w
  | [], o => rfl
  | y :: w, o => by
    by_cases hc : r ≤ rkN y
    · rw [layP_c hc, layP_nP hr w]
      show nP w = (if y = 40 then 1 else 0) + nP w
      rw [if_neg (fun e => by subst e; have : rkN 40 = 0 := rfl; omega)]
      omega
    · rw [layP_n hc]
theorem okW.lay (h : okW w p) (hr : 1 ≤ r) : okW (layP r w o).2 p := ⟨(layP_nP hr w o).trans h.1, fun x hx => h.2 x (layP_mem w o hx)⟩
theorem okW.close (h : okW w p) (hp : p ≠ 0) : ∃ t, (layP 1 w o).2 = 40 :: t ∧ okW t (p - 1) := by
  have h1 := h.lay (o := o) (Nat.le_refl 1)
  have h2 := layP_st (r := 1) w o
  cases e : (layP 1 w o).2 with
  | nil => rw [e] at h1; exact absurd h1.1.symm hp
  | cons x t =>
    rw [e] at h1 h2
    have r0 := h2 x t rfl
    have x40 : x = 40 := (h1.2 x List.mem_cons_self).2.resolve_left (by omega)
    subst x40
    refine ⟨t, rfl, ?_, fun y hy => h1.2 y (List.mem_cons_of_mem _ hy)⟩
    have := h1.1
    change (if 40 = 40 then 1 else 0) + nP t = p at this
    rw [if_pos rfl] at this
    omega
theorem okW.push (h : okW w p) (h1 : ch < 1000) (h2 : rkN ch ≠ 0) : okW (ch :: w) p := by
  refine ⟨?_, fun x hx => ?_⟩
  · show (if ch = 40 then 1 else 0) + nP w = p
    rw [if_neg (fun e => h2 (by rw [e]; rfl))]
    have := h.1
    omega
  · rcases List.mem_cons.mp hx with e | e
    · subst e; exact ⟨h1, Or.inl h2⟩
    · exact h.2 x e
theorem okW.par (h : okW w p) : okW (40 :: w) (p + 1) := by
  refine ⟨?_, fun x hx => ?_⟩
  · show (if 40 = 40 then 1 else 0) + nP w = p + 1
    rw [if_pos rfl]
    have := h.1
    omega
  · rcases List.mem_cons.mp hx with e | e
    · subst e; exact ⟨by decide, Or.inr rfl⟩
    · exact h.2 x e
end RC
