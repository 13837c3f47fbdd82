/-! CALLS: counter (3) -/
section CU
theorem frRB.w {B : Nat → Nat → Int32} {o : Nat} {v : Nat → Int32} (h : ¬ (o = 0 ∨ (4 ≤ o ∧ o ≤ 9) ∨ o = 21 ∨ o = 22 ∨ o = 26 ∨ o = 34 ∨ o = 35 ∨ o = 36 ∨ o = 48 ∨ o = 49 ∨ o = 50)) : frRB B (u1 B o v) := fun x hx => by
  have e : ¬ x = o := fun e => h (by rw [← e]; exact hx)
  rw [u1_eq, if_neg e]
variable {I A E I' A' : Nat → Nat → Int32} {L L' : Nat → Int64} {pr ot s : Nat} {J J' : Nat → Int32} {B B' : Nat → Nat → Int32} {M M' : Nat → Int64} {rdv rdv' : Value} {ru : Nat} {T : PH} {G P W p q g n nr sz ro oa w t k v d a b N : Nat} {Z Z' R X : Nat → Int32} {x y z i2 m : Int32} {out : Nat → Int64} {pu : (Nat → Int32) → Int32} {h : PH}
theorem p_counter (h : INV s I A L pr ot J B M ru G P W) (x y : Int32) : pairG s I A L pr ot J B M rdv ru out (fX11_counter 0 x y) (fX12_counter 45 x y) := by
  have hI := h
  obtain ⟨N9, hN9⟩ : ∃ N, N = 99 := ⟨_, rfl⟩
  have hN9' : (99 : Int32) = iN N9 := by rw [hN9]; rfl
  rcases arg_le N9 (by rw [hN9]; decide) x with ⟨a, ha, rfl⟩ | hx
  rotate_left
  · refine pairG_q (ans := -1) hI (fun T => qC_no ?_) (qM_no (fun I E L pr ot T => ?_))
    · unfold fX11_counter
      rw [hN9', hb_of (show fX11_within x (0 : Int32) (iN N9) _ = _ from within_n hx), if_0z]
    · unfold fX12_counter
      rw [hN9', brW_13, hb_of (show fX12_in x (0 : Int32) (iN N9) (encC I E L pr ot (encR (u1 J 13 0) B M rdv ru T)) = _ from in_n hx), if_0z]
  rcases arg_le N9 (by rw [hN9]; decide) y with ⟨b, hb, rfl⟩ | hy
  rotate_left
  · refine pairG_q (ans := -1) hI (fun T => qC_no ?_) (qM_no (fun I E L pr ot T => ?_))
    · unfold fX11_counter
      rw [hN9', hb_of (show fX11_within (iN a) (0 : Int32) (iN N9) _ = _ from within_y (Nat.zero_le a) ha (by omega)), if_1z, hb_of (show fX11_within y (0 : Int32) (iN N9) _ = _ from within_n hy), if_0z]
    · unfold fX12_counter
      rw [hN9', brW_13, hb_of (show fX12_in (iN a) (0 : Int32) (iN N9) (encC I E L pr ot (encR (u1 J 13 0) B M rdv ru T)) = _ from in_y (Nat.zero_le a) ha (by omega)), if_1z, hb_of (show fX12_in y (0 : Int32) (iN N9) (encC I E L pr ot (encR (u1 J 13 0) B M rdv ru T)) = _ from in_n hy), if_0z]
  have ee : ∀ c, c ≤ N9 → (iN c = (0 : Int32)) = (c = 0) := fun c hc => by rw [show (0 : Int32) = iN 0 from rfl, iN_eq (by omega) (by omega)]
  by_cases hab : a = 0 ∨ b = 0
  · refine pairG_q (ans := -2) hI (fun T => qC_no ?_) (qM_no (fun I E L pr ot T => ?_))
    · unfold fX11_counter
      rw [hN9', hb_of (show fX11_within (iN a) (0 : Int32) (iN N9) _ = _ from within_y (Nat.zero_le a) ha (by omega)), if_1z, hb_of (show fX11_within (iN b) (0 : Int32) (iN N9) _ = _ from within_y (Nat.zero_le b) hb (by omega)), if_1z]
      by_cases h0 : a = 0
      · rw [if_pos (by rw [ee a ha]; exact h0)]
      · rw [if_neg (by rw [ee a ha]; exact h0), if_pos (by rw [ee b hb]; omega)]
    · unfold fX12_counter
      rw [hN9', brW_13, hb_of (show fX12_in (iN a) (0 : Int32) (iN N9) (encC I E L pr ot (encR (u1 J 13 0) B M rdv ru T)) = _ from in_y (Nat.zero_le a) ha (by omega)), if_1z, hb_of (show fX12_in (iN b) (0 : Int32) (iN N9) (encC I E L pr ot (encR (u1 J 13 0) B M rdv ru T)) = _ from in_y (Nat.zero_le b) hb (by omega)), if_1z]
      by_cases h0 : a = 0
      · rw [if_pos (by rw [ee a ha]; exact h0)]
      · rw [if_neg (by rw [ee a ha]; exact h0), if_pos (by rw [ee b hb]; omega)]
  have ha0 : 0 < a := by omega
  have hb0 : 0 < b := by omega
  have hm := mxmi (a := a) (b := b) (by omega) (by omega)
  have hp := mx_pos ha0 hb0
  have hC : ∀ {I A : Nat → Nat → Int32} {L : Nat → Int64} {pr ot : Nat} {T : PH}, fX11_counter 0 (iN a) (iN b) (encC I A L pr ot T) = fX11_counter_L56 0 (iN (mxN a b)) (iN (miN a b)) (fun h9 => some ((0 : Int32), h9)) FU (1 : Int32) (encC (u2 I 9 1 (iN 0)) A L pr ot T) := by
    intro I A L pr ot T
    unfold fX11_counter
    rw [hN9', hb_of (show fX11_within (iN a) (0 : Int32) (iN N9) _ = _ from within_y (Nat.zero_le a) ha (by omega)), if_1z, hb_of (show fX11_within (iN b) (0 : Int32) (iN N9) _ = _ from within_y (Nat.zero_le b) hb (by omega)), if_1z, if_neg (by rw [ee a ha]; omega), if_neg (by rw [ee b hb]; omega), letE_eq, letE_eq, mx_i (by omega) (by omega), mi_i (by omega) (by omega), bR_0_6, bK_9, hb_of c_start]
  have hMo : ∀ {I E : Nat → Nat → Int32} {L : Nat → Int64} {pr ot : Nat} {T : PH}, ∃ X, tbK X (mxN a b + 1) ∧ fX12_counter 45 (iN a) (iN b) (encC I E L pr ot (encR J B M rdv ru T)) = ((h_ck 11 (encC I E L pr ot (encR (u1 J 13 0) (u1 B 45 X) M rdv ru T)) 45).bind fun _ => h_bd (fX12_timesBy 45 (iN a) (iN b) (encC I E L pr ot (encR (u1 J 13 0) (u1 B 45 X) M rdv ru T))) fun x7 h8 => (h_pv 11 12 h8 45 (.int (0 : Int32))).bind fun h9 => if x7 = 0 then (some ((0 : Int32), h9)) else ((h_ck 11 h9 45).bind fun _ => h_bd (fX12_tell 45 (x7.toInt64) h9) fun _ h10 => some ((1 : Int32), h10))) := by
    intro I E L pr ot T
    obtain ⟨X, f1, f2⟩ := r_tb40 (I := I) (E := E) (L := L) (pr := pr) (ot := ot) (J := u1 J 13 0) (B := B) (M := M) (rdv := rdv) (ru := ru) (T := T) (x := iN a) (y := iN b) (N := mxN a b) hm.2.1 (mx_i (by omega) (by omega))
    refine ⟨X, f2, ?_⟩
    unfold fX12_counter
    rw [hN9', brW_13, hb_of (show fX12_in (iN a) (0 : Int32) (iN N9) (encC I E L pr ot (encR (u1 J 13 0) B M rdv ru T)) = _ from in_y (Nat.zero_le a) ha (by omega)), if_1z, hb_of (show fX12_in (iN b) (0 : Int32) (iN N9) (encC I E L pr ot (encR (u1 J 13 0) B M rdv ru T)) = _ from in_y (Nat.zero_le b) hb (by omega)), if_1z, if_neg (by rw [ee a ha]; omega), if_neg (by rw [ee b hb]; omega)]
    exact f1 _
  cases ht : tmO (mxN a b) (miN a b) with
  | none =>
    refine pairG_q (ans := 0) (rw := some []) hI (fun T => ?_) (fun I E L pr ot T => ?_)
    · have f := c_count56 (I := I) (A := A) (L := L) (pr := pr) (ot := ot) (T := T) hm.2.1 hp.1 hm.1
      rw [ht] at f
      exact ⟨u2 I 9 1 (iN 0), A, L, hC.trans f, frI.u, frQ.refl, by simp, row_0⟩
    · obtain ⟨X, f2, f3⟩ := hMo (I := I) (E := E) (L := L) (pr := pr) (ot := ot) (T := T)
      have f4 := r_timesBy (I := I) (E := E) (L := L) (pr := pr) (ot := ot) (J := u1 J 13 0) (B := u1 B 45 X) (M := M) (rdv := rdv) (ru := ru) (T := T) (a := a) (b := b) (by omega) (by omega) ha0 hb0 (fun u v h1 h2 h3 => by rw [u1_eq, if_pos rfl]; exact f2 u v (by omega) h2 h3)
      have e0 : tN (mxN a b) (miN a b) = 0 := by unfold tN; rw [ht]; rfl
      rw [e0] at f4
      refine ⟨u1 (u1 J 13 0) 12 0, u1 B 45 X, M, rdv, ?_, (frRJ.u (by decide)).trans (frRJ.u (by decide)), frRB.w (by decide), by simp, by rw [u1_eq, if_pos rfl]; exact row_0⟩
      rw [f3, brK, hb_of f4, brW_12, if_pos (show iN 0 = (0 : Int32) from rfl)]
  | some j =>
    have hj := fnd_lt _ _ _ ht
    have hj2 := Nat.div_le_self (mxN a b) (miN a b)
    refine pairG_q (ans := 1) (rw := some [(iN j).toInt64]) hI (fun T => ?_) (fun I E L pr ot T => ?_)
    · have f := c_count56 (I := I) (A := A) (L := L) (pr := pr) (ot := ot) (T := T) hm.2.1 hp.1 hm.1
      rw [ht] at f
      exact ⟨u2 I 9 1 (iN 1), A, vp_updL L 0 (iN j).toInt64, hC.trans f, frI.u, frQ.refl, by simp, row_1 rfl⟩
    · obtain ⟨X, f2, f3⟩ := hMo (I := I) (E := E) (L := L) (pr := pr) (ot := ot) (T := T)
      have f4 := r_timesBy (I := I) (E := E) (L := L) (pr := pr) (ot := ot) (J := u1 J 13 0) (B := u1 B 45 X) (M := M) (rdv := rdv) (ru := ru) (T := T) (a := a) (b := b) (by omega) (by omega) ha0 hb0 (fun u v h1 h2 h3 => by rw [u1_eq, if_pos rfl]; exact f2 u v (by omega) h2 h3)
      have e0 : tN (mxN a b) (miN a b) = j := by unfold tN; rw [ht]; rfl
      rw [e0] at f4
      have a1 := r_tell (I := I) (E := E) (L := L) (pr := pr) (ot := ot) (J := u1 (u1 J 13 0) 12 0) (B := u1 B 45 X) (M := M) (rdv := rdv) (ru := ru) (T := T) (v := (iN j).toInt64) (n := 0) rfl (by decide)
      rw [u1_u1] at a1
      refine ⟨u1 (u1 J 13 0) 12 (iN 1), u1 B 45 X, vp_updL M 0 (iN j).toInt64, rdv, ?_, (frRJ.u (by decide)).trans (frRJ.u (by decide)), frRB.w (by decide), by simp, by rw [u1_eq, if_pos rfl]; exact row_1 rfl⟩
      rw [f3, brK, hb_of f4, brW_12, if_neg (show ¬ iN j = (0 : Int32) by rw [show (0 : Int32) = iN 0 from rfl, iN_eq (by omega) (by omega)]; omega), brK, hb_of a1]
end CU
