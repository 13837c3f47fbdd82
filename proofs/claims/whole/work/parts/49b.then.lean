/-! what class and model are given in a question, in short -/
def CK (I A : Nat → Nat → Int32) (G P W ro : Nat) (pu : (Nat → Int32) → Int32) : Prop := FS I G P W ∧ TS A W ∧ (ro = 19 ∨ ro = 23) ∧ RU I A ro pu ∧ OK G P (A 28) ∧ nz (A 32)
def MKK (A : Nat → Nat → Int32) (J : Nat → Int32) (B : Nat → Nat → Int32) (G P W ru : Nat) (pu : (Nat → Int32) → Int32) : Prop := FM A J B G P W ∧ ru = 56 ∧ (∃ nr, MUR nr (B 21) pu ∧ J 23 = iN nr) ∧ OK G P (A 28) ∧ CP (A 28) (B 0)
section TB
variable {I A E I' A' : Nat → Nat → Int32} {L L' : Nat → Int64} {pr ot s : Nat} {J J' : Nat → Int32} {B B' : Nat → Nat → Int32} {M M' : Nat → Int64} {rdv rdv' : Value} {ru : Nat} {T : PH} {G P W p g n nr sz ro oa : Nat} {Z R : Nat → Int32} {x y : Int32} {out : Nat → Int64} {pu : (Nat → Int32) → Int32}
theorem INV.km (h : INV s I A L pr ot J B M ru G P W) : ∃ pu, CK I A G P W pr pu ∧ MKK A J B G P W ru pu ∧ MKK A (u1 J 13 0) B G P W ru pu := by
  obtain ⟨hpr, hru, pu, nr, hnr, hr, hu, hJ⟩ := h.rule
  obtain ⟨hF, hM, hpl, hz, hc, hn2, -⟩ := h
  subst hru
  exact ⟨pu, ⟨hF, hM.TS, hpr, hr, hz, hn2⟩, ⟨hM, rfl, ⟨nr, hu, hJ⟩, hz, hc⟩, ⟨hM.j0 (by decide), rfl, ⟨nr, hu, hJ⟩, hz, hc⟩⟩
theorem CK.copy (c : CK I A G P W ro pu) : fX8_copy 31 27 (encC I A L pr ot T) = some ((), (encC I (u1 A 32 (A 28)) L pr ot T)) := c_copy c.2.2.2.2.1.1 c.2.2.2.2.2
/-- copy again, behind other tries -/
theorem CK.copyQ (c : CK I A G P W ro pu) (i1 : frQ A A') : fX8_copy 31 27 (encC I A' L pr ot T) = some ((), (encC I (u1 A' 32 (A 28)) L pr ot T)) ∧ frQ A (u1 A' 32 (A 28)) := by
  have e : A' 28 = A 28 := i1.1 28 (by omega)
  have h := c_copy (I := I) (A := A') (L := L) (pr := pr) (ot := ot) (T := T) (by rw [e]; exact c.2.2.2.2.1.1) (i1.2 c.2.2.2.2.2)
  rw [e] at h
  exact ⟨h, fun x hx => by rw [u1_eq, if_neg (by omega)]; exact i1.1 x hx, fun _ => by rw [u1_eq, if_pos rfl]; exact c.2.2.2.2.1.1⟩
theorem CK.pass (c : CK I A G P W ro pu) (i1 : frQ A A') (i2 : A' 32 = Z) (hz : OK G P Z) (hp : p < P) (hn : n < 2000) : ∃ A2, fX8_pass 31 (iN p) (iN n) ro (encC I A' L pr ot T) = some ((), (encC I A2 L pr ot T)) ∧ frQ A A2 ∧ A2 32 = psZ A pu G p Z n := by
  obtain ⟨hF, hT, hro, hr, -⟩ := c
  have h6 := hF.2.2.2.2.1
  obtain ⟨A2, f1, f2, f3⟩ := c_pass (I := I) (A := A') (L := L) (pr := pr) (ot := ot) (T := T) (o := 31) (W := W) (N := n) hF (Or.inr rfl) hro (i1.rr hro hr) hp (by show okH (A' 32) p; rw [i2]; exact hz.2.2.1 p (by omega)) hn
  have f4 : A2 32 = psZ A pu G p Z n := by
    refine f3.trans ?_
    show psZ A' pu G p (A' 32) n = _
    rw [i2]
    exact psZ_congr (i1.1 12 (by omega)) (i1.1 13 (by omega)) (i1.1 14 (by omega)) n
  exact ⟨A2, f1, i1.trans (f2.q hro (by rw [f4]; exact (hz.ps hF.2.2.2.1 (by omega) n).1)), f4⟩
theorem CK.wants (c : CK I A G P W ro pu) (i1 : frQ A A') (i2 : A' 32 = Z) (hp : p < P) : fX8_wantsOf 31 (iN p) (encC I A' L pr ot T) = some (waS A Z W p, (encC I A' L pr ot T)) := by
  have f := c_wantsOf (I := I) (A := A') (L := L) (pr := pr) (ot := ot) (T := T) (o := 31) (p := p) c.1 (i1.ts c.2.1) (Or.inr rfl) (by have := c.1.2.2.2.2.1; omega)
  rw [i1.wa, show A' (31 + 1) = Z from i2] at f
  exact f
theorem CK.wantsN (c : CK I A G P W ro pu) (i1 : frQ A A') (hp : p < P) : fX8_wantsOf 27 (iN p) (encC I A' L pr ot T) = some (waS A (A 28) W p, (encC I A' L pr ot T)) := by
  have f := c_wantsOf (I := I) (A := A') (L := L) (pr := pr) (ot := ot) (T := T) (o := 27) (p := p) c.1 (i1.ts c.2.1) (Or.inl rfl) (by have := c.1.2.2.2.2.1; omega)
  rw [i1.wa, show A' (27 + 1) = A 28 from i1.1 28 (by omega)] at f
  exact f
theorem CK.i (c : CK I A G P W ro pu) {v : Int32} : CK (u2 I 9 1 v) A G P W ro pu := by
  obtain ⟨hF, hT, hro, hr, h⟩ := c
  refine ⟨hF, hT, hro, ?_, h⟩
  obtain ⟨m1, m, m2, m3, m4⟩ := hr
  exact ⟨m1, m, m2, by rw [u2_eq, if_neg (by omega)]; exact m3, m4⟩
theorem CP.lay {a b : Nat → Int32} (hc : CP Z a) : CP Z (va_cpy a b 0 0 88) := hc.ext (fun k hk => by
  have := cpy_in (f := a) (g := b) (k := 0) (n := 88) hk
  rw [Nat.zero_add] at this
  exact this)
theorem MKK.fr (m : MKK A J B G P W ru pu) (i1 : frRJ J J') (i2 : frRB B B') : MKK A J' B' G P W ru pu := by
  obtain ⟨h1, h2, ⟨nr, h3, h4⟩, h5, h6⟩ := m
  exact ⟨h1.q i1 i2, h2, ⟨nr, by rw [i2 21 (by omega)]; exact h3, by rw [i1 23 (by omega)]; exact h4⟩, h5, by rw [i2 0 (by omega)]; exact h6⟩
theorem MKK.layQ (m : MKK A J B G P W ru pu) (i2 : frRB B B') : ∃ X, fX12_lay 46 61 (iN 0) (encC I E L pr ot (encR J' B' M rdv' ru T)) = some ((), (encC I E L pr ot (encR J' (u1 B' 29 X) M rdv' ru T))) ∧ CP (A 28) X ∧ frRB B (u1 B' 29 X) := by
  refine ⟨_, r_layT, ?_, i2.trans frRB.lay⟩
  rw [i2 0 (by omega)]
  exact m.2.2.2.2.lay
theorem MKK.day (m : MKK A J B G P W ru pu) (i1 : frK J J') (i2 : frRB B B') (i3 : CP Z (B' 29)) (hz : OK G P Z) : ∃ J2 B2 rdv2, fX12_goDay 45 61 (encC I E L pr ot (encR J' B' M rdv' ru T)) = some ((), (encC I E L pr ot (encR J2 B2 M rdv2 ru T))) ∧ frK J J2 ∧ frRB B B2 ∧ CP (daM A pu G P Z) (B2 29) := by
  obtain ⟨h1, h2, ⟨nr, h3, h4⟩, h5⟩ := m
  obtain ⟨J2, B2, rdv2, e1, e2, -, e4, e5⟩ := r_goDay (I := I) (E := E) (L := L) (pr := pr) (ot := ot) (M := M) (rdv := rdv') (ru := ru) (T := T) (J := J') (B := B') (R := B 21) (oa := 61) (h1.q i1.r i2) h3 ((i1.r 23 (by omega)).trans h4) (by subst h2; exact i2 21 (by omega)) (Or.inl h2) (Or.inr rfl) i3 hz
  exact ⟨J2, B2, rdv2, e1, i1.trans e2, i2.trans e4.r, e5⟩
theorem MKK.days (m : MKK A J B G P W ru pu) (i1 : frK J J') (i2 : frRB B B') (i3 : CP Z (B' 29)) (hz : OK G P Z) (hn : n < 2000) : ∃ J2 B2 rdv2, fX12_goDays 45 61 (iN n) (encC I E L pr ot (encR J' B' M rdv' ru T)) = some ((), (encC I E L pr ot (encR J2 B2 M rdv2 ru T))) ∧ frK J J2 ∧ frRB B B2 ∧ CP (daN A pu G P Z n) (B2 29) := by
  obtain ⟨h1, h2, ⟨nr, h3, h4⟩, h5⟩ := m
  obtain ⟨J2, B2, rdv2, e1, e2, -, e4, e5⟩ := r_goDays (I := I) (E := E) (L := L) (pr := pr) (ot := ot) (M := M) (rdv := rdv') (ru := ru) (T := T) (J := J') (B := B') (R := B 21) (oa := 61) (h1.q i1.r i2) h3 ((i1.r 23 (by omega)).trans h4) (by subst h2; exact i2 21 (by omega)) (Or.inl h2) (Or.inr rfl) i3 hz hn
  exact ⟨J2, B2, rdv2, e1, i1.trans e2, i2.trans e4.r, e5⟩
theorem MKK.alone (m : MKK A J B G P W ru pu) (i1 : frJ J J') (i2 : frRB B B') (i3 : CP Z (B' 29)) (hz : OK G P Z) (hp : p < P) : ∃ J2 B2 rdv2, fX12_goAlone 45 (iN p) (encC I E L pr ot (encR J' B' M rdv' ru T)) = some ((), (encC I E L pr ot (encR J2 B2 M rdv2 ru T))) ∧ frJ J J2 ∧ frRB B B2 ∧ CP (dyP A pu G p Z) (B2 29) := by
  obtain ⟨h1, h2, ⟨nr, h3, h4⟩, h5⟩ := m
  obtain ⟨J2, B2, rdv2, e1, e2, e4, e5⟩ := r_goAlone (I := I) (E := E) (L := L) (pr := pr) (ot := ot) (M := M) (rdv := rdv') (ru := ru) (T := T) (J := J') (B := B') (R := B 21) (h1.q i1.k.r i2) h3 ((i1.k.r 23 (by omega)).trans h4) (by subst h2; exact i2 21 (by omega)) (Or.inl h2) hp i3 hz
  exact ⟨J2, B2, rdv2, e1, i1.trans e2, i2.trans e4.r, e5⟩
theorem MKK.had (m : MKK A J B G P W ru pu) (i1 : frRJ J J') (i2 : frRB B B') (i3 : CP Z (B' 29)) (hz : OK G P Z) (hp : p < P) : fX12_had 45 61 (iN p) (encC I E L pr ot (encR J' B' M rdv' ru T)) = some (waS A Z W p, (encC I E L pr ot (encR J' B' M rdv' ru T))) :=
  r_had (oa := 61) (m.1.q i1 i2) (Or.inr rfl) i3 (by have := m.1.2.2.2.2.1; omega) (hz.2.2.1 p (by have := m.1.2.2.2.2.1; omega))
theorem MKK.hadN (m : MKK A J B G P W ru pu) (i1 : frRJ J J') (i2 : frRB B B') (hp : p < P) : fX12_had 45 46 (iN p) (encC I E L pr ot (encR J' B' M rdv' ru T)) = some (waS A (A 28) W p, (encC I E L pr ot (encR J' B' M rdv' ru T))) :=
  r_had (oa := 46) (m.1.q i1 i2) (Or.inl rfl) (by rw [fb_46, i2 0 (by omega)]; exact m.2.2.2.2) (by have := m.1.2.2.2.2.1; omega) (m.2.2.2.1.2.2.1 p (by have := m.1.2.2.2.2.1; omega))
theorem MKK.hu (i3 : CP Z (B' 29)) (hp : p < 6) {h : Nat} (hh : h < 4) : fX12_humour 61 (iN p) (iN h) (encC I E L pr ot (encR J' B' M rdv' ru T)) = some (Z (8 + p * 4 + h), (encC I E L pr ot (encR J' B' M rdv' ru T))) :=
  r_humour (oa := 61) (Or.inr rfl) hp hh i3
end TB
