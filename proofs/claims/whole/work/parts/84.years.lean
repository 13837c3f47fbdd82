/-! CALL: years -/
theorem arg_rg (m n : Nat) (hn : n < 2147483647) (hm : m ≤ n) (x : Int32) : (∃ k, m ≤ k ∧ k ≤ n ∧ x = iN k) ∨ ¬ (iN m ≤ x ∧ x ≤ iN n) := by
  by_cases c : iN m ≤ x ∧ x ≤ iN n
  · have h0 : (0 : Int32) ≤ x := by
      have h1 := c.1
      rw [Int32.le_iff_toInt_le, iN_int (by omega)] at h1
      rw [Int32.le_iff_toInt_le, show (0 : Int32).toInt = 0 by decide]
      omega
    obtain ⟨k, hk, rfl⟩ := iN_of' h0 c.2 hn
    have h1 := c.1
    rw [iN_le (by omega) (by omega)] at h1
    exact Or.inl ⟨k, h1, hk, rfl⟩
  · exact Or.inr c
def lotN (d : Int32) (m : Nat) : Nat := d.toUInt32.toNat / 65536 % m
def drw (d : Int32) : Int32 := d * (1103515245 : Int32) + (12345 : Int32)
theorem sh16 (d : Int32) : (d.toUInt32 >>> ((16 : Int32).toUInt32 &&& Int32.toUInt32 31)).toInt32 = iN (d.toUInt32.toNat / 65536) := by
  have e : ((16 : Int32).toUInt32 &&& Int32.toUInt32 31) = 16 := by decide
  rw [e]
  apply Int32.toBitVec_inj.mp
  apply BitVec.eq_of_toNat_eq
  have h := d.toUInt32.toNat_lt
  show (d.toUInt32 >>> 16).toNat = (BitVec.ofNat 32 (d.toUInt32.toNat / 65536)).toNat
  rw [UInt32.toNat_shiftRight, BitVec.toNat_ofNat, show (16 : UInt32).toNat % 32 = 16 from rfl, Nat.shiftRight_eq_div_pow, Nat.mod_eq_of_lt (a := d.toUInt32.toNat / 65536) (by omega)]
theorem lotE (d : Int32) {m : Nat} (h0 : 0 < m) (hm : m < 2147483648) : (d.toUInt32 >>> ((16 : Int32).toUInt32 &&& Int32.toUInt32 31)).toInt32 - (d.toUInt32 >>> ((16 : Int32).toUInt32 &&& Int32.toUInt32 31)).toInt32 / iN m * iN m = iN (lotN d m) := by
  have h := d.toUInt32.toNat_lt
  have hq : d.toUInt32.toNat / 65536 < 65536 := by omega
  rw [sh16]
  unfold lotN
  generalize d.toUInt32.toNat / 65536 = q at *
  have e1 : iN q / iN m = iN (q / m) := by
    apply Int32.toInt_inj.mp
    have hle : q / m ≤ q := Nat.div_le_self q m
    rw [Int32.toInt_div, iN_int (by omega), iN_int (by omega), iN_int (by omega)]
    rw [Int.tdiv_eq_ediv_of_nonneg (by omega), ← Int.natCast_ediv]
    generalize q / m = e at hle ⊢
    exact Int.bmod_eq_of_le (by omega) (by omega)
  have e2 := Nat.div_add_mod q m
  have e3 : q / m * m ≤ q := Nat.div_mul_le_self q m
  rw [e1, iN_mul, iN_sub e3]
  congr 1
  rw [Nat.mul_comm] at e2
  omega
theorem lotN_lt {d : Int32} {m : Nat} (h0 : 0 < m) : lotN d m < m := Nat.mod_lt _ h0
def gvZ (Z : Nat → Int32) (p g : Nat) : Nat → Int32 := if hdB Z p g = true then Z else if Z g = 0 then Z else giZ Z p g
def bkZ (Z : Nat → Int32) (p g : Nat) : Nat → Int32 := if hdB Z p g = true then tbZ Z p g else Z
/-- a draw of the year, and what it leaves -/
def yrS (A : Nat → Nat → Int32) (pu : (Nat → Int32) → Int32) (G P : Nat) (q : Int32 × (Nat → Int32)) : Int32 × (Nat → Int32) :=
  if 2 ≤ lotN (drw q.1) 4 then
    if P = 0 ∨ G = 0 then (drw q.1, q.2)
    else (drw (drw (drw q.1)), if lotN (drw q.1) 4 = 2 then gvZ q.2 (lotN (drw (drw q.1)) P) (lotN (drw (drw (drw q.1))) G) else bkZ q.2 (lotN (drw (drw q.1)) P) (lotN (drw (drw (drw q.1))) G))
  else (drw q.1, daM A pu G P q.2)
def yrN (A : Nat → Nat → Int32) (pu : (Nat → Int32) → Int32) (G P : Nat) (d : Int32) (Z : Nat → Int32) : Nat → Int32 × (Nat → Int32)
  | 0 => (d, Z)
  | n + 1 => yrS A pu G P (yrN A pu G P d Z n)
section YR
variable {I A E I' A' : Nat → Nat → Int32} {L L' : Nat → Int64} {pr ot s : Nat} {J J' : Nat → Int32} {B B' : Nat → Nat → Int32} {M M' : Nat → Int64} {rdv rdv' : Value} {ru : Nat} {T : PH} {G P W p q g n nr sz ro oa w t : Nat} {Z Z' R X a : Nat → Int32} {x y z d : Int32} {out : Nat → Int64} {pu : (Nat → Int32) → Int32}
theorem ge1 {v : Int32} (h : 0 ≤ v) (hs : ¬ v = 0) : (1 : Int32) ≤ v := by
  rw [Int32.le_iff_toInt_le] at h ⊢
  have i0 : (0 : Int32).toInt = 0 := by decide
  have i1 : (1 : Int32).toInt = 1 := by decide
  have : ¬ v.toInt = 0 := fun c => hs (Int32.toInt_inj.mp (by rw [c, i0]))
  omega
theorem OK.gv (hz : OK G P Z) (h8 : G ≤ 8) (h6 : P ≤ 6) (hp : p < P) (hg : g < G) : OK G P (gvZ Z p g) := by
  unfold gvZ
  split
  · exact hz
  · split
    · exact hz
    · rename_i _ c
      exact hz.gi h8 h6 hp hg (ge1 (hz.2.1 g (by omega)).1 c)
theorem OK.bk (hz : OK G P Z) (h8 : G ≤ 8) (h6 : P ≤ 6) (hp : p < P) (hg : g < G) : OK G P (bkZ Z p g) := by
  unfold bkZ
  split
  · exact hz.tb h8 h6 hp hg
  · exact hz
theorem OK.yr1 {q : Int32 × (Nat → Int32)} (hz : OK G P q.2) (h8 : G ≤ 8) (h6 : P ≤ 6) : OK G P (yrS A pu G P q).2 := by
  unfold yrS
  by_cases c : 2 ≤ lotN (drw q.1) 4
  · rw [if_pos c]
    by_cases c2 : P = 0 ∨ G = 0
    · rw [if_pos c2]; exact hz
    · rw [if_neg c2]
      dsimp only
      split
      · exact hz.gv h8 h6 (lotN_lt (by omega)) (lotN_lt (by omega))
      · exact hz.bk h8 h6 (lotN_lt (by omega)) (lotN_lt (by omega))
  · rw [if_neg c]
    exact hz.da h8 h6
theorem OK.yr2 {d : Int32} (hz : OK G P Z) (h8 : G ≤ 8) (h6 : P ≤ 6) : ∀ n, OK G P (yrN A pu G P d Z n).2
  | 0 => hz
  | n + 1 => (OK.yr2 hz h8 h6 n).yr1 h8 h6
theorem c_lot {m : Nat} {h : PH} (h0 : 0 < m) (hm : m < 2147483648) : fX11_lot d (iN m) h = some (iN (lotN d m), h) := by
  unfold fX11_lot
  rw [if_neg (by rw [show (0 : Int32) = iN 0 from rfl, iN_le (by omega) (by omega)]; omega), if_neg (by rw [show (0 : Int32) = iN 0 from rfl, iN_eq (by omega) (by omega)]; omega), lotE d h0 hm]
theorem c_drawn {h : PH} : fX11_drawn d h = some (drw d, h) := rfl
theorem c_gv (hF : FS I G P W) (i2 : A' 32 = Z) (hz : OK G P Z) (hp : p < P) (hg : g < G) : ∃ v, fX8_give 31 (iN p) (iN g) (encC I A' L pr ot T) = some (v, (encC I (u1 A' 32 (gvZ Z p g)) L pr ot T)) := by
  have h8 := hF.2.2.2.1
  subst i2
  unfold gvZ
  cases hb : hdB (A' 32) p g with
  | true => rw [if_pos rfl, u1_self]; exact ⟨_, c_give_h hF (Or.inr rfl) hp hg hb⟩
  | false =>
    rw [if_neg (by decide)]
    by_cases hs : A' 32 g = 0
    · rw [if_pos hs, u1_self]; exact ⟨_, c_give_o hF (Or.inr rfl) hp hg hb hs⟩
    · rw [if_neg hs]; exact ⟨_, c_give_k hF (Or.inr rfl) hp hg hb (ge1 (hz.2.1 g (by omega)).1 hs)⟩
theorem c_bk (hF : FS I G P W) (i2 : A' 32 = Z) (hp : p < P) (hg : g < G) : ∃ v, fX8_takeBack 31 (iN p) (iN g) (encC I A' L pr ot T) = some (v, (encC I (u1 A' 32 (bkZ Z p g)) L pr ot T)) := by
  subst i2
  unfold bkZ
  cases hb : hdB (A' 32) p g with
  | true => rw [if_pos rfl]; exact ⟨_, c_takeBack_k hF (Or.inr rfl) hp hg hb⟩
  | false => rw [if_neg (by decide), u1_self]; exact ⟨_, c_takeBack_h hF (Or.inr rfl) hp hg hb⟩
theorem frQ.zz (i1 : frQ A A') (hz : nz Z) : frQ A (u1 A' 32 Z) := ⟨fun x hx => by rw [u1_eq, if_neg (by omega)]; exact i1.1 x hx, fun _ => by rw [u1_eq, if_pos rfl]; exact hz⟩
theorem CK.passA (c : CK I A G P W ro pu) (i1 : frQ A A') (i2 : A' 32 = Z) (hz : OK G P Z) : ∃ A2, fX8_passAll 31 (1 : Int32) ro (encC I A' L pr ot T) = some ((), (encC I A2 L pr ot T)) ∧ frQ A A2 ∧ A2 32 = daM A pu G P Z := by
  obtain ⟨hF, hT, hro, hr, -⟩ := c
  have h8 := hF.2.2.2.1
  have h6 := hF.2.2.2.2.1
  obtain ⟨A2, f1, f2, f3⟩ := c_passAll (I := I) (A := A') (L := L) (pr := pr) (ot := ot) (T := T) (o := 31) (W := W) (G := G) (P := P) (N := 1) hF (Or.inr rfl) hro (i1.rr hro hr) (by show ∀ p, p < 6 → okH (A' 32) p; rw [i2]; exact hz.2.2.1) (by decide)
  have f4 : A2 32 = daM A pu G P Z := by
    refine f3.trans ?_
    show paZ A' pu G P 1 (A' 32) = _
    rw [i2]
    have q0 : paF A' pu G 1 Z = paF A pu G 1 Z := by
      funext k
      induction k with
      | zero => rfl
      | succ k ih =>
        show psZ A' pu G k (upd (paF A' pu G 1 Z k) 80 _) 1 = psZ A pu G k (upd (paF A pu G 1 Z k) 80 _) 1
        rw [ih, psZ_congr (i1.1 12 (by omega)) (i1.1 13 (by omega)) (i1.1 14 (by omega)) 1]
    have q1 : paZ A' pu G P 1 Z = paZ A pu G P 1 Z := by
      unfold paZ
      rw [q0]
    rw [q1, paZ_daN h8 h6]
    rfl
  exact ⟨A2, f1, i1.trans (f2.q hro (by rw [f4]; exact (hz.da h8 h6).1)), f4⟩
theorem CK.yr1 (c : CK I A G P W pr pu) {q : Int32 × (Nat → Int32)} (i1 : frQ A A') (i2 : A' 32 = q.2) (hz : OK G P q.2) {N k : Nat} (hk : k < N) (hN : N ≤ 60) : ∃ A2, frQ A A2 ∧ A2 32 = (yrS A pu G P q).2 ∧ ∀ kx n, fX11_years_L28 0 (iN N) kx (n + 1) q.1 (iN k) (encC I A' L pr ot T) = fX11_years_L28 0 (iN N) kx n (yrS A pu G P q).1 (iN (k + 1)) (encC I A2 L pr ot T) := by
  have hF := c.1
  have h8 := hF.2.2.2.1
  have h6 := hF.2.2.2.2.1
  obtain ⟨d, Z⟩ := q
  dsimp only at *
  have l4 := lotN_lt (d := drw d) (m := 4) (by decide)
  have hst : ¬ (iN N ≤ iN k) := by rw [iN_le (by omega) (by omega)]; omega
  have e4 := c_lot (d := drw d) (m := 4) (h := (encC I A' L pr ot T)) (by decide) (by decide)
  have pS : fX0_personSize 11 (encC I A' L pr ot T) = some (iN P, (encC I A' L pr ot T)) := by rw [c_personSize, hF.2.1]
  have gS : fX0_groundSize 11 (encC I A' L pr ot T) = some (iN G, (encC I A' L pr ot T)) := by rw [c_groundSize, hF.1]
  by_cases c1 : 2 ≤ lotN (drw d) 4
  · have t1 : (2 : Int32) ≤ iN (lotN (drw d) 4) := by rw [show (2 : Int32) = iN 2 from rfl, iN_le (by omega) (by omega)]; exact c1
    by_cases c2 : P = 0
    · refine ⟨A', i1, ?_, fun kx n => ?_⟩
      · unfold yrS
        rw [if_pos c1, if_pos (Or.inl c2)]; exact i2
      · unfold yrS
        rw [if_pos c1, if_pos (Or.inl c2)]
        have t2 : iN P ≤ (0 : Int32) := by rw [show (0 : Int32) = iN 0 from rfl, iN_le (by omega) (by omega)]; omega
        show fX11_years_L28 0 (iN N) kx (n + 1) d (iN k) (encC I A' L pr ot T) = _
        rw [fX11_years_L28, if_neg hst, hb_of c_drawn, hb_of (show fX11_lot (drw d) (4 : Int32) (encC I A' L pr ot T) = _ from e4), if_pos t1, bR_0_7, bK_11, hb_of pS, if_pos t2, fX11_years_J131_28, letE_eq, show iN k + (1 : Int32) = iN (k + 1) from iN_add]
    · have t2 : ¬ iN P ≤ (0 : Int32) := by rw [show (0 : Int32) = iN 0 from rfl, iN_le (by omega) (by omega)]; omega
      by_cases c3 : G = 0
      · refine ⟨A', i1, ?_, fun kx n => ?_⟩
        · unfold yrS
          rw [if_pos c1, if_pos (Or.inr c3)]; exact i2
        · unfold yrS
          rw [if_pos c1, if_pos (Or.inr c3)]
          have t3 : iN G ≤ (0 : Int32) := by rw [show (0 : Int32) = iN 0 from rfl, iN_le (by omega) (by omega)]; omega
          show fX11_years_L28 0 (iN N) kx (n + 1) d (iN k) (encC I A' L pr ot T) = _
          rw [fX11_years_L28, if_neg hst, hb_of c_drawn, hb_of (show fX11_lot (drw d) (4 : Int32) (encC I A' L pr ot T) = _ from e4), if_pos t1, bR_0_7, bK_11, hb_of pS, if_neg t2, bR_0_7, bK_11, hb_of gS, if_pos t3, fX11_years_J131_28, letE_eq, show iN k + (1 : Int32) = iN (k + 1) from iN_add]
      · have t3 : ¬ iN G ≤ (0 : Int32) := by rw [show (0 : Int32) = iN 0 from rfl, iN_le (by omega) (by omega)]; omega
        have hp := lotN_lt (d := drw (drw d)) (m := P) (by omega)
        have hg := lotN_lt (d := drw (drw (drw d))) (m := G) (by omega)
        have lp := c_lot (d := drw (drw d)) (m := P) (h := (encC I A' L pr ot T)) (by omega) (by omega)
        have lg := c_lot (d := drw (drw (drw d))) (m := G) (h := (encC I A' L pr ot T)) (by omega) (by omega)
        have key : ∀ Z2, (∃ v : Unit, fX11_drawnAct 0 (iN (lotN (drw d) 4)) (iN (lotN (drw (drw d)) P)) (iN (lotN (drw (drw (drw d))) G)) (encC I A' L pr ot T) = some (v, (encC I (u1 A' 32 Z2) L pr ot T))) → ∀ kx n, fX11_years_L28 0 (iN N) kx (n + 1) d (iN k) (encC I A' L pr ot T) = fX11_years_L28 0 (iN N) kx n (drw (drw (drw d))) (iN (k + 1)) (encC I (u1 A' 32 Z2) L pr ot T) := by
          rintro Z2 ⟨v, e⟩ kx n
          rw [fX11_years_L28, if_neg hst, hb_of c_drawn, hb_of (show fX11_lot (drw d) (4 : Int32) (encC I A' L pr ot T) = _ from e4), if_pos t1, bR_0_7, bK_11, hb_of pS, if_neg t2, bR_0_7, bK_11, hb_of gS, if_neg t3, hb_of c_drawn, hb_of c_drawn, bR_0_7, bK_11, hb_of pS, hb_of lp, bR_0_7, bK_11, hb_of gS, hb_of lg, bK_0, hb_of e, fX11_years_J131_28, letE_eq, show iN k + (1 : Int32) = iN (k + 1) from iN_add]
        unfold yrS
        dsimp only
        rw [if_pos c1, if_neg (by omega)]
        by_cases c4 : lotN (drw d) 4 = 2
        · rw [if_pos c4]
          refine ⟨u1 A' 32 (gvZ Z (lotN (drw (drw d)) P) (lotN (drw (drw (drw d))) G)), i1.zz (hz.gv h8 h6 hp hg).1, by rw [u1_eq, if_pos rfl], key _ ?_⟩
          obtain ⟨v, e⟩ := c_gv (A' := A') (L := L) (pr := pr) (ot := ot) (T := T) hF i2 hz hp hg
          refine ⟨(), ?_⟩
          unfold fX11_drawnAct
          rw [c4, if_pos (show iN 2 = (2 : Int32) from rfl), bR_0_9, bK_31, hb_of e]
        · rw [if_neg c4]
          refine ⟨u1 A' 32 (bkZ Z (lotN (drw (drw d)) P) (lotN (drw (drw (drw d))) G)), i1.zz (hz.bk h8 h6 hp hg).1, by rw [u1_eq, if_pos rfl], key _ ?_⟩
          obtain ⟨v, e⟩ := c_bk (A' := A') (L := L) (pr := pr) (ot := ot) (T := T) hF i2 hp hg
          refine ⟨(), ?_⟩
          unfold fX11_drawnAct
          rw [if_neg (by rw [show (2 : Int32) = iN 2 from rfl, iN_eq (by omega) (by omega)]; exact c4), bR_0_9, bK_31, hb_of e]
  · have t1 : ¬ (2 : Int32) ≤ iN (lotN (drw d) 4) := by rw [show (2 : Int32) = iN 2 from rfl, iN_le (by omega) (by omega)]; exact c1
    obtain ⟨A2, f1, f2, f3⟩ := c.passA (L := L) (ot := ot) (T := T) i1 i2 hz
    refine ⟨A2, f2, ?_, fun kx n => ?_⟩
    · unfold yrS
      rw [if_neg c1]; exact f3
    · unfold yrS
      rw [if_neg c1]
      show fX11_years_L28 0 (iN N) kx (n + 1) d (iN k) (encC I A' L pr ot T) = _
      rw [fX11_years_L28, if_neg hst, hb_of c_drawn, hb_of (show fX11_lot (drw d) (4 : Int32) (encC I A' L pr ot T) = _ from e4), if_neg t1, bR_0_9, bR_0_7, bK_11, hb_of c_presentRule, bK_31, hb_of f1, fX11_years_J131_28, letE_eq, show iN k + (1 : Int32) = iN (k + 1) from iN_add]
end YR
