/-! YEAR: the acts, both sides -/
theorem i32_self (x : Int32) : x = iN x.toBitVec.toNat := by
  apply Int32.toBitVec_inj.mp
  show x.toBitVec = (Int32.ofNat x.toBitVec.toNat).toBitVec
  rw [Int32.toBitVec_ofNat']
  simp
theorem and_small {k : Nat} (z : Int32) (hk : k < 256) : ∃ m, m < 256 ∧ iN k &&& z = iN m := by
  refine ⟨(iN k &&& z).toBitVec.toNat, ?_, i32_self _⟩
  rw [Int32.toBitVec_and, BitVec.toNat_and]
  refine Nat.lt_of_le_of_lt Nat.and_le_left ?_
  show (Int32.ofNat k).toBitVec.toNat < 256
  rw [Int32.toBitVec_ofNat', BitVec.toNat_ofNat]
  exact Nat.lt_of_le_of_lt (Nat.mod_le _ _) hk
theorem bc_8 : ∀ k : Fin 256, ∃ m : Fin 9, bc (iN k.val) = iN m.val := by decide +kernel
theorem bt_nW {f : Nat → Bool} {W : Nat} (hW : W ≤ 8) : ∃ k, k < 256 ∧ bt f W = iN k := by
  refine ⟨btn (fun k => decide (k < W) && f k) 8, btn_lt 8, ?_⟩
  rw [← bt_ext 8 hW, bt_n]
theorem sm_le {f : Nat → Int32} {b : Nat} : ∀ n, (∀ k, k < n → ∃ m, m ≤ b ∧ f k = iN m) → ∃ m, m ≤ n * b ∧ sm f n = iN m
  | 0, _ => ⟨0, by omega, rfl⟩
  | n + 1, h => by
    obtain ⟨m1, a1, a2⟩ := sm_le n (fun k hk => h k (by omega))
    obtain ⟨m2, b1, b2⟩ := h n (by omega)
    refine ⟨m1 + m2, by rw [Nat.add_mul]; omega, ?_⟩
    show sm f n + f n = _
    rw [a2, b2, iN_add]
/-- the act at a: done or not, how all stands then -/
def aStp (A : Nat → Nat → Int32) (pu : (Nat → Int32) → Int32) (G P : Nat) (c : Nat → Nat) (a : Nat) (Z : Nat → Int32) : Bool × (Nat → Int32) :=
  if c a = 103 then (if c (a + 1) - 48 < P ∧ c (a + 2) - 48 < G ∧ hdB Z (c (a + 1) - 48) (c (a + 2) - 48) = false ∧ ¬ Z (c (a + 2) - 48) = 0 then (true, giZ Z (c (a + 1) - 48) (c (a + 2) - 48)) else (false, Z))
  else if c a = 116 then (if c (a + 1) - 48 < P ∧ c (a + 2) - 48 < G ∧ hdB Z (c (a + 1) - 48) (c (a + 2) - 48) = true then (true, tbZ Z (c (a + 1) - 48) (c (a + 2) - 48)) else (false, Z))
  else if c a = 109 then (if c (a + 1) - 48 < G then (true, mkZ Z (c (a + 1) - 48) (iN (c (a + 2) - 48))) else (false, Z))
  else (true, daN A pu G P Z (c (a + 1) - 48))
section YA
variable {I A E I' A' : Nat → Nat → Int32} {L L' : Nat → Int64} {pr ot s : Nat} {J J' : Nat → Int32} {B B' : Nat → Nat → Int32} {M M' : Nat → Int64} {rdv rdv' : Value} {ru : Nat} {T : PH} {G P W n top fi w room most o k N i t l q ch a nr : Nat} {c : Nat → Nat} {st : RSt} {X Y Z R : Nat → Int32} {pu : (Nat → Int32) → Int32}
theorem spC_ok (h7 : W ≤ 6) : ∃ m, m ≤ P * (N * 8) ∧ spC A pu G W N Z P = iN m := by
  refine sm_le P (fun p _ => sm_le N (fun k _ => ?_))
  obtain ⟨x, hx, ex⟩ := bt_nW (f := hwB A (psZ A pu G p (upd (paF A pu G N Z p) 80 (Z 80)) (k + 1)) p) (W := W) (by omega)
  show ∃ m, m ≤ 8 ∧ bc (bt _ W &&& _) = iN m
  rw [ex]
  obtain ⟨y, hy, ey⟩ := and_small (waS A (psZ A pu G p (upd (paF A pu G N Z p) 80 (Z 80)) k) W p ^^^ (-1 : Int32)) hx
  rw [ey]
  obtain ⟨m, hm⟩ := bc_8 ⟨y, hy⟩
  exact ⟨m.val, by omega, hm⟩
theorem paZ_cong (h2 : A' 12 = A 12) (h3 : A' 13 = A 13) (h4 : A' 14 = A 14) : paZ A' pu G P N Z = paZ A pu G P N Z := by
  have q0 : paF A' pu G N Z = paF A pu G N Z := by
    funext k
    induction k with
    | zero => rfl
    | succ k ih =>
      show psZ A' pu G k (upd (paF A' pu G N Z k) 80 _) N = psZ A pu G k (upd (paF A pu G N Z k) 80 _) N
      rw [ih, psZ_congr h2 h3 h4 N]
  unfold paZ
  rw [q0]
theorem daN_cong (h2 : A' 12 = A 12) (h3 : A' 13 = A 13) (h4 : A' 14 = A 14) (h8 : G ≤ 8) (h6 : P ≤ 6) : daN A' pu G P Z N = daN A pu G P Z N := by
  rw [← paZ_daN h8 h6, ← paZ_daN h8 h6, paZ_cong h2 h3 h4]
theorem aStp_cong (h2 : A' 12 = A 12) (h3 : A' 13 = A 13) (h4 : A' 14 = A 14) (h8 : G ≤ 8) (h6 : P ≤ 6) : aStp A' pu G P c a Z = aStp A pu G P c a Z := by
  unfold aStp
  rw [daN_cong h2 h3 h4 h8 h6]
theorem aStp_ok (hz : OK G P Z) (h8 : G ≤ 8) (h6 : P ≤ 6) (hk : ALc c a) : OK G P (aStp A pu G P c a Z).2 := by
  unfold aStp
  by_cases d3 : c a = 103
  · rw [if_pos d3]
    by_cases e : c (a + 1) - 48 < P ∧ c (a + 2) - 48 < G ∧ hdB Z (c (a + 1) - 48) (c (a + 2) - 48) = false ∧ ¬ Z (c (a + 2) - 48) = 0
    · rw [if_pos e]; exact hz.gi h8 h6 e.1 e.2.1 (ge1 (hz.2.1 _ (by omega)).1 e.2.2.2)
    · rw [if_neg e]; exact hz
  rw [if_neg d3]
  by_cases d6 : c a = 116
  · rw [if_pos d6]
    by_cases e : c (a + 1) - 48 < P ∧ c (a + 2) - 48 < G ∧ hdB Z (c (a + 1) - 48) (c (a + 2) - 48) = true
    · rw [if_pos e]; exact hz.tb h8 h6 e.1 e.2.1
    · rw [if_neg e]; exact hz
  rw [if_neg d6]
  by_cases d9 : c a = 109
  · rw [if_pos d9]
    by_cases e : c (a + 1) - 48 < G
    · rw [if_pos e]; exact hz.mk h8 e (by have := hk.2.2.1 (by omega); omega)
    · rw [if_neg e]; exact hz
  rw [if_neg d9]
  exact hz.dn h8 h6 _
theorem not_rg {p P : Nat} (h : ¬ p < P) (hp : p < 100) (hP : P < 100) : ¬ (0 ≤ iN p ∧ iN p < iN P) := fun d => h (by
  have := d.2
  rw [iN_lt (by omega) (by omega)] at this
  exact this)
theorem neg1_lt : (-1 : Int32) < 0 := by decide
theorem c_actY (hF : FS I G P W) (hT : TS A W) (hro : pr = 19 ∨ pr = 23) (hr : RU I A pr pu) (hz : OK G P (A 28)) (h1 : I 1 1 = iN n) (hn : n ≤ 80) (hc : ∀ k, k < n → c k < 256 ∧ A 2 k = iN (c k)) (hk : ALc c a) (ha : a + (if c a = 100 then 2 else 3) ≤ n) :
    ∃ v A', fX11_act 0 (iN a) (encC I A L pr ot T) = some (v, (encC I A' L pr ot T)) ∧ frL 27 pr A A' ∧ A' 28 = (aStp A pu G P c a (A 28)).2 ∧ (if v < 0 then (1 : Int32) else 0) = (if (aStp A pu G P c a (A 28)).1 then 0 else 1) := by
  obtain ⟨k1, k2, k3, k4⟩ := hk
  have h8 := hF.2.2.2.1
  have h6 := hF.2.2.2.2.1
  have hca : ∀ k, k < n → A 2 k = iN (c k) := fun k hk => (hc k hk).2
  have a1 : a + 1 < n := by split at ha <;> omega
  have d1 := c_digitAt (L := L) (pr := pr) (ot := ot) (T := T) h1 hn hca (show a + 1 < n from a1) k2.1
  have d3 := c_at (L := L) (pr := pr) (ot := ot) (T := T) h1 hn hca (show a < 1000 by omega)
  rw [show hrV n 1000 c a = iN (c a) from if_pos ⟨by omega, by omega⟩] at d3
  have d2 : ∃ v2, fX7_digitAt 1 (iN (a + 2)) (encC I A L pr ot T) = some (v2, (encC I A L pr ot T)) ∧ (c a ≠ 100 → v2 = iN (c (a + 2) - 48)) := by
    by_cases e : c a = 100
    · refine ⟨hrV n 1000 c (a + 2) - 48, ?_, fun f => absurd e f⟩
      unfold fX7_digitAt
      rw [bK_1, hb_of (c_at h1 hn hca (by omega))]
    · rw [if_neg e] at ha
      exact ⟨_, c_digitAt h1 hn hca (by omega) (k3 e).1, fun _ => rfl⟩
  obtain ⟨v2, d2, e2⟩ := d2
  have q : ∀ m, m < 256 → (iN (c a) = iN m) = (c a = m) := fun m hm => iN_eq (by unfold kdY at k1; omega) (by omega)
  have start : fX11_act 0 (iN a) (encC I A L pr ot T) = if iN (c a) = (103 : Int32) then ((h_gr 10 8 (encC I A L pr ot T) 0).bind fun q10 => (h_ck 7 (encC I A L pr ot T) q10).bind fun _ => h_bd (fX8_give q10 (iN (c (a + 1) - 48)) v2 (encC I A L pr ot T)) fun x11 h12 => some (x11, h12)) else if iN (c a) = (109 : Int32) then ((h_gr 10 8 (encC I A L pr ot T) 0).bind fun q16 => (h_ck 7 (encC I A L pr ot T) q16).bind fun _ => h_bd (fX8_make q16 (iN (c (a + 1) - 48)) v2 (encC I A L pr ot T)) fun x17 h18 => some (x17, h18)) else if iN (c a) = (116 : Int32) then ((h_gr 10 8 (encC I A L pr ot T) 0).bind fun q22 => (h_ck 7 (encC I A L pr ot T) q22).bind fun _ => h_bd (fX8_takeBack q22 (iN (c (a + 1) - 48)) v2 (encC I A L pr ot T)) fun x23 h24 => some (x23, h24)) else ((h_gr 10 8 (encC I A L pr ot T) 0).bind fun q28 => (h_gr 10 7 (encC I A L pr ot T) 0).bind fun q29 => (h_ck 0 (encC I A L pr ot T) q29).bind fun _ => h_bd (fX0_presentRule q29 (encC I A L pr ot T)) fun q30 h31 => (h_ck 7 h31 q28).bind fun _ => h_bd (fX8_spend q28 (iN (c (a + 1) - 48)) q30 h31) fun x32 h33 => some (x32, h33)) := by
    unfold fX11_act
    rw [bR_0_0, bK_1, show iN a + (1 : Int32) = iN (a + 1) from iN_add, hb_of d1, bR_0_0, bK_1, show iN a + (2 : Int32) = iN (a + 2) from iN_add, hb_of d2, bR_0_0, bK_1, hb_of d3]
  rw [start]
  have frZ : ∀ Z, frL 27 pr A (u1 A 28 Z) := fun Z x x1 x2 x3 x4 => u1_o x1
  have nn : ∀ {v : Int32}, 0 ≤ v → (if v < 0 then (1 : Int32) else 0) = 0 := fun {v} h => if_neg (by rw [nn_lt h]; exact id)
  by_cases c3 : c a = 103
  · rw [if_pos (show iN (c a) = 103 by rw [c3]; rfl), bR_0_8, bK_27, e2 (by omega)]
    have k3' := k3 (by omega)
    have es : aStp A pu G P c a (A 28) = if c (a + 1) - 48 < P ∧ c (a + 2) - 48 < G ∧ hdB (A 28) (c (a + 1) - 48) (c (a + 2) - 48) = false ∧ ¬ A 28 (c (a + 2) - 48) = 0 then (true, giZ (A 28) (c (a + 1) - 48) (c (a + 2) - 48)) else (false, A 28) := if_pos c3
    by_cases hp : c (a + 1) - 48 < P
    · by_cases hg : c (a + 2) - 48 < G
      · cases hb : hdB (A 28) (c (a + 1) - 48) (c (a + 2) - 48) with
        | true =>
          rw [es, if_neg (by rw [hb]; intro f; cases f.2.2.1), hb_of (c_give_h hF (Or.inl rfl) hp hg hb)]
          exact ⟨_, A, rfl, frL.refl, rfl, rfl⟩
        | false =>
          by_cases hs : A 28 (c (a + 2) - 48) = 0
          · rw [es, if_neg (fun f => f.2.2.2 hs), hb_of (c_give_o hF (Or.inl rfl) hp hg hb hs)]
            exact ⟨_, A, rfl, frL.refl, rfl, rfl⟩
          · have g1 := ge1 (hz.2.1 _ (by omega)).1 hs
            have hz' : OK G P (giZ (A 28) (c (a + 1) - 48) (c (a + 2) - 48)) := hz.gi h8 h6 hp hg g1
            rw [es, if_pos ⟨hp, hg, hb, hs⟩, hb_of (c_give_k hF (Or.inl rfl) hp hg hb g1)]
            refine ⟨_, _, rfl, frZ _, u1_at, ?_⟩
            rw [show gsS (giZ (A (27 + 1)) (c (a + 1) - 48) (c (a + 2) - 48)) G (c (a + 1) - 48) = bt (hdB (giZ (A 28) (c (a + 1) - 48) (c (a + 2) - 48)) (c (a + 1) - 48)) 8 from hz'.gs h8 (by omega)]
            exact nn (bc_bt _)
      · rw [es, if_neg (fun f => hg f.2.1), hb_of (c_give_n hF (fun f => not_rg hg (by omega) (by omega) f.2) (Or.inl rfl))]
        exact ⟨_, A, rfl, frL.refl, rfl, rfl⟩
    · rw [es, if_neg (fun f => hp f.1), hb_of (c_give_n hF (fun f => not_rg hp (by omega) (by omega) f.1) (Or.inl rfl))]
      exact ⟨_, A, rfl, frL.refl, rfl, rfl⟩
  rw [if_neg (show ¬ iN (c a) = 103 from fun f => c3 ((q 103 (by decide)).mp f))]
  by_cases c9 : c a = 109
  · rw [if_pos (show iN (c a) = 109 by rw [c9]; rfl), bR_0_8, bK_27, e2 (by omega)]
    have k3' := k3 (by omega)
    have k4' := k4 c9
    have es : aStp A pu G P c a (A 28) = if c (a + 1) - 48 < G then (true, mkZ (A 28) (c (a + 1) - 48) (iN (c (a + 2) - 48))) else (false, A 28) := (if_neg c3).trans ((if_neg (by omega)).trans (if_pos c9))
    by_cases hg : c (a + 1) - 48 < G
    · rw [es, if_pos hg, hb_of (c_make_k hF (Or.inl rfl) hg (by omega) (by omega))]
      exact ⟨_, _, rfl, frZ _, u1_at, nn (mn99_k (hz.2.1 _ (by omega)).1 (hz.2.1 _ (by omega)).2 (by omega)).1⟩
    · rw [es, if_neg hg, hb_of (c_make_n hF (fun f => not_rg hg (by omega) (by omega) f.1) (Or.inl rfl))]
      exact ⟨_, A, rfl, frL.refl, rfl, rfl⟩
  rw [if_neg (show ¬ iN (c a) = 109 from fun f => c9 ((q 109 (by decide)).mp f))]
  by_cases c6 : c a = 116
  · rw [if_pos (show iN (c a) = 116 by rw [c6]; rfl), bR_0_8, bK_27, e2 (by omega)]
    have k3' := k3 (by omega)
    have es : aStp A pu G P c a (A 28) = if c (a + 1) - 48 < P ∧ c (a + 2) - 48 < G ∧ hdB (A 28) (c (a + 1) - 48) (c (a + 2) - 48) = true then (true, tbZ (A 28) (c (a + 1) - 48) (c (a + 2) - 48)) else (false, A 28) := (if_neg c3).trans (if_pos c6)
    by_cases hp : c (a + 1) - 48 < P
    · by_cases hg : c (a + 2) - 48 < G
      · cases hb : hdB (A 28) (c (a + 1) - 48) (c (a + 2) - 48) with
        | false =>
          rw [es, if_neg (by rw [hb]; intro f; cases f.2.2), hb_of (c_takeBack_h hF (Or.inl rfl) hp hg hb)]
          exact ⟨_, A, rfl, frL.refl, rfl, rfl⟩
        | true =>
          have hz' : OK G P (tbZ (A 28) (c (a + 1) - 48) (c (a + 2) - 48)) := hz.tb h8 h6 hp hg
          rw [es, if_pos ⟨hp, hg, hb⟩, hb_of (c_takeBack_k hF (Or.inl rfl) hp hg hb)]
          refine ⟨_, _, rfl, frZ _, u1_at, ?_⟩
          rw [show gsS (tbZ (A (27 + 1)) (c (a + 1) - 48) (c (a + 2) - 48)) G (c (a + 1) - 48) = bt (hdB (tbZ (A 28) (c (a + 1) - 48) (c (a + 2) - 48)) (c (a + 1) - 48)) 8 from hz'.gs h8 (by omega)]
          exact nn (bc_bt _)
      · rw [es, if_neg (fun f => hg f.2.1), hb_of (c_takeBack_n hF (fun f => not_rg hg (by omega) (by omega) f.2) (Or.inl rfl))]
        exact ⟨_, A, rfl, frL.refl, rfl, rfl⟩
    · rw [es, if_neg (fun f => hp f.1), hb_of (c_takeBack_n hF (fun f => not_rg hp (by omega) (by omega) f.1) (Or.inl rfl))]
      exact ⟨_, A, rfl, frL.refl, rfl, rfl⟩
  rw [if_neg (show ¬ iN (c a) = 116 from fun f => c6 ((q 116 (by decide)).mp f)), bR_0_8, bR_0_7, bK_11, hb_of c_presentRule, bK_27]
  have es : aStp A pu G P c a (A 28) = (true, daN A pu G P (A 28) (c (a + 1) - 48)) := (if_neg c3).trans ((if_neg c6).trans (if_neg c9))
  obtain ⟨A2, f1, f2, f3⟩ := c_spend (L := L) (pr := pr) (ot := ot) (T := T) (o := 27) (N := c (a + 1) - 48) hF hT (Or.inl rfl) hro hr hz.2.2.1 (by omega)
  obtain ⟨m, m1, m2⟩ := spC_ok (A := A) (pu := pu) (G := G) (P := P) (N := c (a + 1) - 48) (Z := A (27 + 1)) hF.2.2.2.2.2
  rw [es, hb_of f1]
  refine ⟨_, A2, rfl, f2, f3.trans (paZ_daN h8 h6), ?_⟩
  rw [m2]
  have m3 : P * ((c (a + 1) - 48) * 8) ≤ 6 * (10 * 8) := Nat.mul_le_mul h6 (Nat.mul_le_mul (by omega) (Nat.le_refl 8))
  exact if_neg (by rw [show (0 : Int32) = iN 0 from rfl, iN_lt (by omega) (by omega)]; omega)
theorem r_actY (hM : FM A J B G P W) (hu : MUR nr R pu) (hJ : J 23 = iN nr) (hR : B (rf ru) = R) (hru : ru = 56 ∨ ru = 57) (hcp : CP Z (B 0)) (hz : OK G P Z) (hk : ALc c a) {v : Int32} (hv : c a ≠ 100 → v = iN (c (a + 2) - 48)) :
    ∃ J' B' rdv', fX12_act 45 (iN (c a)) (iN (c (a + 1) - 48)) v (encC I E L pr ot (encR J B M rdv ru T)) = some ((if (aStp A pu G P c a Z).1 then 1 else 0), (encC I E L pr ot (encR J' B' M rdv' ru T))) ∧ frK J J' ∧ frB 0 B B' ∧ CP (aStp A pu G P c a Z).2 (B' 0) := by
  obtain ⟨k1, k2, k3, k4⟩ := hk
  have h8 := hM.2.2.2.1
  have h6 := hM.2.2.2.2.1
  have q : ∀ m, m < 256 → (iN (c a) = iN m) = (c a = m) := fun m hm => iN_eq (by unfold kdY at k1; omega) (by omega)
  have fz : ∀ Z, frB 0 B (u1 B 0 Z) := fun Z x x1 x2 x3 => u1_o x3
  unfold fX12_act
  by_cases c3 : c a = 103
  · have k3' := k3 (by omega)
    have es : aStp A pu G P c a Z = if c (a + 1) - 48 < P ∧ c (a + 2) - 48 < G ∧ hdB Z (c (a + 1) - 48) (c (a + 2) - 48) = false ∧ ¬ Z (c (a + 2) - 48) = 0 then (true, giZ Z (c (a + 1) - 48) (c (a + 2) - 48)) else (false, Z) := if_pos c3
    rw [if_pos (show iN (c a) = 103 by rw [c3]; rfl), brR_0, brK, hv (by omega)]
    have no : ∀ {x : Int32}, fX12_refusesGift 45 46 (iN (c (a + 1) - 48)) (iN (c (a + 2) - 48)) (encC I E L pr ot (encR J B M rdv ru T)) = some (x, (encC I E L pr ot (encR J B M rdv ru T))) → ¬ 0 ≤ x → aStp A pu G P c a Z = (false, Z) → ∃ J' B' rdv', (h_bd (fX12_refusesGift 45 46 (iN (c (a + 1) - 48)) (iN (c (a + 2) - 48)) (encC I E L pr ot (encR J B M rdv ru T))) fun x2 h3 => if 0 ≤ x2 then ((h_gr 11 0 h3 45).bind fun q4 => h_bd (fX12_goGift q4 (iN (c (a + 1) - 48)) (iN (c (a + 2) - 48)) h3) fun _ h5 => h_z (1 : Int32) (some ((1 : Int32), h5))) else (h_z (0 : Int32) (some ((0 : Int32), h3)))) = some ((if (aStp A pu G P c a Z).1 then 1 else 0), (encC I E L pr ot (encR J' B' M rdv' ru T))) ∧ frK J J' ∧ frB 0 B B' ∧ CP (aStp A pu G P c a Z).2 (B' 0) := by
      intro x e1 e2 e3
      rw [e3]
      refine ⟨J, B, rdv, ?_, frK.refl, frB.refl, hcp⟩
      rw [hb_of e1, if_neg e2, h_z0]
      rfl
    by_cases hp : c (a + 1) - 48 < P
    · by_cases hg : c (a + 2) - 48 < G
      · cases hb : hdB Z (c (a + 1) - 48) (c (a + 2) - 48) with
        | true => exact no (rG_h hM hcp hp hg hb) (by decide) (by rw [es, if_neg (by rw [hb]; intro f; cases f.2.2.1)])
        | false =>
          by_cases hs : Z (c (a + 2) - 48) = 0
          · exact no (rG_o hM hcp hp hg hb hs) (by decide) (by rw [es, if_neg (fun f => f.2.2.2 hs)])
          · have g3 := r_goGift (I := I) (E := E) (L := L) (pr := pr) (ot := ot) (M := M) (rdv := rdv) (ru := ru) (T := T) (J := J) (B := B) (oa := 46) (Or.inl rfl) (show c (a + 1) - 48 < 6 by omega) (show c (a + 2) - 48 < 8 by omega)
            rw [es.trans (if_pos ⟨hp, hg, hb, hs⟩)]
            refine ⟨J, u1 B 0 (giA (B 0) (c (a + 1) - 48) (c (a + 2) - 48)), rdv, ?_, frK.refl, fz _, ?_⟩
            · rw [hb_of (rG_k hM hcp hp hg hb hs), if_pos (by decide), brR_0, hb_of (show fX12_goGift 46 _ _ _ = _ from g3), h_z1, fb_46]
              rfl
            · rw [u1_at]; exact hcp.gi (by omega) (by omega)
      · exact no (rG_n hM hcp (fun f => not_rg hg (by omega) (by omega) f.2)) (by decide) (by rw [es, if_neg (fun f => hg f.2.1)])
    · exact no (rG_n hM hcp (fun f => not_rg hp (by omega) (by omega) f.1)) (by decide) (by rw [es, if_neg (fun f => hp f.1)])
  rw [if_neg (show ¬ iN (c a) = 103 from fun f => c3 ((q 103 (by decide)).mp f))]
  by_cases c9 : c a = 109
  · have k3' := k3 (by omega)
    have k4' := k4 c9
    have es : aStp A pu G P c a Z = if c (a + 1) - 48 < G then (true, mkZ Z (c (a + 1) - 48) (iN (c (a + 2) - 48))) else (false, Z) := (if_neg c3).trans ((if_neg (by omega)).trans (if_pos c9))
    rw [if_pos (show iN (c a) = 109 by rw [c9]; rfl), brK, hv (by omega)]
    by_cases hg : c (a + 1) - 48 < G
    · rw [es, if_pos hg]
      refine ⟨J, u1 B 0 (upd (B 0) (c (a + 1) - 48) (mn99 (Z (c (a + 1) - 48) + iN (c (a + 2) - 48)))), rdv, ?_, frK.refl, fz _, ?_⟩
      · rw [hb_of (r_isGround hM hg), if_neg (by decide), brR_0, brR_0, brA_0 (in_arr (show c (a + 1) - 48 < 88 by omega) (by decide) rfl), iN_nat (by omega), letE_eq, brS_0 (in_arr (show c (a + 1) - 48 < 88 by omega) (by decide) rfl), iN_nat (by omega), h_z1, hcp.1 _ (by omega)]
        rfl
      · rw [u1_at]; exact hcp.st (by omega)
    · rw [es, if_neg hg]
      refine ⟨J, B, rdv, ?_, frK.refl, frB.refl, hcp⟩
      rw [hb_of (isG_n hM (not_rg hg (by omega) (by omega))), if_pos rfl, h_z0]
      rfl
  rw [if_neg (show ¬ iN (c a) = 109 from fun f => c9 ((q 109 (by decide)).mp f))]
  by_cases c6 : c a = 116
  · have k3' := k3 (by omega)
    have es : aStp A pu G P c a Z = if c (a + 1) - 48 < P ∧ c (a + 2) - 48 < G ∧ hdB Z (c (a + 1) - 48) (c (a + 2) - 48) = true then (true, tbZ Z (c (a + 1) - 48) (c (a + 2) - 48)) else (false, Z) := (if_neg c3).trans (if_pos c6)
    rw [if_pos (show iN (c a) = 116 by rw [c6]; rfl), brR_0, brK, hv (by omega)]
    have no : ∀ {x : Int32}, fX12_refusesBack 45 46 (iN (c (a + 1) - 48)) (iN (c (a + 2) - 48)) (encC I E L pr ot (encR J B M rdv ru T)) = some (x, (encC I E L pr ot (encR J B M rdv ru T))) → ¬ 0 ≤ x → aStp A pu G P c a Z = (false, Z) → ∃ J' B' rdv', (h_bd (fX12_refusesBack 45 46 (iN (c (a + 1) - 48)) (iN (c (a + 2) - 48)) (encC I E L pr ot (encR J B M rdv ru T))) fun x26 h27 => if 0 ≤ x26 then ((h_gr 11 0 h27 45).bind fun q28 => h_bd (fX12_goBack q28 (iN (c (a + 1) - 48)) (iN (c (a + 2) - 48)) h27) fun _ h29 => h_z (1 : Int32) (some ((1 : Int32), h29))) else (h_z (0 : Int32) (some ((0 : Int32), h27)))) = some ((if (aStp A pu G P c a Z).1 then 1 else 0), (encC I E L pr ot (encR J' B' M rdv' ru T))) ∧ frK J J' ∧ frB 0 B B' ∧ CP (aStp A pu G P c a Z).2 (B' 0) := by
      intro x e1 e2 e3
      rw [e3]
      refine ⟨J, B, rdv, ?_, frK.refl, frB.refl, hcp⟩
      rw [hb_of e1, if_neg e2, h_z0]
      rfl
    by_cases hp : c (a + 1) - 48 < P
    · by_cases hg : c (a + 2) - 48 < G
      · cases hb : hdB Z (c (a + 1) - 48) (c (a + 2) - 48) with
        | false => exact no (rB_h hM hcp hp hg hb) (by decide) (by rw [es, if_neg (by rw [hb]; intro f; cases f.2.2)])
        | true =>
          have g3 := r_goBack (I := I) (E := E) (L := L) (pr := pr) (ot := ot) (M := M) (rdv := rdv) (ru := ru) (T := T) (J := J) (B := B) (oa := 46) (Or.inl rfl) (show c (a + 1) - 48 < 6 by omega) (show c (a + 2) - 48 < 8 by omega)
          rw [es.trans (if_pos ⟨hp, hg, hb⟩)]
          refine ⟨J, u1 B 0 (tbA (B 0) (c (a + 1) - 48) (c (a + 2) - 48)), rdv, ?_, frK.refl, fz _, ?_⟩
          · rw [hb_of (rB_k hM hcp hp hg hb), if_pos (by decide), brR_0, hb_of (show fX12_goBack 46 _ _ _ = _ from g3), h_z1, fb_46]
            rfl
          · rw [u1_at]; exact hcp.tb (by omega) (by omega)
      · exact no (rB_n hM hcp (fun f => not_rg hg (by omega) (by omega) f.2)) (by decide) (by rw [es, if_neg (fun f => hg f.2.1)])
    · exact no (rB_n hM hcp (fun f => not_rg hp (by omega) (by omega) f.1)) (by decide) (by rw [es, if_neg (fun f => hp f.1)])
  rw [if_neg (show ¬ iN (c a) = 116 from fun f => c6 ((q 116 (by decide)).mp f)), brR_0, brK]
  have es : aStp A pu G P c a Z = (true, daN A pu G P Z (c (a + 1) - 48)) := (if_neg c3).trans ((if_neg c6).trans (if_neg c9))
  obtain ⟨J', B', rdv', e1, e2, e3, e4, e5⟩ := r_goDays (I := I) (E := E) (L := L) (pr := pr) (ot := ot) (M := M) (ru := ru) (T := T) (rdv := rdv) (oa := 46) hM hu hJ hR hru (Or.inl rfl) hcp hz (N := c (a + 1) - 48) (by omega)
  rw [es]
  refine ⟨J', B', rdv', ?_, e2, e4, e5⟩
  rw [hb_of e1, h_z1]
  rfl
end YA
