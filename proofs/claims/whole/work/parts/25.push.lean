/-! PUSH of a RULE that is laid out: a stack of numbers -/
def outc (w a b : Int32) : Int32 := if w = 42 then a * b else if w = 43 then a + b else if w = 45 then a - b else if w = 60 then (if b ≤ a then 0 else 1) else if w = 61 then (if a = b then 1 else 0) else if w = 62 then (if a ≤ b then 0 else 1) else if b = 0 then 0 else a / b
theorem c_outcome {w a b : Int32} {h : PH} : fX6_outcome w a b h = some (outc w a b, h) := by
  unfold fX6_outcome outc
  repeat' split
  all_goals first | rfl | contradiction
/-- a thing: a number, or a letter's -/
def thg (ft : Nat → Int32) (w : Int32) : Int32 := if w - 1000 < 0 then w else if (7 : Int32) ≤ w - 1000 then w else ft (w - 1000).toNatClampNeg
def lStep (ft : Nat → Int32) (w : Int32) (st : List Int32) : List Int32 :=
  if w < 0 then
    (match st with
      | [] => []
      | [a] => if w = -256 then [-a] else [a]
      | b :: a :: r => if w = -256 then -b :: a :: r else outc (-w) a b :: r)
  else thg ft w :: st
def evS (ft : Nat → Int32) (S : Nat → Int32) : Nat → List Int32
  | 0 => []
  | k + 1 => lStep ft (S k) (evS ft S k)
theorem lStep_len {ft : Nat → Int32} {w : Int32} {st : List Int32} : (lStep ft w st).length ≤ st.length + 1 := by
  unfold lStep
  split
  · split
    · exact Nat.zero_le _
    · split <;> simp
    · split <;> simp
  · simp
theorem evS_len {ft S : Nat → Int32} : ∀ k, (evS ft S k).length ≤ k
  | 0 => Nat.le_refl _
  | k + 1 => Nat.le_trans lStep_len (Nat.succ_le_succ (evS_len k))
/-- the stack lies in the array, the deepest first -/
def stk (V : Nat → Int32) : List Int32 → Prop
  | [] => True
  | a :: r => V r.length = a ∧ stk V r
theorem stk_upd {V : Nat → Int32} {k : Nat} {v : Int32} : ∀ {st : List Int32}, st.length ≤ k → stk V st → stk (upd V k v) st
  | [], _, _ => trivial
  | a :: r, hl, h => by
    have hl' : r.length + 1 ≤ k := hl
    refine ⟨?_, stk_upd (by omega) h.2⟩
    unfold upd
    rw [if_neg (by omega)]
    exact h.1
theorem stk_push {V : Nat → Int32} {v : Int32} {st : List Int32} (h : stk V st) : stk (upd V st.length v) (v :: st) := by
  refine ⟨?_, stk_upd (Nat.le_refl _) h⟩
  unfold upd
  rw [if_pos rfl]
def clS (v : Int32) : Int32 := if (-99 : Int32) ≤ v then (if v ≤ 99 then v else 99) else -99
/-- the rule at ro pushes by pu -/
def RU (I A : Nat → Nat → Int32) (ro : Nat) (pu : (Nat → Int32) → Int32) : Prop :=
  (∀ ft ft', (∀ k, k < 7 → ft k = ft' k) → pu ft = pu ft') ∧
  ∃ n, n ≤ 40 ∧ I ro 4 = iN n ∧ ((n = 0 ∧ ∀ ft, pu ft = if ft 1 ≤ ft 0 then (if ft 0 ≤ ft 1 then 0 else -1) else 1) ∨ (0 < n ∧ ∀ ft, ∃ v, evS ft (A (ro + 1)) n = [v] ∧ pu ft = clS v))
theorem n256 : (-iN 256 < iN 0) = True := eq_true (by decide)
section PUSH
variable {I A : Nat → Nat → Int32} {L : Nat → Int64} {pr ot : Nat} {T : PH} {o ro : Nat} {pu : (Nat → Int32) → Int32}
theorem upd_idem {V : Nat → Int32} {k : Nat} : upd V k (V k) = V := by
  funext i
  unfold upd
  split
  · rename_i h; rw [h]
  · rfl
theorem u1_self {F : Nat → Nat → Int32} {o : Nat} : u1 F o (F o) = F := by
  funext i
  unfold u1
  split
  · rename_i h; rw [h]
  · rfl
theorem u1_u1 {α : Type} {F : Nat → α} {o : Nat} {v w : α} : u1 (u1 F o v) o w = u1 F o w := by
  funext i
  unfold u1
  split <;> rfl
theorem c_push (ho : o = 27 ∨ o = 31) (hro : ro = 19 ∨ ro = 23) (hr : RU I A ro pu) : ∃ V, fX6_push ro (o + 2) (encC I A L pr ot T) = some (pu (A (o + 2)), encC I (u1 A (ro + 3) V) L pr ot T) := by
  obtain ⟨_, n, hn, hsz, hr⟩ := hr
  rcases hr with ⟨h0, hpu⟩ | ⟨h0, hpu⟩
  · refine ⟨A (ro + 3), ?_⟩
    rw [u1_self, hpu]
    subst h0
    rcases ho with rfl | rfl <;> rcases hro with rfl | rfl
    all_goals
      simp (disch := omega) only [fX6_push, eR_19_3, eR_23_3, eG_19_4, eG_23_4, fX6_push_J184_48, fX6_push_J148_48, fX6_push_J116_48, fX6_push_J109_48, fX6_push_J107_48, hb_some, Option.bind_some, letE_eq, h_z0, h_z1, h_zi0, h_zi1, eN_29, eN_33, hsz, eA_29, eA_33, iN_lit, iN_add, iN_mul, iN_lt, iN_le, iN_eq, iN_nat, nlt_t, nlt_f, nle_t, nle_f, neq_t, neq_f, or_false, false_or, or_self, not_false_eq_true, not_true_eq_false, ↓reduceIte, if_true, if_false, Bool.false_eq_true, Nat.reduceAdd]
      repeat' split
      all_goals first | rfl | contradiction
  · obtain ⟨v, hv, hpv⟩ := hpu (A (o + 2))
    rw [hpv]
    have key := lp_up (fun m k (s : Int32 × PH) => fX6_push_L48 ro (o + 2) (fun h3 => (h_gr 5 3 h3 ro).bind fun q4 => (h_ald .int h3 q4 (0 : Int32)).bind fun x5 => h_bd (fX11_clamp x5 (-99 : Int32) (99 : Int32) h3) fun x6 h7 => some (x6, h7)) m s.1 (iN k) s.2)
      (fun s => (h_gr 5 3 s.2 ro).bind fun q4 => (h_ald .int s.2 q4 (0 : Int32)).bind fun x5 => h_bd (fX11_clamp x5 (-99 : Int32) (99 : Int32) s.2) fun x6 h7 => some (x6, h7))
      (fun k s => ∃ V, s.1 = iN (evS (A (o + 2)) (A (ro + 1)) k).length ∧ s.2 = encC I (u1 A (ro + 3) V) L pr ot T ∧ stk V (evS (A (o + 2)) (A (ro + 1)) k)) n ?_ ?_ n 0 (iN 0, encC I A L pr ot T) (by omega) ⟨A (ro + 3), rfl, by rw [u1_self], trivial⟩
    · obtain ⟨s, ⟨V, hs1, hs2, hs3⟩, hs4⟩ := key
      refine ⟨V, ?_⟩
      have hs5 := hs4 FU (by unfold FU; omega)
      rw [hv] at hs3
      have hs6 : V 0 = v := hs3.1
      dsimp only at hs5
      rw [hs2] at hs5
      rcases ho with rfl | rfl <;> rcases hro with rfl | rfl
      all_goals
        simp (disch := omega) only [fX6_push, eR_19_3, eR_23_3, eG_19_4, eG_23_4, fX6_push_J184_48, fX6_push_J148_48, fX6_push_J116_48, fX6_push_J109_48, fX6_push_J107_48, hb_some, Option.bind_some, letE_eq, h_z0, h_z1, h_zi0, h_zi1, eN_29, eN_33, hsz, iN_lit, iN_add, iN_mul, iN_lt, iN_le, iN_eq, iN_nat, nlt_t, nlt_f, nle_t, nle_f, neq_t, neq_f, or_false, false_or, or_self, not_false_eq_true, not_true_eq_false, ↓reduceIte, if_true, if_false, Bool.false_eq_true, Nat.reduceAdd]
        simp only [iN_lit, Nat.reduceAdd] at hs5
        rw [hs5]
        simp (disch := omega) only [eR_19_3, eR_23_3, Option.bind_some, eA_22, eA_26, c_clamp, hb_some, iN_lit, iN_add, iN_mul, iN_lt, iN_le, iN_eq, iN_nat, nlt_t, nlt_f, nle_t, nle_f, neq_t, neq_f, or_false, false_or, or_self, not_false_eq_true, not_true_eq_false, ↓reduceIte, if_true, if_false, Bool.false_eq_true, Nat.reduceAdd]
        simp only [u1_eq, if_true, hs6]
        rfl
    · intro k s hk hi
      obtain ⟨V, hs1, hs2, hs3⟩ := hi
      have hlen := evS_len (ft := A (o + 2)) (S := A (ro + 1)) k
      rw [show evS (A (o + 2)) (A (ro + 1)) (k + 1) = lStep (A (o + 2)) (A (ro + 1) k) (evS (A (o + 2)) (A (ro + 1)) k) from rfl]
      rw [hs1, hs2]
      generalize evS (A (o + 2)) (A (ro + 1)) k = st at *
      have hk40 : k < 40 := by omega
      suffices hh : ∃ V', stk V' (lStep (A (o + 2)) (A (ro + 1) k) st) ∧ ∀ m (kx : PH → Option (Int32 × PH)), fX6_push_L48 ro (o + 2) kx (m + 1) (iN st.length) (iN k) (encC I (u1 A (ro + 3) V) L pr ot T) = fX6_push_L48 ro (o + 2) kx m (iN (lStep (A (o + 2)) (A (ro + 1) k) st).length) (iN (k + 1)) (encC I (u1 A (ro + 3) V') L pr ot T) by
        obtain ⟨V', h1, h2⟩ := hh
        exact ⟨(iN (lStep (A (o + 2)) (A (ro + 1) k) st).length, encC I (u1 A (ro + 3) V') L pr ot T), ⟨V', rfl, rfl, h1⟩, fun m => h2 m _⟩
      unfold lStep
      have hkn : k < n := hk
      clear hs1 hs2 hv hpv hpu
      by_cases hw : A (ro + 1) k < 0
      · rw [if_pos hw]
        match st, hlen, hs3 with
        | [], hlen, hs3 =>
          refine ⟨V, trivial, fun m kx => ?_⟩
          by_cases h256 : A (ro + 1) k = -iN 256
          all_goals
            rcases ho with rfl | rfl <;> rcases hro with rfl | rfl
            all_goals
              simp only [iN_lit, Nat.reduceAdd] at hw h256
              simp (disch := omega) only [fX6_push_L48, eR_19_1, eR_23_1, eR_19_3, eR_23_3, eG_19_4, eG_23_4, fX6_push_J184_48, fX6_push_J148_48, fX6_push_J116_48, fX6_push_J109_48, fX6_push_J107_48, hb_some, Option.bind_some, letE_eq, h_z0, h_z1, h_zi0, h_zi1, eA_20, eA_24, u1_eq, hsz, hw, h256, n256, List.length_nil, iN_lit, iN_add, iN_mul, iN_lt, iN_le, iN_eq, iN_nat, nlt_t, nlt_f, nle_t, nle_f, neq_t, neq_f, or_false, false_or, or_self, not_false_eq_true, not_true_eq_false, ↓reduceIte, if_true, if_false, Bool.false_eq_true, Nat.reduceAdd]
        | [a], hlen, hs3 =>
          by_cases h256 : A (ro + 1) k = -iN 256
          · dsimp only
            rw [if_pos (show A (ro + 1) k = -256 from h256)]
            refine ⟨upd V 0 (-a), ⟨by unfold upd; rw [if_pos rfl], trivial⟩, fun m kx => ?_⟩
            have hv0 : V 0 = a := hs3.1
            rcases ho with rfl | rfl <;> rcases hro with rfl | rfl
            all_goals
              simp only [iN_lit, Nat.reduceAdd] at hw h256
              simp (disch := omega) only [fX6_push_L48, eR_19_1, eR_23_1, eR_19_3, eR_23_3, eG_19_4, eG_23_4, fX6_push_J184_48, fX6_push_J148_48, fX6_push_J116_48, fX6_push_J109_48, fX6_push_J107_48, hb_some, Option.bind_some, letE_eq, h_z0, h_z1, h_zi0, h_zi1, eA_20, eA_24, eA_22, eA_26, eS_22, eS_26, u1_eq, u1_u1, hsz, hw, h256, n256, List.length_nil, List.length_cons, iN_pred, iN_pred', hv0, iN_lit, iN_add, iN_mul, iN_lt, iN_le, iN_eq, iN_nat, nlt_t, nlt_f, nle_t, nle_f, neq_t, neq_f, or_false, false_or, or_self, not_false_eq_true, not_true_eq_false, ↓reduceIte, if_true, if_false, Bool.false_eq_true, Nat.reduceAdd]
          · dsimp only
            rw [if_neg (show ¬ A (ro + 1) k = -256 from h256)]
            refine ⟨V, hs3, fun m kx => ?_⟩
            rcases ho with rfl | rfl <;> rcases hro with rfl | rfl
            all_goals
              simp only [iN_lit, Nat.reduceAdd] at hw h256
              simp (disch := omega) only [fX6_push_L48, eR_19_1, eR_23_1, eR_19_3, eR_23_3, eG_19_4, eG_23_4, fX6_push_J184_48, fX6_push_J148_48, fX6_push_J116_48, fX6_push_J109_48, fX6_push_J107_48, hb_some, Option.bind_some, letE_eq, h_z0, h_z1, h_zi0, h_zi1, eA_20, eA_24, u1_eq, hsz, hw, h256, n256, List.length_nil, List.length_cons, iN_lit, iN_add, iN_mul, iN_lt, iN_le, iN_eq, iN_nat, nlt_t, nlt_f, nle_t, nle_f, neq_t, neq_f, or_false, false_or, or_self, not_false_eq_true, not_true_eq_false, ↓reduceIte, if_true, if_false, Bool.false_eq_true, Nat.reduceAdd]
        | b :: a :: r, hlen, hs3 =>
          have hvb : V (r.length + 1) = b := hs3.1
          have hva : V r.length = a := hs3.2.1
          have hlen' : r.length + 1 + 1 ≤ k := hlen
          by_cases h256 : A (ro + 1) k = -iN 256
          · dsimp only
            rw [if_pos (show A (ro + 1) k = -256 from h256)]
            refine ⟨upd V (r.length + 1) (-b), stk_push (st := a :: r) hs3.2, fun m kx => ?_⟩
            rcases ho with rfl | rfl <;> rcases hro with rfl | rfl
            all_goals
              simp only [iN_lit, Nat.reduceAdd] at hw h256
              simp (disch := omega) only [fX6_push_L48, eR_19_1, eR_23_1, eR_19_3, eR_23_3, eG_19_4, eG_23_4, fX6_push_J184_48, fX6_push_J148_48, fX6_push_J116_48, fX6_push_J109_48, fX6_push_J107_48, hb_some, Option.bind_some, letE_eq, h_z0, h_z1, h_zi0, h_zi1, eA_20, eA_24, eA_22, eA_26, eS_22, eS_26, u1_eq, u1_u1, hsz, hw, h256, n256, List.length_nil, List.length_cons, iN_pred, iN_pred', hvb, iN_lit, iN_add, iN_mul, iN_lt, iN_le, iN_eq, iN_nat, nlt_t, nlt_f, nle_t, nle_f, neq_t, neq_f, or_false, false_or, or_self, not_false_eq_true, not_true_eq_false, ↓reduceIte, if_true, if_false, Bool.false_eq_true, Nat.reduceAdd]
          · dsimp only
            rw [if_neg (show ¬ A (ro + 1) k = -256 from h256)]
            refine ⟨upd V r.length (outc (-A (ro + 1) k) a b), stk_push (st := r) hs3.2.2, fun m kx => ?_⟩
            rcases ho with rfl | rfl <;> rcases hro with rfl | rfl
            all_goals
              simp only [iN_lit, Nat.reduceAdd] at hw h256
              simp (disch := omega) only [fX6_push_L48, eR_19_1, eR_23_1, eR_19_3, eR_23_3, eG_19_4, eG_23_4, fX6_push_J184_48, fX6_push_J148_48, fX6_push_J116_48, fX6_push_J109_48, fX6_push_J107_48, hb_some, Option.bind_some, letE_eq, h_z0, h_z1, h_zi0, h_zi1, eA_20, eA_24, eA_22, eA_26, eS_22, eS_26, u1_eq, u1_u1, hsz, hw, h256, n256, List.length_nil, List.length_cons, iN_pred, iN_pred', hvb, hva, c_outcome, iN_lit, iN_add, iN_mul, iN_lt, iN_le, iN_eq, iN_nat, nlt_t, nlt_f, nle_t, nle_f, neq_t, neq_f, or_false, false_or, or_self, not_false_eq_true, not_true_eq_false, ↓reduceIte, if_true, if_false, Bool.false_eq_true, Nat.reduceAdd]
      · rw [if_neg hw]
        refine ⟨upd V st.length (thg (A (o + 2)) (A (ro + 1) k)), stk_push hs3, fun m kx => ?_⟩
        have hx : ¬ (A (ro + 1) k - 1000 < 0) → ¬ ((7 : Int32) ≤ A (ro + 1) k - 1000) → ∃ j, j < 7 ∧ A (ro + 1) k - 1000 = iN j := by
          intro h1 h2
          exact iN_of (Int32.not_lt.mp h1) (Int32.not_le.mp h2) (by omega)
        unfold thg
        by_cases h1 : A (ro + 1) k - 1000 < 0
        · rw [if_pos h1]
          rcases ho with rfl | rfl <;> rcases hro with rfl | rfl
          all_goals
            simp only [iN_lit, Nat.reduceAdd] at hw h1
            simp (disch := omega) only [fX6_push_L48, eR_19_1, eR_23_1, eR_19_3, eR_23_3, eG_19_4, eG_23_4, fX6_push_J184_48, fX6_push_J148_48, fX6_push_J116_48, fX6_push_J109_48, fX6_push_J107_48, hb_some, Option.bind_some, letE_eq, h_z0, h_z1, h_zi0, h_zi1, eA_20, eA_24, eS_22, eS_26, u1_eq, u1_u1, hsz, hw, h1, List.length_cons, iN_lit, iN_add, iN_mul, iN_lt, iN_le, iN_eq, iN_nat, nlt_t, nlt_f, nle_t, nle_f, neq_t, neq_f, or_false, false_or, or_self, not_false_eq_true, not_true_eq_false, ↓reduceIte, if_true, if_false, Bool.false_eq_true, Nat.reduceAdd]
        · rw [if_neg h1]
          by_cases h2 : (7 : Int32) ≤ A (ro + 1) k - 1000
          · rw [if_pos h2]
            rcases ho with rfl | rfl <;> rcases hro with rfl | rfl
            all_goals
              simp only [iN_lit, Nat.reduceAdd] at hw h1 h2
              simp (disch := omega) only [fX6_push_L48, eR_19_1, eR_23_1, eR_19_3, eR_23_3, eG_19_4, eG_23_4, fX6_push_J184_48, fX6_push_J148_48, fX6_push_J116_48, fX6_push_J109_48, fX6_push_J107_48, hb_some, Option.bind_some, letE_eq, h_z0, h_z1, h_zi0, h_zi1, eA_20, eA_24, eS_22, eS_26, u1_eq, u1_u1, hsz, hw, h1, h2, List.length_cons, iN_lit, iN_add, iN_mul, iN_lt, iN_le, iN_eq, iN_nat, nlt_t, nlt_f, nle_t, nle_f, neq_t, neq_f, or_false, false_or, or_self, not_false_eq_true, not_true_eq_false, ↓reduceIte, if_true, if_false, Bool.false_eq_true, Nat.reduceAdd]
          · rw [if_neg h2]
            obtain ⟨j, hj, ej⟩ := hx h1 h2
            rcases ho with rfl | rfl <;> rcases hro with rfl | rfl
            all_goals
              simp only [iN_lit, Nat.reduceAdd] at hw ej
              simp (disch := omega) only [fX6_push_L48, eR_19_1, eR_23_1, eR_19_3, eR_23_3, eG_19_4, eG_23_4, fX6_push_J184_48, fX6_push_J148_48, fX6_push_J116_48, fX6_push_J109_48, fX6_push_J107_48, hb_some, Option.bind_some, letE_eq, h_z0, h_z1, h_zi0, h_zi1, eA_20, eA_24, eA_29, eA_33, eS_22, eS_26, u1_eq, u1_u1, hsz, hw, ej, List.length_cons, iN_lit, iN_add, iN_mul, iN_lt, iN_le, iN_eq, iN_nat, nlt_t, nlt_f, nle_t, nle_f, neq_t, neq_f, or_false, false_or, or_self, not_false_eq_true, not_true_eq_false, ↓reduceIte, if_true, if_false, Bool.false_eq_true, Nat.reduceAdd]
    · intro s hi m
      obtain ⟨V, hs1, hs2, hs3⟩ := hi
      rw [hs2]
      rcases hro with rfl | rfl
      all_goals
        simp (disch := omega) only [fX6_push_L48, eG_19_4, eG_23_4, hsz, Option.bind_some, iN_lit, iN_add, iN_mul, iN_lt, iN_le, iN_eq, iN_nat, nlt_t, nlt_f, nle_t, nle_f, neq_t, neq_f, or_false, false_or, or_self, not_false_eq_true, not_true_eq_false, ↓reduceIte, if_true, if_false, Bool.false_eq_true, Nat.reduceAdd]
end PUSH
