/-! ON A STANDING BESIDE: days of one, of all; rows of humours; the first for which -/
def fnd (c : Nat → Bool) : Nat → Nat → Option Nat
  | 0, _ => none
  | n + 1, k => if c k then some k else fnd c n (k + 1)
theorem fnd_congr {c c' : Nat → Bool} : ∀ (n k : Nat), (∀ j, k ≤ j → j < k + n → c j = c' j) → fnd c n k = fnd c' n k
  | 0, _, _ => rfl
  | n + 1, k, h => by
    unfold fnd
    rw [h k (Nat.le_refl _) (by omega), fnd_congr n (k + 1) (fun j h1 h2 => h j (by omega) (by omega))]
theorem fnd_lt {c : Nat → Bool} : ∀ (n k j : Nat), fnd c n k = some j → k ≤ j ∧ j < k + n ∧ c j = true
  | 0, _, _, h => by cases h
  | n + 1, k, j, h => by
    unfold fnd at h
    split at h
    · rename_i hc
      cases h
      exact ⟨Nat.le_refl _, by omega, hc⟩
    · obtain ⟨a, b, c⟩ := fnd_lt n (k + 1) j h
      exact ⟨by omega, by omega, c⟩
/-- a loop that ends at the first for which -/
theorem lp_find {σ α : Type} (F : Nat → Nat → σ → Option α) (kx : σ → Option α) (Inv : Nat → σ → Prop) (c : Nat → Bool) (Post : Nat → Option α → Prop) (N : Nat)
    (hy : ∀ k s, k < N → Inv k s → c k = true → ∃ z, Post k z ∧ ∀ n, F (n + 1) k s = z)
    (hn : ∀ k s, k < N → Inv k s → c k = false → ∃ s', Inv (k + 1) s' ∧ ∀ n, F (n + 1) k s = F n (k + 1) s')
    (he : ∀ s, Inv N s → ∀ n, F (n + 1) N s = kx s) :
    ∀ (d k : Nat) (s : σ), k + d = N → Inv k s → (∀ j, fnd c d k = some j → ∃ z, Post j z ∧ ∀ n, d < n → F n k s = z) ∧ (fnd c d k = none → ∃ s', Inv N s' ∧ ∀ n, d < n → F n k s = kx s') := by
  intro d
  induction d with
  | zero =>
    intro k s hk hi
    cases hk
    refine ⟨fun j hj => (by cases hj), fun _ => ⟨s, hi, fun n hn => ?_⟩⟩
    obtain ⟨m, rfl⟩ : ∃ m, n = m + 1 := ⟨n - 1, by omega⟩
    exact he s hi m
  | succ d ih =>
    intro k s hk hi
    unfold fnd
    cases hc : c k with
    | true =>
      rw [if_pos rfl]
      obtain ⟨z, h1, h2⟩ := hy k s (by omega) hi hc
      refine ⟨fun j hj => ?_, fun h => (by cases h)⟩
      cases hj
      refine ⟨z, h1, fun n hn => ?_⟩
      obtain ⟨m, rfl⟩ : ∃ m, n = m + 1 := ⟨n - 1, by omega⟩
      exact h2 m
    | false =>
      rw [if_neg (by decide)]
      obtain ⟨s1, h1, h2⟩ := hn k s (by omega) hi hc
      obtain ⟨i1, i2⟩ := ih (k + 1) s1 (by omega) h1
      refine ⟨fun j hj => ?_, fun h => ?_⟩
      · obtain ⟨z, h3, h4⟩ := i1 j hj
        refine ⟨z, h3, fun n hn => ?_⟩
        obtain ⟨m, rfl⟩ : ∃ m, n = m + 1 := ⟨n - 1, by omega⟩
        rw [h2 m]; exact h4 m (by omega)
      · obtain ⟨s2, h3, h4⟩ := i2 h
        refine ⟨s2, h3, fun n hn => ?_⟩
        obtain ⟨m, rfl⟩ : ∃ m, n = m + 1 := ⟨n - 1, by omega⟩
        rw [h2 m]; exact h4 m (by omega)
theorem u1_selfI {F : Nat → Int32} {o : Nat} : u1 F o (F o) = F := by
  funext x
  unfold u1
  split
  · rename_i h; rw [h]
  · rfl
/-- the row of p's humours -/
def hL (L : Nat → Int64) (Z : Nat → Int32) (p : Nat) : Nat → Nat → Int64
  | 0 => L
  | k + 1 => vp_updL (hL L Z p k) k (Z (8 + p * 4 + k)).toInt64
def hrow (Z : Nat → Int32) (p : Nat) : List Int64 := [(Z (8 + p * 4 + 0)).toInt64, (Z (8 + p * 4 + 1)).toInt64, (Z (8 + p * 4 + 2)).toInt64, (Z (8 + p * 4 + 3)).toInt64]
theorem hrow_C {L : Nat → Int64} {Z : Nat → Int32} {p : Nat} : rowC (iN 4) (hL L Z p 4) (hrow Z p) :=
  row_s (row_s (row_s (row_s (row_0 (M := L)) rfl) rfl) rfl) rfl
theorem hrow_agr {Y Z : Nat → Int32} {p : Nat} (h : ∀ j, 8 + p * 4 ≤ j → j < 8 + p * 4 + 4 → Y j = Z j) : hrow Y p = hrow Z p := by
  unfold hrow
  rw [h _ (by omega) (by omega), h (8 + p * 4 + 1) (by omega) (by omega), h (8 + p * 4 + 2) (by omega) (by omega), h (8 + p * 4 + 3) (by omega) (by omega)]
theorem hL_agr {L : Nat → Int64} {Y Z : Nat → Int32} {p : Nat} (h : ∀ j, 8 + p * 4 ≤ j → j < 8 + p * 4 + 4 → Y j = Z j) : ∀ k, k ≤ 4 → hL L Y p k = hL L Z p k
  | 0, _ => rfl
  | k + 1, hk => by
    show vp_updL (hL L Y p k) k _ = vp_updL (hL L Z p k) k _
    rw [hL_agr h k (by omega), h _ (by omega) (by omega)]
section TB
variable {I A E I' A' : Nat → Nat → Int32} {L L' : Nat → Int64} {pr ot s : Nat} {J J' : Nat → Int32} {B B' : Nat → Nat → Int32} {M M' : Nat → Int64} {rdv : Value} {ru : Nat} {T : PH} {G P W p g n nr sz ro oa : Nat} {Z R : Nat → Int32} {x y : Int32} {out : Nat → Int64} {pu : (Nat → Int32) → Int32}
theorem c_tellHumours (hp : p < 6) : fX11_tellHumours 0 (iN p) (encC I A L pr ot T) = some ((), (encC (u2 I 9 1 (iN 4)) A (hL L (A 32) p 4) pr ot T)) := by
  have key := lp_det (fun n k (q : (Nat → Nat → Int32) × (Nat → Int64)) => fX11_tellHumours_L9 0 (iN p) (fun h3 => some ((), h3)) n (iN k) (encC (q.1) A (q.2) pr ot T)) (fun q => some ((), (encC (q.1) A (q.2) pr ot T))) (fun k => (u2 I 9 1 (iN k), hL L (A 32) p k)) 4
    (fun k hk n => by
      have f1 := c_humourOf (I := u2 I 9 1 (iN k)) (A := A) (L := hL L (A 32) p k) (pr := pr) (ot := ot) (T := T) (o := 31) (Or.inr rfl) hp hk
      have f2 := c_add (I := I) (A := A) (L := hL L (A 32) p k) (pr := pr) (ot := ot) (T := T) (v := (A 32 (8 + p * 4 + k)).toInt64) (n := k) (by omega)
      have e : hL L (A 32) p (k + 1) = vp_updL (hL L (A 32) p k) k (A 32 (8 + p * 4 + k)).toInt64 := rfl
      dsimp only
      rw [e]
      simp (disch := first | omega | assumption | (simp (disch := omega) only [iN_lit, iN_add, iN_mul, iN_pred, iN_pred', iN_lt, iN_le, iN_eq, iN_nat, nlt_t, nlt_f, nle_t, nle_f, neq_t, neq_f, List.length_nil, List.length_cons, or_false, false_or, or_self, not_false_eq_true, not_true_eq_false, ↓reduceIte, if_true, if_false, Bool.false_eq_true, Nat.reduceAdd])) only [fX11_tellHumours_L9, ↓zK _, ↓bK_9, ↓bR_0_6, ↓bR_0_9, ↓hb_some, ↓bd_some, ↓letE_eq, h_z0, h_z1, h_zi0, h_zi1, ↓hb_of f1, ↓hb_of f2, iN_lit, iN_add, iN_mul, iN_pred, iN_pred', iN_lt, iN_le, iN_eq, iN_nat, nlt_t, nlt_f, nle_t, nle_f, neq_t, neq_f, List.length_nil, List.length_cons, or_false, false_or, or_self, not_false_eq_true, not_true_eq_false, ↓reduceIte, if_true, if_false, Bool.false_eq_true, Nat.reduceAdd])
    (fun n => by simp (disch := first | omega | assumption | (simp (disch := omega) only [iN_lit, iN_add, iN_mul, iN_pred, iN_pred', iN_lt, iN_le, iN_eq, iN_nat, nlt_t, nlt_f, nle_t, nle_f, neq_t, neq_f, List.length_nil, List.length_cons, or_false, false_or, or_self, not_false_eq_true, not_true_eq_false, ↓reduceIte, if_true, if_false, Bool.false_eq_true, Nat.reduceAdd])) only [fX11_tellHumours_L9, ↓zK _, ↓bK_9, ↓bR_0_6, ↓bR_0_9, ↓hb_of (c_humourOf _ _ _), ↓hb_of (c_add _), ↓hb_some, ↓bd_some, ↓letE_eq, h_z0, h_z1, h_zi0, h_zi1, iN_lit, iN_add, iN_mul, iN_pred, iN_pred', iN_lt, iN_le, iN_eq, iN_nat, nlt_t, nlt_f, nle_t, nle_f, neq_t, neq_f, List.length_nil, List.length_cons, or_false, false_or, or_self, not_false_eq_true, not_true_eq_false, ↓reduceIte, if_true, if_false, Bool.false_eq_true, Nat.reduceAdd]) FU (by unfold FU; omega)
  dsimp only at key
  have e0 : hL L (A 32) p 0 = L := rfl
  rw [e0] at key
  simp (disch := first | omega | assumption | (simp (disch := omega) only [iN_lit, iN_add, iN_mul, iN_pred, iN_pred', iN_lt, iN_le, iN_eq, iN_nat, nlt_t, nlt_f, nle_t, nle_f, neq_t, neq_f, List.length_nil, List.length_cons, or_false, false_or, or_self, not_false_eq_true, not_true_eq_false, ↓reduceIte, if_true, if_false, Bool.false_eq_true, Nat.reduceAdd])) only [fX11_tellHumours, ↓bK_9, ↓bR_0_6, ↓hb_of (c_start), ↓hb_some, ↓bd_some, ↓letE_eq, h_z0, h_z1, h_zi0, h_zi1, iN_lit, iN_add, iN_mul, iN_pred, iN_pred', iN_lt, iN_le, iN_eq, iN_nat, nlt_t, nlt_f, nle_t, nle_f, neq_t, neq_f, List.length_nil, List.length_cons, or_false, false_or, or_self, not_false_eq_true, not_true_eq_false, ↓reduceIte, if_true, if_false, Bool.false_eq_true, Nat.reduceAdd] at key ⊢
  exact key
theorem r_tellHumours (ha : oa = 46 ∨ oa = 61) (hp : p < 6) (hc : CP Z (B (fb oa))) (hJ : J 12 = iN 0) : fX12_tellHumours 45 oa (iN p) (encC I E L pr ot (encR J B M rdv ru T)) = some ((), (encC I E L pr ot (encR (u1 J 12 (iN 4)) B (hL M Z p 4) rdv ru T))) := by
  have key := lp_det (fun n k (q : (Nat → Int32) × (Nat → Int64)) => fX12_tellHumours_L2 45 oa (iN p) (fun h3 => some ((), h3)) n (iN k) (encC I E L pr ot (encR (q.1) B (q.2) rdv ru T))) (fun q => some ((), (encC I E L pr ot (encR (q.1) B (q.2) rdv ru T)))) (fun k => (u1 J 12 (iN k), hL M Z p k)) 4
    (fun k hk n => by
      have f1 := r_humour (I := I) (E := E) (L := L) (pr := pr) (ot := ot) (J := u1 J 12 (iN k)) (M := hL M Z p k) (rdv := rdv) (ru := ru) (T := T) ha hp hk hc
      have f2 := r_tell (I := I) (E := E) (L := L) (pr := pr) (ot := ot) (J := u1 J 12 (iN k)) (B := B) (M := hL M Z p k) (rdv := rdv) (ru := ru) (T := T) (v := (Z (8 + p * 4 + k)).toInt64) (n := k) (by rw [u1_eq, if_pos rfl]) (by omega)
      have e : hL M Z p (k + 1) = vp_updL (hL M Z p k) k (Z (8 + p * 4 + k)).toInt64 := rfl
      dsimp only
      rw [e]
      simp (disch := first | omega | assumption | (simp (disch := omega) only [iN_lit, iN_add, iN_mul, iN_pred, iN_pred', iN_lt, iN_le, iN_eq, iN_nat, nlt_t, nlt_f, nle_t, nle_f, neq_t, neq_f, List.length_nil, List.length_cons, or_false, false_or, or_self, not_false_eq_true, not_true_eq_false, ↓reduceIte, if_true, if_false, Bool.false_eq_true, Nat.reduceAdd])) only [fX12_tellHumours_L2, ↓brK, ↓hb_some, ↓bd_some, ↓letE_eq, h_z0, h_z1, h_zi0, h_zi1, ↓hb_of f1, ↓hb_of f2, iN_lit, iN_add, iN_mul, iN_pred, iN_pred', iN_lt, iN_le, iN_eq, iN_nat, nlt_t, nlt_f, nle_t, nle_f, neq_t, neq_f, List.length_nil, List.length_cons, or_false, false_or, or_self, not_false_eq_true, not_true_eq_false, ↓reduceIte, if_true, if_false, Bool.false_eq_true, Nat.reduceAdd, u1_u1])
    (fun n => by simp (disch := first | omega | assumption | (simp (disch := omega) only [iN_lit, iN_add, iN_mul, iN_pred, iN_pred', iN_lt, iN_le, iN_eq, iN_nat, nlt_t, nlt_f, nle_t, nle_f, neq_t, neq_f, List.length_nil, List.length_cons, or_false, false_or, or_self, not_false_eq_true, not_true_eq_false, ↓reduceIte, if_true, if_false, Bool.false_eq_true, Nat.reduceAdd])) only [fX12_tellHumours_L2, ↓brK, ↓hb_of (r_humour _ _ _ _), ↓hb_of (r_tell _ _), ↓hb_some, ↓bd_some, ↓letE_eq, h_z0, h_z1, h_zi0, h_zi1, iN_lit, iN_add, iN_mul, iN_pred, iN_pred', iN_lt, iN_le, iN_eq, iN_nat, nlt_t, nlt_f, nle_t, nle_f, neq_t, neq_f, List.length_nil, List.length_cons, or_false, false_or, or_self, not_false_eq_true, not_true_eq_false, ↓reduceIte, if_true, if_false, Bool.false_eq_true, Nat.reduceAdd]) FU (by unfold FU; omega)
  dsimp only at key
  have e0 : hL M Z p 0 = M := rfl
  have e1 : u1 J 12 (iN 0) = J := by rw [← hJ]; exact u1_selfI
  rw [e0, e1] at key
  unfold fX12_tellHumours
  exact key
theorem frL.q {A1 : Nat → Nat → Int32} (h : frL 31 ro A1 A') (hro : ro = 19 ∨ ro = 23) (hz : nz (A' 32)) : frQ A1 A' :=
  ⟨fun x hx => h x (by omega) (by omega) (by omega) (by omega), fun _ => hz⟩
/-- then is laid, and p's days go by -/
theorem c_thenPass (hF : FS I G P W) (hro : ro = 19 ∨ ro = 23) (hr : RU I A ro pu) (hz : OK G P (A 28)) (hn2 : nz (A 32)) (hp : p < P) (hn : n < 2000) :
    fX8_copy 31 27 (encC I A L pr ot T) = some ((), (encC I (u1 A 32 (A 28)) L pr ot T)) ∧ ∃ A', fX8_pass 31 (iN p) (iN n) ro (encC I (u1 A 32 (A 28)) L pr ot T) = some ((), (encC I A' L pr ot T)) ∧ frQ A A' ∧ A' 32 = psZ A pu G p (A 28) n := by
  refine ⟨c_copy hz.1 hn2, ?_⟩
  have hr' : RU I (u1 A 32 (A 28)) ro pu := hr.congr (by rw [u1_eq, if_neg (by omega)])
  obtain ⟨B, e1, e2, e3⟩ := c_pass (I := I) (A := u1 A 32 (A 28)) (L := L) (pr := pr) (ot := ot) (T := T) (o := 31) (W := W) hF (Or.inr rfl) hro hr' hp (hz.2.2.1 p (by have := hF.2.2.2.2.1; omega)) hn
  have e4 : B 32 = psZ A pu G p (A 28) n := e3.trans (psZ_congr (A := A) (B := u1 A 32 (A 28)) rfl rfl rfl n)
  have hz' := hz.ps (A := A) (pu := pu) hF.2.2.2.1 (show p < 6 by have := hF.2.2.2.2.1; omega) n
  exact ⟨B, e1, (frQ.cp hz.1).trans (e2.q hro (by rw [e4]; exact hz'.1)), e4⟩
theorem c_thenAll (hF : FS I G P W) (hro : ro = 19 ∨ ro = 23) (hr : RU I A ro pu) (hz : OK G P (A 28)) (hn2 : nz (A 32)) (hn : n < 2000) :
    fX8_copy 31 27 (encC I A L pr ot T) = some ((), (encC I (u1 A 32 (A 28)) L pr ot T)) ∧ ∃ A', fX8_passAll 31 (iN n) ro (encC I (u1 A 32 (A 28)) L pr ot T) = some ((), (encC I A' L pr ot T)) ∧ frQ A A' ∧ A' 32 = daN A pu G P (A 28) n := by
  refine ⟨c_copy hz.1 hn2, ?_⟩
  have h8 := hF.2.2.2.1
  have h6 := hF.2.2.2.2.1
  have hr' : RU I (u1 A 32 (A 28)) ro pu := hr.congr (by rw [u1_eq, if_neg (by omega)])
  obtain ⟨B, e1, e2, e3⟩ := c_passAll (I := I) (A := u1 A 32 (A 28)) (L := L) (pr := pr) (ot := ot) (T := T) (o := 31) hF (Or.inr rfl) hro hr' hz.2.2.1 hn
  have e5 : ∀ k, paF (u1 A 32 (A 28)) pu G n (A 28) k = paF A pu G n (A 28) k := fun k => by
    induction k with
    | zero => rfl
    | succ k ih =>
      show psZ _ pu G k (upd (paF _ pu G n (A 28) k) 80 _) n = psZ A pu G k (upd (paF A pu G n (A 28) k) 80 _) n
      rw [ih]
      exact psZ_congr (A := A) (B := u1 A 32 (A 28)) rfl rfl rfl n
  have e4 : B 32 = daN A pu G P (A 28) n := by
    rw [← paZ_daN h8 h6]
    refine e3.trans ?_
    show upd (paF (u1 A 32 (A 28)) pu G n (A 28) P) 80 _ = upd (paF A pu G n (A 28) P) 80 _
    rw [e5]; rfl
  have hz' := hz.dn (A := A) (pu := pu) h8 h6 n
  exact ⟨B, e1, (frQ.cp hz.1).trans (e2.q hro (by rw [e4]; exact hz'.1)), e4⟩
/-! the model's then -/
theorem frB.r (h : frB 29 B B') : frRB B B' := fun x hx => h x (by omega) (by omega) (by omega)
theorem frK.r (h : frK J J') : frRJ J J' := fun x hx => h x (by omega) (by omega) (by omega) (by omega) (by omega) (by omega)
theorem frRB.lay {X : Nat → Int32} : frRB B (u1 B 29 X) := fun x hx => by rw [u1_eq, if_neg (by omega)]
theorem frRJ.u {k : Nat} {v : Int32} (hk : k = 13 ∨ k = 12 ∨ k = 31 ∨ k = 44 ∨ k = 46) : frRJ J (u1 J k v) := fun x hx => by rw [u1_eq, if_neg (by omega)]
theorem FM.q (hM : FM A J B G P W) (h1 : frRJ J J') (h2 : frRB B B') : FM A J' B' G P W := hM.frame (fun x _ _ => h1 x (by omega)) (fun x _ _ => h2 x (by omega))
theorem frQ.wa (h : frQ A A') : waS A' = waS A := by
  funext Z W p; exact waS_congr (fun x _ _ => h.1 x (by omega))
theorem frQ.ts (h : frQ A A') (hT : TS A W) : TS A' W := hT.congr (fun x _ _ => h.1 x (by omega))
theorem frQ.rr (h : frQ A A') (hro : ro = 19 ∨ ro = 23) (hr : RU I A ro pu) : RU I A' ro pu := hr.congr (h.1 _ (by omega))
end TB
