/-! THE ROWS OF VX: one for each kind of instruction; C: what holds of the activation -/
def h_ck (ci : Nat) (h : PH) (o : Nat) : Option Unit := match h[o]? with
  | some (.inr q) => if q.1 = ci then some () else none
  | _ => none
def h_gi (ci k : Nat) (h : PH) (o : Nat) : Option Int32 := match h[o]? with
  | some (.inr q) => if q.1 = ci then (match q.2[k]? with
    | some (.int x) => some x
    | _ => none) else none
  | _ => none
def h_gr (ci k : Nat) (h : PH) (o : Nat) : Option Nat := match h[o]? with
  | some (.inr q) => if q.1 = ci then (match q.2[k]? with
    | some (.ref x) => some x
    | _ => none) else none
  | _ => none
def h_pv (ci k : Nat) (h : PH) (o : Nat) (v : Value) : Option PH := match h[o]? with
  | some (.inr q) => if q.1 = ci ∧ k < q.2.length then some (h.set o (.inr (ci, q.2.set k v))) else none
  | _ => none
def h_ald (ty : FieldType) (h : PH) (o : Nat) (i : Int32) : Option Int32 := match h[o]? with
  | some (.inl (t, n, .inl f)) => if t = ty ∧ ¬ (i < 0 ∨ n ≤ i.toNatClampNeg) then some (f i.toNatClampNeg) else none
  | _ => none
def h_ast (ty : FieldType) (h : PH) (o : Nat) (i x : Int32) : Option PH := match h[o]? with
  | some (.inl (t, n, .inl f)) => if t = ty ∧ ¬ (i < 0 ∨ n ≤ i.toNatClampNeg) then some (h.set o (.inl (ty, n, .inl (upd f i.toNatClampNeg x)))) else none
  | _ => none
def h_lld (h : PH) (o : Nat) (i : Int32) : Option Int64 := match h[o]? with
  | some (.inl (t, n, .inr (.inl f))) => if t = .long ∧ ¬ (i < 0 ∨ n ≤ i.toNatClampNeg) then some (f i.toNatClampNeg) else none
  | _ => none
def h_lst (h : PH) (o : Nat) (i : Int32) (x : Int64) : Option PH := match h[o]? with
  | some (.inl (t, n, .inr (.inl f))) => if t = .long ∧ ¬ (i < 0 ∨ n ≤ i.toNatClampNeg) then some (h.set o (.inl (.long, n, .inr (.inl (vp_updL f i.toNatClampNeg x))))) else none
  | _ => none
def h_al (ty : FieldType) (h : PH) (o : Nat) : Option Int32 := match h[o]? with
  | some (.inl (t, n, _)) => if t = ty then some (Int32.ofNat n) else none
  | _ => none
def h_cpy (h : PH) (a : Nat) (sp : Int32) (b : Nat) (dp n : Int32) : Option PH := match h[a]?, h[b]? with
  | some (.inl (t, n0, .inl f)), some (.inl (t1, n1, .inl f1)) => if t = .int ∧ t1 = .int ∧ ¬ sp < 0 ∧ ¬ dp < 0 ∧ ¬ n < 0 ∧ sp.toNatClampNeg + n.toNatClampNeg ≤ n0 ∧ dp.toNatClampNeg + n.toNatClampNeg ≤ n1 then some (h.set b (.inl (.int, n1, .inl (va_cpy f f1 sp.toNatClampNeg dp.toNatClampNeg n.toNatClampNeg)))) else none
  | _, _ => none
/-- a name for a number -/
def letE {α β : Type} (e : α) (k : α → β) : β := k e
/-- what a call answers, and the heap behind it -/
def h_bd {α β : Type} (x : Option (α × PH)) (k : α → PH → Option β) : Option β := match x with
  | some q => k q.1 q.2
  | none => none
theorem h_gi_some {ci k o : Nat} {h : PH} {x : Int32} (e : h_gi ci k h o = some x) : ∃ fs, h[o]? = some (.inr (ci, fs)) ∧ fs[k]? = some (.int x) := by
  unfold h_gi at e
  split at e
  · rename_i q hq
    split at e
    · rename_i hc
      split at e
      · rename_i y hy
        cases e
        exact ⟨q.2, by rw [hq, ← hc], hy⟩
      · cases e
    · cases e
  · cases e
theorem h_gr_some {ci k o : Nat} {h : PH} {x : Nat} (e : h_gr ci k h o = some x) : ∃ fs, h[o]? = some (.inr (ci, fs)) ∧ fs[k]? = some (.ref x) := by
  unfold h_gr at e
  split at e
  · rename_i q hq
    split at e
    · rename_i hc
      split at e
      · rename_i y hy
        cases e
        exact ⟨q.2, by rw [hq, ← hc], hy⟩
      · cases e
    · cases e
  · cases e
theorem h_ck_some {ci o : Nat} {h : PH} {x : Unit} (e : h_ck ci h o = some x) : ∃ fs, h[o]? = some (.inr (ci, fs)) := by
  unfold h_ck at e
  split at e
  · rename_i q hq
    split at e
    · rename_i hc
      exact ⟨q.2, by rw [hq, ← hc]⟩
    · cases e
  · cases e
theorem h_pv_some {ci k o : Nat} {h h' : PH} {v : Value} (e : h_pv ci k h o v = some h') : ∃ fs, h[o]? = some (.inr (ci, fs)) ∧ k < fs.length ∧ h' = h.set o (.inr (ci, fs.set k v)) := by
  unfold h_pv at e
  split at e
  · rename_i q hq
    split at e
    · rename_i hc
      cases e
      exact ⟨q.2, by rw [hq, ← hc.1], hc.2, rfl⟩
    · cases e
  · cases e
theorem h_ald_some {ty : FieldType} {o : Nat} {h : PH} {i x : Int32} (e : h_ald ty h o i = some x) : ∃ n f, h[o]? = some (.inl (ty, n, .inl f)) ∧ vp_in i n ∧ f i.toNatClampNeg = x := by
  unfold h_ald at e
  split at e
  · rename_i t n f hq
    split at e
    · rename_i hc
      cases e
      exact ⟨n, f, by rw [hq, hc.1], hc.2, rfl⟩
    · cases e
  · cases e
theorem h_ast_some {ty : FieldType} {o : Nat} {h h' : PH} {i x : Int32} (e : h_ast ty h o i x = some h') : ∃ n f, h[o]? = some (.inl (ty, n, .inl f)) ∧ vp_in i n ∧ h' = h.set o (.inl (ty, n, .inl (upd f i.toNatClampNeg x))) := by
  unfold h_ast at e
  split at e
  · rename_i t n f hq
    split at e
    · rename_i hc
      cases e
      exact ⟨n, f, by rw [hq, hc.1], hc.2, rfl⟩
    · cases e
  · cases e
theorem h_lld_some {o : Nat} {h : PH} {i : Int32} {x : Int64} (e : h_lld h o i = some x) : ∃ n f, h[o]? = some (.inl (.long, n, .inr (.inl f))) ∧ vp_in i n ∧ f i.toNatClampNeg = x := by
  unfold h_lld at e
  split at e
  · rename_i t n f hq
    split at e
    · rename_i hc
      cases e
      exact ⟨n, f, by rw [hq, hc.1], hc.2, rfl⟩
    · cases e
  · cases e
theorem h_lst_some {o : Nat} {h h' : PH} {i : Int32} {x : Int64} (e : h_lst h o i x = some h') : ∃ n f, h[o]? = some (.inl (.long, n, .inr (.inl f))) ∧ vp_in i n ∧ h' = h.set o (.inl (.long, n, .inr (.inl (vp_updL f i.toNatClampNeg x)))) := by
  unfold h_lst at e
  split at e
  · rename_i t n f hq
    split at e
    · rename_i hc
      cases e
      exact ⟨n, f, by rw [hq, hc.1], hc.2, rfl⟩
    · cases e
  · cases e
theorem h_al_some {ty : FieldType} {o : Nat} {h : PH} {x : Int32} (e : h_al ty h o = some x) : ∃ n a, h[o]? = some (.inl (ty, n, a)) ∧ Int32.ofNat n = x := by
  unfold h_al at e
  split at e
  · rename_i t n a hq
    split at e
    · rename_i hc
      cases e
      exact ⟨n, a, by rw [hq, hc], rfl⟩
    · cases e
  · cases e
theorem h_cpy_some {h h' : PH} {a b : Nat} {sp dp n : Int32} (e : h_cpy h a sp b dp n = some h') : ∃ n0 f n1 f1, h[a]? = some (.inl (.int, n0, .inl f)) ∧ h[b]? = some (.inl (.int, n1, .inl f1)) ∧ ¬ sp < 0 ∧ ¬ dp < 0 ∧ ¬ n < 0 ∧ sp.toNatClampNeg + n.toNatClampNeg ≤ n0 ∧ dp.toNatClampNeg + n.toNatClampNeg ≤ n1 ∧ h' = h.set b (.inl (.int, n1, .inl (va_cpy f f1 sp.toNatClampNeg dp.toNatClampNeg n.toNatClampNeg))) := by
  unfold h_cpy at e
  split at e
  · rename_i t n0 f t1 n1 f1 h1 h2
    split at e
    · rename_i hc
      obtain ⟨c1, c2, c3, c4, c5, c6, c7⟩ := hc
      cases e
      subst c1; subst c2
      exact ⟨n0, f, n1, f1, h1, h2, c3, c4, c5, c6, c7, rfl⟩
    · cases e
  · cases e
theorem h_bd_some {α β : Type} {x : Option (α × PH)} {k : α → PH → Option β} {y : β} (e : h_bd x k = some y) : ∃ r h', x = some (r, h') ∧ k r h' = some y := by
  cases x with
  | none => cases e
  | some q => exact ⟨q.1, q.2, rfl, e⟩
/-- a field, as an instruction of class own names it: its object's place in vwCl, its place, its type, whether it is final -/
def FL (own : String) (index ci k : Nat) (ty : FieldType) (fin : Bool) : Prop := ∃ (Cn : String) (T : u_T) (Nn : Nat) (ty0 : Nat → FieldType), vwCl[ci]? = some (Cn, T, Nn) ∧ (∀ w ∈ u_ws Cn T Nn, w ∈ WL) ∧ k < Nn ∧ Cond.fieldLink own index (T k).1 (T k).2.1 (T k).2.2.1 ∈ WL ∧ (∀ a, a < Nn → ∀ b, b < Nn → a ≠ b → (T a).2.1 ≠ (T b).2.1) ∧ (∀ k, k < Nn → parseFieldDescriptor (T k).2.2.1 = some (ty0 k)) ∧ parseFieldDescriptor (T k).2.2.1 = some ty ∧ (T k).2.2.2 = fin ∧ (fin = true → (T k).1 = own)
/-- a place of the locals, filled -/
def l_s1 (lv : List (Nat × Value)) (i : Nat) (v : Value) : List (Nat × Value) := (i, v) :: lv.filter (fun q => !(q.1 == i) && !(q.1 + 1 == i && q.2.category == 2))
def l_s2 (lv : List (Nat × Value)) (i : Nat) (v : Value) : List (Nat × Value) := (i, v) :: lv.filter (fun q => !(q.1 == i) && (!(q.1 == i + 1) && !(q.1 + 1 == i && q.2.category == 2)))
section VROWS
variable {α : Type} {K : AC} {g : WG} {nL kc ks mc ms : Nat} {em : α → Option Value} {fin : α → PH → State → Prop} {pc : Nat} {lv : List (Nat × Value)} {st : List Value} {h : PH} {z : Option (α × PH)}
variable {cc : ByteArray} {own nm : String} {ret : Option FieldType} {d mc9 ms9 : Nat}
theorem p_tys_K {ty : FieldType} {t0 : Nat} : True := trivial
theorem r_iconst (C : Cx K g cc nL own ret nm d mc9 ms9) {n : Int} {v : Int32} (hdg : decode cc pc = .ok (.iconst n, 1)) (hv : Int32.ofInt n = v) (k : VX K g nL kc ks fin (pc + 1) lv (.int v :: st) h z) : VX K g nL kc ks fin pc lv st h z := fun r h' hz H locs ls hW hS hl => lv_iconst C.1 C.2.1 hdg hv (k r h' hz H locs ls hW hS hl)
theorem r_bipush (C : Cx K g cc nL own ret nm d mc9 ms9) {n : Int} {v : Int32} (hdg : decode cc pc = .ok (.bipush n, 2)) (hv : (Int8.ofInt n).toInt32 = v) (k : VX K g nL kc ks fin (pc + 2) lv (.int v :: st) h z) : VX K g nL kc ks fin pc lv st h z := fun r h' hz H locs ls hW hS hl => lv_bipush C.1 C.2.1 hdg hv (k r h' hz H locs ls hW hS hl)
theorem r_sipush (C : Cx K g cc nL own ret nm d mc9 ms9) {n : Int} {v : Int32} (hdg : decode cc pc = .ok (.sipush n, 3)) (hv : (Int16.ofInt n).toInt32 = v) (k : VX K g nL kc ks fin (pc + 3) lv (.int v :: st) h z) : VX K g nL kc ks fin pc lv st h z := fun r h' hz H locs ls hW hS hl => lv_sipush C.1 C.2.1 hdg hv (k r h' hz H locs ls hW hS hl)
theorem r_lconst (C : Cx K g cc nL own ret nm d mc9 ms9) {n : Fin 2} {v : Int64} (hdg : decode cc pc = .ok (.lconst n, 1)) (hv : Int64.ofNat (n : Nat) = v) (k : VX K g nL kc ks fin (pc + 1) lv (.long v :: st) h z) : VX K g nL kc ks fin pc lv st h z := fun r h' hz H locs ls hW hS hl => lv_lconst C.1 C.2.1 hdg hv (k r h' hz H locs ls hW hS hl)
theorem r_ldc (C : Cx K g cc nL own ret nm d mc9 ms9) {index : Nat} {v : Int32} (hdg : decode cc pc = .ok (.ldc index, 2)) (hw : Cond.constant own index v ∈ WL) (k : VX K g nL kc ks fin (pc + 2) lv (.int v :: st) h z) : VX K g nL kc ks fin pc lv st h z := fun r h' hz H locs ls hW hS hl => lv_ldc C.1 C.2.1 C.2.2.2.1 (C.2.2.2.2.1 _ hw) hdg (k r h' hz H locs ls hW hS hl)
theorem r_ldcw (C : Cx K g cc nL own ret nm d mc9 ms9) {index : Nat} {v : Int32} (hdg : decode cc pc = .ok (.ldc_w index, 3)) (hw : Cond.constant own index v ∈ WL) (k : VX K g nL kc ks fin (pc + 3) lv (.int v :: st) h z) : VX K g nL kc ks fin pc lv st h z := fun r h' hz H locs ls hW hS hl => lv_ldcw C.1 C.2.1 C.2.2.2.1 (C.2.2.2.2.1 _ hw) hdg (k r h' hz H locs ls hW hS hl)
theorem r_ldc2 (C : Cx K g cc nL own ret nm d mc9 ms9) {index : Nat} {v : Int64} (hdg : decode cc pc = .ok (.ldc2_w index, 3)) (hw : Cond.constantLong own index v ∈ WL) (k : VX K g nL kc ks fin (pc + 3) lv (.long v :: st) h z) : VX K g nL kc ks fin pc lv st h z := fun r h' hz H locs ls hW hS hl => lv_ldc2 C.1 C.2.1 C.2.2.2.1 (C.2.2.2.2.1 _ hw) hdg (k r h' hz H locs ls hW hS hl)
theorem r_iload_n (C : Cx K g cc nL own ret nm d mc9 ms9) {k4 : Fin 4} {x : Int32} (hdg : decode cc pc = .ok (.iload_n k4, 1)) (j : Nat) (hj : lv[j]? = some ((k4 : Nat), .int x)) (k : VX K g nL kc ks fin (pc + 1) lv (.int x :: st) h z) : VX K g nL kc ks fin pc lv st h z := fun r h' hz H locs ls hW hS hl => lv_iload_n C.1 C.2.1 hdg rfl (lv_at hl j hj) (k r h' hz H locs ls hW hS hl)
theorem r_iload (C : Cx K g cc nL own ret nm d mc9 ms9) {i : Nat} {x : Int32} (hdg : decode cc pc = .ok (.iload i, 2)) (j : Nat) (hj : lv[j]? = some (i, .int x)) (k : VX K g nL kc ks fin (pc + 2) lv (.int x :: st) h z) : VX K g nL kc ks fin pc lv st h z := fun r h' hz H locs ls hW hS hl => lv_iload C.1 C.2.1 hdg (lv_at hl j hj) (k r h' hz H locs ls hW hS hl)
theorem r_lload_n (C : Cx K g cc nL own ret nm d mc9 ms9) {k4 : Fin 4} {x : Int64} (hdg : decode cc pc = .ok (.lload_n k4, 1)) (j : Nat) (hj : lv[j]? = some ((k4 : Nat), .long x)) (k : VX K g nL kc ks fin (pc + 1) lv (.long x :: st) h z) : VX K g nL kc ks fin pc lv st h z := fun r h' hz H locs ls hW hS hl => lv_lload_n C.1 C.2.1 hdg rfl (lv_at hl j hj) (k r h' hz H locs ls hW hS hl)
theorem r_lload (C : Cx K g cc nL own ret nm d mc9 ms9) {i : Nat} {x : Int64} (hdg : decode cc pc = .ok (.lload i, 2)) (j : Nat) (hj : lv[j]? = some (i, .long x)) (k : VX K g nL kc ks fin (pc + 2) lv (.long x :: st) h z) : VX K g nL kc ks fin pc lv st h z := fun r h' hz H locs ls hW hS hl => lv_lload C.1 C.2.1 hdg (lv_at hl j hj) (k r h' hz H locs ls hW hS hl)
theorem r_aload_n (C : Cx K g cc nL own ret nm d mc9 ms9) {k4 : Fin 4} {x : Nat} (hdg : decode cc pc = .ok (.aload_n k4, 1)) (j : Nat) (hj : lv[j]? = some ((k4 : Nat), p_rf g x)) (k : VX K g nL kc ks fin (pc + 1) lv (p_rf g x :: st) h z) : VX K g nL kc ks fin pc lv st h z := fun r h' hz H locs ls hW hS hl => lv_aload_n (x := p_b g + x) C.1 C.2.1 hdg rfl (lv_at hl j hj) (k r h' hz H locs ls hW hS hl)
theorem r_aload (C : Cx K g cc nL own ret nm d mc9 ms9) {i : Nat} {x : Nat} (hdg : decode cc pc = .ok (.aload i, 2)) (j : Nat) (hj : lv[j]? = some (i, p_rf g x)) (k : VX K g nL kc ks fin (pc + 2) lv (p_rf g x :: st) h z) : VX K g nL kc ks fin pc lv st h z := fun r h' hz H locs ls hW hS hl => lv_aload (x := p_b g + x) C.1 C.2.1 hdg (lv_at hl j hj) (k r h' hz H locs ls hW hS hl)
theorem r_istore_n (C : Cx K g cc nL own ret nm d mc9 ms9) {k4 : Fin 4} {x : Int32} {lv9 : List (Nat × Value)} (hdg : decode cc pc = .ok (.istore_n k4, 1)) (hn : (k4 : Nat) < nL) (hlv : l_s1 lv (k4 : Nat) (.int x) = lv9) (k : VX K g nL kc ks fin (pc + 1) lv9 st h z) : VX K g nL kc ks fin pc lv (.int x :: st) h z := fun r h' hz H locs ls hW hS hl => lv_istore_n C.1 C.2.1 hdg rfl hl hn hlv (fun ls hl => k r h' hz H locs ls hW hS hl)
theorem r_istore (C : Cx K g cc nL own ret nm d mc9 ms9) {i : Nat} {x : Int32} {lv9 : List (Nat × Value)} (hdg : decode cc pc = .ok (.istore i, 2)) (hn : i < nL) (hlv : l_s1 lv i (.int x) = lv9) (k : VX K g nL kc ks fin (pc + 2) lv9 st h z) : VX K g nL kc ks fin pc lv (.int x :: st) h z := fun r h' hz H locs ls hW hS hl => lv_istore C.1 C.2.1 hdg hl hn hlv (fun ls hl => k r h' hz H locs ls hW hS hl)
theorem r_lstore_n (C : Cx K g cc nL own ret nm d mc9 ms9) {k4 : Fin 4} {x : Int64} {lv9 : List (Nat × Value)} (hdg : decode cc pc = .ok (.lstore_n k4, 1)) (hn : (k4 : Nat) + 1 < nL) (hlv : l_s2 lv (k4 : Nat) (.long x) = lv9) (k : VX K g nL kc ks fin (pc + 1) lv9 st h z) : VX K g nL kc ks fin pc lv (.long x :: st) h z := fun r h' hz H locs ls hW hS hl => lv_lstore_n C.1 C.2.1 hdg rfl hl hn hlv (fun ls hl => k r h' hz H locs ls hW hS hl)
theorem r_lstore (C : Cx K g cc nL own ret nm d mc9 ms9) {i : Nat} {x : Int64} {lv9 : List (Nat × Value)} (hdg : decode cc pc = .ok (.lstore i, 2)) (hn : i + 1 < nL) (hlv : l_s2 lv i (.long x) = lv9) (k : VX K g nL kc ks fin (pc + 2) lv9 st h z) : VX K g nL kc ks fin pc lv (.long x :: st) h z := fun r h' hz H locs ls hW hS hl => lv_lstore C.1 C.2.1 hdg hl hn hlv (fun ls hl => k r h' hz H locs ls hW hS hl)
theorem r_astore_n (C : Cx K g cc nL own ret nm d mc9 ms9) {k4 : Fin 4} {x : Nat} {lv9 : List (Nat × Value)} (hdg : decode cc pc = .ok (.astore_n k4, 1)) (hn : (k4 : Nat) < nL) (hlv : l_s1 lv (k4 : Nat) (p_rf g x) = lv9) (k : VX K g nL kc ks fin (pc + 1) lv9 st h z) : VX K g nL kc ks fin pc lv (p_rf g x :: st) h z := fun r h' hz H locs ls hW hS hl => lv_astore_n (x := p_b g + x) C.1 C.2.1 hdg rfl hl hn hlv (fun ls hl => k r h' hz H locs ls hW hS hl)
theorem r_astore (C : Cx K g cc nL own ret nm d mc9 ms9) {i : Nat} {x : Nat} {lv9 : List (Nat × Value)} (hdg : decode cc pc = .ok (.astore i, 2)) (hn : i < nL) (hlv : l_s1 lv i (p_rf g x) = lv9) (k : VX K g nL kc ks fin (pc + 2) lv9 st h z) : VX K g nL kc ks fin pc lv (p_rf g x :: st) h z := fun r h' hz H locs ls hW hS hl => lv_astore (x := p_b g + x) C.1 C.2.1 hdg hl hn hlv (fun ls hl => k r h' hz H locs ls hW hS hl)
theorem r_iinc (C : Cx K g cc nL own ret nm d mc9 ms9) {i : Nat} {n : Int} {x v : Int32} {lv' : List (Nat × Value)} {f : Int32 → Option (α × PH)} (hdg : decode cc pc = .ok (.iinc i n, 3)) (j : Nat) (hj : lv[j]? = some (i, .int x)) (hv : Int32.ofInt n = v) (hn : i < nL) (hlv : ∀ y : Int32, l_s1 lv i (.int y) = (i, .int y) :: lv') (k : ∀ y : Int32, VX K g nL kc ks fin (pc + 3) ((i, .int y) :: lv') st h (f y)) : VX K g nL kc ks fin pc lv st h (letE (x + v) f) := fun r h' hz H locs ls hW hS hl => lv_iinc C.1 C.2.1 hdg hl hj (by rw [hv]) hn (hlv _) (fun ls hl => k (x + v) r h' hz H locs ls hW hS hl)
theorem r_iadd (C : Cx K g cc nL own ret nm d mc9 ms9) {x y : Int32} (hdg : decode cc pc = .ok (.iadd, 1))  (k : VX K g nL kc ks fin (pc + 1) lv (.int (x + y) :: st) h z) : VX K g nL kc ks fin pc lv (.int y :: .int x :: st) h z := fun r h' hz H locs ls hW hS hl => lv_iadd C.1 C.2.1 hdg (k r h' hz H locs ls hW hS hl)
theorem r_isub (C : Cx K g cc nL own ret nm d mc9 ms9) {x y : Int32} (hdg : decode cc pc = .ok (.isub, 1))  (k : VX K g nL kc ks fin (pc + 1) lv (.int (x - y) :: st) h z) : VX K g nL kc ks fin pc lv (.int y :: .int x :: st) h z := fun r h' hz H locs ls hW hS hl => lv_isub C.1 C.2.1 hdg (k r h' hz H locs ls hW hS hl)
theorem r_imul (C : Cx K g cc nL own ret nm d mc9 ms9) {x y : Int32} (hdg : decode cc pc = .ok (.imul, 1))  (k : VX K g nL kc ks fin (pc + 1) lv (.int (x * y) :: st) h z) : VX K g nL kc ks fin pc lv (.int y :: .int x :: st) h z := fun r h' hz H locs ls hW hS hl => lv_imul C.1 C.2.1 hdg (k r h' hz H locs ls hW hS hl)
theorem r_iand (C : Cx K g cc nL own ret nm d mc9 ms9) {x y : Int32} (hdg : decode cc pc = .ok (.iand, 1))  (k : VX K g nL kc ks fin (pc + 1) lv (.int (x &&& y) :: st) h z) : VX K g nL kc ks fin pc lv (.int y :: .int x :: st) h z := fun r h' hz H locs ls hW hS hl => lv_iand C.1 C.2.1 hdg (k r h' hz H locs ls hW hS hl)
theorem r_ior (C : Cx K g cc nL own ret nm d mc9 ms9) {x y : Int32} (hdg : decode cc pc = .ok (.ior, 1))  (k : VX K g nL kc ks fin (pc + 1) lv (.int (x ||| y) :: st) h z) : VX K g nL kc ks fin pc lv (.int y :: .int x :: st) h z := fun r h' hz H locs ls hW hS hl => lv_ior C.1 C.2.1 hdg (k r h' hz H locs ls hW hS hl)
theorem r_ixor (C : Cx K g cc nL own ret nm d mc9 ms9) {x y : Int32} (hdg : decode cc pc = .ok (.ixor, 1))  (k : VX K g nL kc ks fin (pc + 1) lv (.int (x ^^^ y) :: st) h z) : VX K g nL kc ks fin pc lv (.int y :: .int x :: st) h z := fun r h' hz H locs ls hW hS hl => lv_ixor C.1 C.2.1 hdg (k r h' hz H locs ls hW hS hl)
theorem r_ishl (C : Cx K g cc nL own ret nm d mc9 ms9) {x y : Int32} (hdg : decode cc pc = .ok (.ishl, 1))  (k : VX K g nL kc ks fin (pc + 1) lv (.int (x <<< (y &&& 31)) :: st) h z) : VX K g nL kc ks fin pc lv (.int y :: .int x :: st) h z := fun r h' hz H locs ls hW hS hl => lv_ishl C.1 C.2.1 hdg (k r h' hz H locs ls hW hS hl)
theorem r_ishr (C : Cx K g cc nL own ret nm d mc9 ms9) {x y : Int32} (hdg : decode cc pc = .ok (.ishr, 1))  (k : VX K g nL kc ks fin (pc + 1) lv (.int (x >>> (y &&& 31)) :: st) h z) : VX K g nL kc ks fin pc lv (.int y :: .int x :: st) h z := fun r h' hz H locs ls hW hS hl => lv_ishr C.1 C.2.1 hdg (k r h' hz H locs ls hW hS hl)
theorem r_iushr (C : Cx K g cc nL own ret nm d mc9 ms9) {x y : Int32} (hdg : decode cc pc = .ok (.iushr, 1))  (k : VX K g nL kc ks fin (pc + 1) lv (.int ((x.toUInt32 >>> (y.toUInt32 &&& Int32.toUInt32 31)).toInt32) :: st) h z) : VX K g nL kc ks fin pc lv (.int y :: .int x :: st) h z := fun r h' hz H locs ls hW hS hl => lv_iushr C.1 C.2.1 hdg rfl (k r h' hz H locs ls hW hS hl)
theorem r_ladd (C : Cx K g cc nL own ret nm d mc9 ms9) {x y : Int64} (hdg : decode cc pc = .ok (.ladd, 1))  (k : VX K g nL kc ks fin (pc + 1) lv (.long (x + y) :: st) h z) : VX K g nL kc ks fin pc lv (.long y :: .long x :: st) h z := fun r h' hz H locs ls hW hS hl => lv_ladd C.1 C.2.1 hdg (k r h' hz H locs ls hW hS hl)
theorem r_lsub (C : Cx K g cc nL own ret nm d mc9 ms9) {x y : Int64} (hdg : decode cc pc = .ok (.lsub, 1))  (k : VX K g nL kc ks fin (pc + 1) lv (.long (x - y) :: st) h z) : VX K g nL kc ks fin pc lv (.long y :: .long x :: st) h z := fun r h' hz H locs ls hW hS hl => lv_lsub C.1 C.2.1 hdg (k r h' hz H locs ls hW hS hl)
theorem r_lmul (C : Cx K g cc nL own ret nm d mc9 ms9) {x y : Int64} (hdg : decode cc pc = .ok (.lmul, 1))  (k : VX K g nL kc ks fin (pc + 1) lv (.long (x * y) :: st) h z) : VX K g nL kc ks fin pc lv (.long y :: .long x :: st) h z := fun r h' hz H locs ls hW hS hl => lv_lmul C.1 C.2.1 hdg (k r h' hz H locs ls hW hS hl)
theorem r_ineg (C : Cx K g cc nL own ret nm d mc9 ms9) {x : Int32} (hdg : decode cc pc = .ok (.ineg, 1))  (k : VX K g nL kc ks fin (pc + 1) lv (.int (-x) :: st) h z) : VX K g nL kc ks fin pc lv (.int x :: st) h z := fun r h' hz H locs ls hW hS hl => lv_ineg C.1 C.2.1 hdg (k r h' hz H locs ls hW hS hl)
theorem r_i2l (C : Cx K g cc nL own ret nm d mc9 ms9) {x : Int32} (hdg : decode cc pc = .ok (.i2l, 1))  (k : VX K g nL kc ks fin (pc + 1) lv (.long x.toInt64 :: st) h z) : VX K g nL kc ks fin pc lv (.int x :: st) h z := fun r h' hz H locs ls hW hS hl => lv_i2l C.1 C.2.1 hdg rfl (k r h' hz H locs ls hW hS hl)
theorem r_i2b (C : Cx K g cc nL own ret nm d mc9 ms9) {x : Int32} (hdg : decode cc pc = .ok (.i2b, 1))  (k : VX K g nL kc ks fin (pc + 1) lv (.int x.toInt8.toInt32 :: st) h z) : VX K g nL kc ks fin pc lv (.int x :: st) h z := fun r h' hz H locs ls hW hS hl => lv_i2b C.1 C.2.1 hdg rfl (k r h' hz H locs ls hW hS hl)
theorem r_i2s (C : Cx K g cc nL own ret nm d mc9 ms9) {x : Int32} (hdg : decode cc pc = .ok (.i2s, 1))  (k : VX K g nL kc ks fin (pc + 1) lv (.int x.toInt16.toInt32 :: st) h z) : VX K g nL kc ks fin pc lv (.int x :: st) h z := fun r h' hz H locs ls hW hS hl => lv_i2s C.1 C.2.1 hdg rfl (k r h' hz H locs ls hW hS hl)
theorem r_i2c (C : Cx K g cc nL own ret nm d mc9 ms9) {x : Int32} (hdg : decode cc pc = .ok (.i2c, 1))  (k : VX K g nL kc ks fin (pc + 1) lv (.int ((x.toUInt32 % 65536).toInt32) :: st) h z) : VX K g nL kc ks fin pc lv (.int x :: st) h z := fun r h' hz H locs ls hW hS hl => lv_i2c C.1 C.2.1 hdg rfl (k r h' hz H locs ls hW hS hl)
theorem r_lcmp (C : Cx K g cc nL own ret nm d mc9 ms9) {x y : Int64} (hdg : decode cc pc = .ok (.lcmp, 1))  (k : VX K g nL kc ks fin (pc + 1) lv (.int (lg_cmp x y) :: st) h z) : VX K g nL kc ks fin pc lv (.long y :: .long x :: st) h z := fun r h' hz H locs ls hW hS hl => W.lcmp C.1 C.2.1 hdg (k r h' hz H locs ls hW hS hl)
theorem r_dup (C : Cx K g cc nL own ret nm d mc9 ms9) {v : Value} (hdg : decode cc pc = .ok (.dup, 1)) (hv : v.category = 1) (k : VX K g nL kc ks fin (pc + 1) lv (v :: v :: st) h z) : VX K g nL kc ks fin pc lv (v :: st) h z := fun r h' hz H locs ls hW hS hl => lv_dup C.1 C.2.1 hdg hv (k r h' hz H locs ls hW hS hl)
theorem r_pop (C : Cx K g cc nL own ret nm d mc9 ms9) {v : Value} (hdg : decode cc pc = .ok (.pop, 1)) (hv : v.category = 1) (k : VX K g nL kc ks fin (pc + 1) lv st h z) : VX K g nL kc ks fin pc lv (v :: st) h z := fun r h' hz H locs ls hW hS hl => lv_pop C.1 C.2.1 hdg hv (k r h' hz H locs ls hW hS hl)
theorem r_dup_x1 (C : Cx K g cc nL own ret nm d mc9 ms9) {v u : Value} (hdg : decode cc pc = .ok (.dup_x1, 1)) (hv : v.category = 1) (hu : u.category = 1) (k : VX K g nL kc ks fin (pc + 1) lv (v :: u :: v :: st) h z) : VX K g nL kc ks fin pc lv (v :: u :: st) h z := fun r h' hz H locs ls hW hS hl => lv_dup_x1 C.1 C.2.1 hdg hv hu (k r h' hz H locs ls hW hS hl)
theorem r_dup2 (C : Cx K g cc nL own ret nm d mc9 ms9) {v u : Value} (hdg : decode cc pc = .ok (.dup2, 1)) (hv : v.category = 1) (hu : u.category = 1) (k : VX K g nL kc ks fin (pc + 1) lv (v :: u :: v :: u :: st) h z) : VX K g nL kc ks fin pc lv (v :: u :: st) h z := fun r h' hz H locs ls hW hS hl => lv_dup2_11 C.1 C.2.1 hdg hv hu (k r h' hz H locs ls hW hS hl)
theorem r_idiv (C : Cx K g cc nL own ret nm d mc9 ms9) {x y : Int32} (hdg : decode cc pc = .ok (.idiv, 1)) (k : VX K g nL kc ks fin (pc + 1) lv (.int (x / y) :: st) h z) : VX K g nL kc ks fin pc lv (.int y :: .int x :: st) h (if y = 0 then none else z) := by
  intro r h' hz H locs ls hW hS hl
  by_cases hy : y = 0
  · rw [if_pos hy] at hz; cases hz
  · rw [if_neg hy] at hz
    exact lv_idiv C.1 C.2.1 hdg hy (k r h' hz H locs ls hW hS hl)
theorem r_irem (C : Cx K g cc nL own ret nm d mc9 ms9) {x y : Int32} (hdg : decode cc pc = .ok (.irem, 1)) (k : VX K g nL kc ks fin (pc + 1) lv (.int (x - x / y * y) :: st) h z) : VX K g nL kc ks fin pc lv (.int y :: .int x :: st) h (if y = 0 then none else z) := by
  intro r h' hz H locs ls hW hS hl
  by_cases hy : y = 0
  · rw [if_pos hy] at hz; cases hz
  · rw [if_neg hy] at hz
    exact lv_irem C.1 C.2.1 hdg hy (k r h' hz H locs ls hW hS hl)
theorem r_ldiv (C : Cx K g cc nL own ret nm d mc9 ms9) {x y : Int64} (hdg : decode cc pc = .ok (.ldiv, 1)) (k : VX K g nL kc ks fin (pc + 1) lv (.long (x / y) :: st) h z) : VX K g nL kc ks fin pc lv (.long y :: .long x :: st) h (if y = 0 then none else z) := by
  intro r h' hz H locs ls hW hS hl
  by_cases hy : y = 0
  · rw [if_pos hy] at hz; cases hz
  · rw [if_neg hy] at hz
    exact lv_ldiv C.1 C.2.1 hdg hy (k r h' hz H locs ls hW hS hl)
theorem r_lrem (C : Cx K g cc nL own ret nm d mc9 ms9) {x y : Int64} (hdg : decode cc pc = .ok (.lrem, 1)) (k : VX K g nL kc ks fin (pc + 1) lv (.long (x - x / y * y) :: st) h z) : VX K g nL kc ks fin pc lv (.long y :: .long x :: st) h (if y = 0 then none else z) := by
  intro r h' hz H locs ls hW hS hl
  by_cases hy : y = 0
  · rw [if_pos hy] at hz; cases hz
  · rw [if_neg hy] at hz
    exact lv_lrem C.1 C.2.1 hdg hy (k r h' hz H locs ls hW hS hl)
theorem r_icmp_eq (C : Cx K g cc nL own ret nm d mc9 ms9) {x y : Int32} {off : Int} {tgt : Nat} {a b : Option (α × PH)} (hdg : decode cc pc = .ok (.if_icmp .eq off, 3)) (ht : (pc : Int) + off = (tgt : Int)) (kt : VX K g nL kc ks fin tgt lv st h a) (kf : VX K g nL kc ks fin (pc + 3) lv st h b) : VX K g nL kc ks fin pc lv (.int y :: .int x :: st) h (if x = y then a else b) :=
  fun r h' hz H locs ls hW hS hl => lv_icmp_eq C.1 C.2.1 hdg ht (fun c => kt r h' (by rw [if_pos c] at hz; exact hz) H locs ls hW hS hl) (fun c => kf r h' (by rw [if_neg c] at hz; exact hz) H locs ls hW hS hl)
theorem r_if_eq (C : Cx K g cc nL own ret nm d mc9 ms9) {x : Int32} {off : Int} {tgt : Nat} {a b : Option (α × PH)} (hdg : decode cc pc = .ok (.ifCond .eq off, 3)) (ht : (pc : Int) + off = (tgt : Int)) (kt : VX K g nL kc ks fin tgt lv st h a) (kf : VX K g nL kc ks fin (pc + 3) lv st h b) : VX K g nL kc ks fin pc lv (.int x :: st) h (if x = 0 then a else b) :=
  fun r h' hz H locs ls hW hS hl => lv_if_eq C.1 C.2.1 hdg ht (fun c => kt r h' (by rw [if_pos c] at hz; exact hz) H locs ls hW hS hl) (fun c => kf r h' (by rw [if_neg c] at hz; exact hz) H locs ls hW hS hl)
theorem r_icmp_ne (C : Cx K g cc nL own ret nm d mc9 ms9) {x y : Int32} {off : Int} {tgt : Nat} {a b : Option (α × PH)} (hdg : decode cc pc = .ok (.if_icmp .ne off, 3)) (ht : (pc : Int) + off = (tgt : Int)) (kt : VX K g nL kc ks fin tgt lv st h a) (kf : VX K g nL kc ks fin (pc + 3) lv st h b) : VX K g nL kc ks fin pc lv (.int y :: .int x :: st) h (if x = y then b else a) :=
  fun r h' hz H locs ls hW hS hl => lv_icmp_ne C.1 C.2.1 hdg ht (fun c => kt r h' (by rw [if_neg c] at hz; exact hz) H locs ls hW hS hl) (fun c => kf r h' (by rw [if_pos c] at hz; exact hz) H locs ls hW hS hl)
theorem r_if_ne (C : Cx K g cc nL own ret nm d mc9 ms9) {x : Int32} {off : Int} {tgt : Nat} {a b : Option (α × PH)} (hdg : decode cc pc = .ok (.ifCond .ne off, 3)) (ht : (pc : Int) + off = (tgt : Int)) (kt : VX K g nL kc ks fin tgt lv st h a) (kf : VX K g nL kc ks fin (pc + 3) lv st h b) : VX K g nL kc ks fin pc lv (.int x :: st) h (if x = 0 then b else a) :=
  fun r h' hz H locs ls hW hS hl => lv_if_ne C.1 C.2.1 hdg ht (fun c => kt r h' (by rw [if_neg c] at hz; exact hz) H locs ls hW hS hl) (fun c => kf r h' (by rw [if_pos c] at hz; exact hz) H locs ls hW hS hl)
theorem r_icmp_lt (C : Cx K g cc nL own ret nm d mc9 ms9) {x y : Int32} {off : Int} {tgt : Nat} {a b : Option (α × PH)} (hdg : decode cc pc = .ok (.if_icmp .lt off, 3)) (ht : (pc : Int) + off = (tgt : Int)) (kt : VX K g nL kc ks fin tgt lv st h a) (kf : VX K g nL kc ks fin (pc + 3) lv st h b) : VX K g nL kc ks fin pc lv (.int y :: .int x :: st) h (if x < y then a else b) :=
  fun r h' hz H locs ls hW hS hl => lv_icmp_lt C.1 C.2.1 hdg ht (fun c => kt r h' (by rw [if_pos c] at hz; exact hz) H locs ls hW hS hl) (fun c => kf r h' (by rw [if_neg c] at hz; exact hz) H locs ls hW hS hl)
theorem r_if_lt (C : Cx K g cc nL own ret nm d mc9 ms9) {x : Int32} {off : Int} {tgt : Nat} {a b : Option (α × PH)} (hdg : decode cc pc = .ok (.ifCond .lt off, 3)) (ht : (pc : Int) + off = (tgt : Int)) (kt : VX K g nL kc ks fin tgt lv st h a) (kf : VX K g nL kc ks fin (pc + 3) lv st h b) : VX K g nL kc ks fin pc lv (.int x :: st) h (if x < 0 then a else b) :=
  fun r h' hz H locs ls hW hS hl => lv_if_lt C.1 C.2.1 hdg ht (fun c => kt r h' (by rw [if_pos c] at hz; exact hz) H locs ls hW hS hl) (fun c => kf r h' (by rw [if_neg c] at hz; exact hz) H locs ls hW hS hl)
theorem r_icmp_ge (C : Cx K g cc nL own ret nm d mc9 ms9) {x y : Int32} {off : Int} {tgt : Nat} {a b : Option (α × PH)} (hdg : decode cc pc = .ok (.if_icmp .ge off, 3)) (ht : (pc : Int) + off = (tgt : Int)) (kt : VX K g nL kc ks fin tgt lv st h a) (kf : VX K g nL kc ks fin (pc + 3) lv st h b) : VX K g nL kc ks fin pc lv (.int y :: .int x :: st) h (if y ≤ x then a else b) :=
  fun r h' hz H locs ls hW hS hl => lv_icmp_ge C.1 C.2.1 hdg ht (fun c => kt r h' (by rw [if_pos c] at hz; exact hz) H locs ls hW hS hl) (fun c => kf r h' (by rw [if_neg c] at hz; exact hz) H locs ls hW hS hl)
theorem r_if_ge (C : Cx K g cc nL own ret nm d mc9 ms9) {x : Int32} {off : Int} {tgt : Nat} {a b : Option (α × PH)} (hdg : decode cc pc = .ok (.ifCond .ge off, 3)) (ht : (pc : Int) + off = (tgt : Int)) (kt : VX K g nL kc ks fin tgt lv st h a) (kf : VX K g nL kc ks fin (pc + 3) lv st h b) : VX K g nL kc ks fin pc lv (.int x :: st) h (if 0 ≤ x then a else b) :=
  fun r h' hz H locs ls hW hS hl => lv_if_ge C.1 C.2.1 hdg ht (fun c => kt r h' (by rw [if_pos c] at hz; exact hz) H locs ls hW hS hl) (fun c => kf r h' (by rw [if_neg c] at hz; exact hz) H locs ls hW hS hl)
theorem r_icmp_gt (C : Cx K g cc nL own ret nm d mc9 ms9) {x y : Int32} {off : Int} {tgt : Nat} {a b : Option (α × PH)} (hdg : decode cc pc = .ok (.if_icmp .gt off, 3)) (ht : (pc : Int) + off = (tgt : Int)) (kt : VX K g nL kc ks fin tgt lv st h a) (kf : VX K g nL kc ks fin (pc + 3) lv st h b) : VX K g nL kc ks fin pc lv (.int y :: .int x :: st) h (if y < x then a else b) :=
  fun r h' hz H locs ls hW hS hl => lv_icmp_gt C.1 C.2.1 hdg ht (fun c => kt r h' (by rw [if_pos c] at hz; exact hz) H locs ls hW hS hl) (fun c => kf r h' (by rw [if_neg c] at hz; exact hz) H locs ls hW hS hl)
theorem r_if_gt (C : Cx K g cc nL own ret nm d mc9 ms9) {x : Int32} {off : Int} {tgt : Nat} {a b : Option (α × PH)} (hdg : decode cc pc = .ok (.ifCond .gt off, 3)) (ht : (pc : Int) + off = (tgt : Int)) (kt : VX K g nL kc ks fin tgt lv st h a) (kf : VX K g nL kc ks fin (pc + 3) lv st h b) : VX K g nL kc ks fin pc lv (.int x :: st) h (if 0 < x then a else b) :=
  fun r h' hz H locs ls hW hS hl => lv_if_gt C.1 C.2.1 hdg ht (fun c => kt r h' (by rw [if_pos c] at hz; exact hz) H locs ls hW hS hl) (fun c => kf r h' (by rw [if_neg c] at hz; exact hz) H locs ls hW hS hl)
theorem r_icmp_le (C : Cx K g cc nL own ret nm d mc9 ms9) {x y : Int32} {off : Int} {tgt : Nat} {a b : Option (α × PH)} (hdg : decode cc pc = .ok (.if_icmp .le off, 3)) (ht : (pc : Int) + off = (tgt : Int)) (kt : VX K g nL kc ks fin tgt lv st h a) (kf : VX K g nL kc ks fin (pc + 3) lv st h b) : VX K g nL kc ks fin pc lv (.int y :: .int x :: st) h (if x ≤ y then a else b) :=
  fun r h' hz H locs ls hW hS hl => lv_icmp_le C.1 C.2.1 hdg ht (fun c => kt r h' (by rw [if_pos c] at hz; exact hz) H locs ls hW hS hl) (fun c => kf r h' (by rw [if_neg c] at hz; exact hz) H locs ls hW hS hl)
theorem r_if_le (C : Cx K g cc nL own ret nm d mc9 ms9) {x : Int32} {off : Int} {tgt : Nat} {a b : Option (α × PH)} (hdg : decode cc pc = .ok (.ifCond .le off, 3)) (ht : (pc : Int) + off = (tgt : Int)) (kt : VX K g nL kc ks fin tgt lv st h a) (kf : VX K g nL kc ks fin (pc + 3) lv st h b) : VX K g nL kc ks fin pc lv (.int x :: st) h (if x ≤ 0 then a else b) :=
  fun r h' hz H locs ls hW hS hl => lv_if_le C.1 C.2.1 hdg ht (fun c => kt r h' (by rw [if_pos c] at hz; exact hz) H locs ls hW hS hl) (fun c => kf r h' (by rw [if_neg c] at hz; exact hz) H locs ls hW hS hl)
theorem r_goto (C : Cx K g cc nL own ret nm d mc9 ms9) {off : Int} {tgt : Nat} (hdg : decode cc pc = .ok (.goto off, 3)) (ht : (pc : Int) + off = (tgt : Int)) (k : VX K g nL kc ks fin tgt lv st h z) : VX K g nL kc ks fin pc lv st h z :=
  fun r h' hz H locs ls hW hS hl => lv_goto C.1 C.2.1 hdg ht (k r h' hz H locs ls hW hS hl)
theorem r_lk (C : Cx K g cc nL own ret nm d mc9 ms9) {dflt : Int} {ps : Array (Int × Int)} {len : Nat} {x : Int32} (hdg : decode cc pc = .ok (.lookupswitch dflt ps, len)) (hp : (ps.toList.zip (ps.toList.drop 1)).all (fun (a, next) => a.1 < next.1) = true) (tg : Int → Nat) (htg : ∀ o ∈ dflt :: ps.toList.map (fun q => q.2), (pc : Int) + o = (tg o : Int)) (hoff : ∀ xi : Int, Op.lookupswitch.offset ps.toList dflt xi ∈ dflt :: ps.toList.map (fun q => q.2)) (k : VX K g nL kc ks fin (tg (Op.lookupswitch.offset ps.toList dflt x.toInt)) lv st h z) : VX K g nL kc ks fin pc lv (.int x :: st) h z :=
  fun r h' hz H locs ls hW hS hl => lv_lookup C.1 C.2.1 hdg hp rfl (htg _ (hoff _)) (k r h' hz H locs ls hW hS hl)
theorem r_tin (C : Cx K g cc nL own ret nm d mc9 ms9) {dflt lo hi : Int} {offs : Array Int} {len : Nat} {x : Int32} {off : Int} {tgt : Nat} (hdg : decode cc pc = .ok (.tableswitch dflt lo hi offs, len)) (h1 : ¬ x.toInt < lo) (h2 : ¬ hi < x.toInt) (ho : offs[(x.toInt - lo).toNat]? = some off) (ht : (pc : Int) + off = (tgt : Int)) (k : VX K g nL kc ks fin tgt lv st h z) : VX K g nL kc ks fin pc lv (.int x :: st) h z :=
  fun r h' hz H locs ls hW hS hl => lv_tableIn C.1 C.2.1 hdg h1 h2 ho ht (k r h' hz H locs ls hW hS hl)
theorem r_tout (C : Cx K g cc nL own ret nm d mc9 ms9) {dflt lo hi : Int} {offs : Array Int} {len : Nat} {x : Int32} {tgt : Nat} (hdg : decode cc pc = .ok (.tableswitch dflt lo hi offs, len)) (h1 : x.toInt < lo ∨ hi < x.toInt) (ht : (pc : Int) + dflt = (tgt : Int)) (k : VX K g nL kc ks fin tgt lv st h z) : VX K g nL kc ks fin pc lv (.int x :: st) h z :=
  fun r h' hz H locs ls hW hS hl => lv_tableOut C.1 C.2.1 hdg h1 ht (k r h' hz H locs ls hW hS hl)
/-- the locals in another order, or fewer -/
theorem r_perm {lv' : List (Nat × Value)} (ks9 : List Nat) (hp : lv_pick lv ks9 = lv') (k : VX K g nL kc ks fin pc lv' st h z) : VX K g nL kc ks fin pc lv st h z :=
  fun r h' hz H locs ls hW hS hl => k r h' hz H locs ls hW hS (lv_sub hl ks9 hp)
/-- the top, by a name -/
theorem r_topi {x : Int32} {f : Int32 → Option (α × PH)} (k : ∀ y : Int32, VX K g nL kc ks fin pc lv (.int y :: st) h (f y)) : VX K g nL kc ks fin pc lv (.int x :: st) h (letE x f) := k x
theorem r_topl {x : Int64} {f : Int64 → Option (α × PH)} (k : ∀ y : Int64, VX K g nL kc ks fin pc lv (.long y :: st) h (f y)) : VX K g nL kc ks fin pc lv (.long x :: st) h (letE x f) := k x
theorem r_none : VX K g nL kc ks fin pc lv st h none := fun r h' hz => by cases hz
theorem p_word (C : Cx K g cc nL own ret nm d mc9 ms9) {w : Cond} (hw : w ∈ WL) : w.before K.2.2.2.2.2.2.1 (a_s K) = true := C.2.2.2.2.1 w hw
theorem p_set {h : PH} {o : Nat} {e e0 : PE} {H0 H1 : Heap} (hW : p_W g h H0) (ho : h[o]? = some e0) (hP : va_P g.1 vwCl ((p_ws g h).set o (p_b g + o, p_cl g e)) H1) (hz : H1.size = H0.size) : p_W g (h.set o e) H1 :=
  ⟨by rw [p_ws_set]; exact hP, fun a => by rw [List.length_set, hz]; exact hW.2.1 a, fun a => by rw [List.length_set]; exact hW.2.2 a⟩
end VROWS
