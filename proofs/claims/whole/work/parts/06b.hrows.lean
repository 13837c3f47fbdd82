section HROWS
variable {α : Type} {K : AC} {g : WG} {nL kc ks mc ms : Nat} {em : α → Option Value} {fin : α → PH → State → Prop} {pc : Nat} {lv : List (Nat × Value)} {st : List Value} {h : PH} {z : Option (α × PH)}
variable {cc : ByteArray} {own nm : String} {ret : Option FieldType} {d mc9 ms9 : Nat}
theorem p_map {g : WG} {fs : List Value} {k : Nat} {v : Value} (hv : fs[k]? = some v) : (fs.map (p_rn g))[k]? = some (p_rn g v) := by
  rw [List.getElem?_map, hv]; rfl
theorem p_mapset (g : WG) (fs : List Value) (k : Nat) (v : Value) : (fs.set k v).map (p_rn g) = (fs.map (p_rn g)).set k (p_rn g v) := by
  rw [List.map_set]
theorem r_gi (C : Cx K g cc nL own ret nm d mc9 ms9) {index ci k o : Nat} {ty : FieldType} {fb : Bool} (F : FL own index ci k ty fb) {f : Int32 → Option (α × PH)} (hdg : decode cc pc = .ok (.getfield index, 3)) (kk : ∀ x, VX K g nL kc ks fin (pc + 3) lv (.int x :: st) h (f x)) : VX K g nL kc ks fin pc lv (p_rf g o :: st) h ((h_gi ci k h o).bind f) := by
  intro r h' hz H locs ls hW hS hl
  obtain ⟨x, hx, hf⟩ := Option.bind_eq_some_iff.mp hz
  obtain ⟨fs, hfs, hk⟩ := h_gi_some hx
  obtain ⟨Cn, T, Nn, ty0, f1, f2, f3, f4, f5, f6, f7, f8, f9⟩ := F
  exact va_get C.1 C.2.1 C.2.2.2.2.1 f2 C.2.2.2.1 C.2.2.2.2.2.1 hW.1 o (p_ws_some hfs) f1 k f3 (p_word C f4) (fun _ h => h) (p_map hk) hdg (kk x r h' hf H locs ls hW hS hl)
theorem r_gr (C : Cx K g cc nL own ret nm d mc9 ms9) {index ci k o : Nat} {ty : FieldType} {fb : Bool} (F : FL own index ci k ty fb) {f : Nat → Option (α × PH)} (hdg : decode cc pc = .ok (.getfield index, 3)) (kk : ∀ x, VX K g nL kc ks fin (pc + 3) lv (p_rf g x :: st) h (f x)) : VX K g nL kc ks fin pc lv (p_rf g o :: st) h ((h_gr ci k h o).bind f) := by
  intro r h' hz H locs ls hW hS hl
  obtain ⟨x, hx, hf⟩ := Option.bind_eq_some_iff.mp hz
  obtain ⟨fs, hfs, hk⟩ := h_gr_some hx
  obtain ⟨Cn, T, Nn, ty0, f1, f2, f3, f4, f5, f6, f7, f8, f9⟩ := F
  exact va_get C.1 C.2.1 C.2.2.2.2.1 f2 C.2.2.2.1 C.2.2.2.2.2.1 hW.1 o (p_ws_some hfs) f1 k f3 (p_word C f4) (fun _ h => h) (p_map hk) hdg (kk x r h' hf H locs ls hW hS hl)
theorem p_S {K : AC} {g : WG} {H0 H1 : Heap} {locs : List Loc} {o k : Nat} {e0 : PE} {h : PH} (hS : va_S (p_A g) (a_s K).heap H0 locs) (hW : p_W g h H0) (ho : h[o]? = some e0) (z : H1.size = H0.size) (oq : ∀ q : Nat, q ≠ p_b g + o → H1[q]? = H0[q]?) : va_S (p_A g) (a_s K).heap H1 (locs ++ [⟨p_b g + o, k⟩]) :=
  hS.put z oq ((p_D hW.2.2).2 o _ (p_ws_some ho))
/-- a field that isn't final is written -/
theorem r_pv (C : Cx K g cc nL own ret nm d mc9 ms9) {index ci k o : Nat} {ty : FieldType} (F : FL own index ci k ty false) {v : Value} {f : PH → Option (α × PH)} (hdg : decode cc pc = .ok (.putfield index, 3)) (hn : narrow ty (p_rn g v) = p_rn g v) (hfit : fits ty (p_rn g v) = true) (kk : ∀ h1, VX K g nL kc ks fin (pc + 3) lv st h1 (f h1)) : VX K g nL kc ks fin pc lv (p_rn g v :: p_rf g o :: st) h ((h_pv ci k h o v).bind f) := by
  intro r h' hz H locs ls hW hS hl
  obtain ⟨h1, hx, hf⟩ := Option.bind_eq_some_iff.mp hz
  obtain ⟨fs, hfs, hk, rfl⟩ := h_pv_some hx
  obtain ⟨Cn, T, Nn, ty0, f1, f2, f3, f4, f5, f6, f7, f8, f9⟩ := F
  have hts := C.2.2.2.2.1
  have hK := C.2.2.2.2.2.1
  have hap := va_apart (own := own) hts f2 ty0 f6 f5 hK f1
  obtain ⟨r1, g1, cell, q1, q2, q3, q4⟩ := hW.1 o _ (p_ws_some hfs)
  have hr : r1 = (Cn, T, Nn) := Option.some.inj (g1.symm.trans f1)
  subst hr
  obtain ⟨hS1, hfc, kC, hkC, hkind⟩ := hK.1 ci _ f1
  obtain ⟨cf, kf, fi, fd, hi, hsl⟩ := hS1 k f3
  have hlay := hts _ (f2 _ (u_in_lay f3))
  unfold u_lay at hlay
  rw [if_neg (by rw [f8]; decide)] at hlay
  have hst := (u_facts hfc hkC (u_lays hts f2 f3) hi).1
  have h6 := u_store hfc hkC hkind hlay hi f7 hn hfit
  refine W.putK C.1 C.2.1 (f := fd) ⟨C.2.2.2.1, p_word C f4, ⟨_, _, _, hi⟩, hst⟩ (by rw [q2]; exact h6) q1 q3 (by rw [hsl]; exact k2_hasslot (q4 k f3)) rfl rfl hdg fun H' e1 e2 e3 => ?_
  rw [hsl] at e1 ⊢
  refine kk _ r h' hf H' _ ls (p_set hW hfs ?_ e2) (p_S hS hW hfs e2 e3) hl
  refine hW.1.set (p_D hW.2.2) (p_ws_some hfs) ⟨_, f1, ?_⟩ e3
  show t_OB _ _ _ _ _ (vp_V ((fs.set k v).map (p_rn g)))
  rw [p_mapset]
  exact t_OB.to (V := updV (vp_V (fs.map (p_rn g))) k (p_rn g v)) ⟨_, e1, q2, q3, t_set q4 hap f3 _⟩ (fun j _ => vp_updV_set (by rw [List.length_map]; exact hk) _ j)
/-- a final field, in a constructor -/
theorem r_pvF (C : Cx K g cc nL own ret "<init>" d mc9 ms9) {index ci k o : Nat} {ty : FieldType} (F : FL own index ci k ty true) {v : Value} {f : PH → Option (α × PH)} (hdg : decode cc pc = .ok (.putfield index, 3)) (hn : narrow ty (p_rn g v) = p_rn g v) (hfit : fits ty (p_rn g v) = true) (kk : ∀ h1, VX K g nL kc ks fin (pc + 3) lv st h1 (f h1)) : VX K g nL kc ks fin pc lv (p_rn g v :: p_rf g o :: st) h ((h_pv ci k h o v).bind f) := by
  intro r h' hz H locs ls hW hS hl
  obtain ⟨h1, hx, hf⟩ := Option.bind_eq_some_iff.mp hz
  obtain ⟨fs, hfs, hk, rfl⟩ := h_pv_some hx
  obtain ⟨Cn, T, Nn, ty0, f1, f2, f3, f4, f5, f6, f7, f8, f9⟩ := F
  have hts := C.2.2.2.2.1
  have hK := C.2.2.2.2.2.1
  have hap := va_apart (own := own) hts f2 ty0 f6 f5 hK f1
  obtain ⟨r1, g1, cell, q1, q2, q3, q4⟩ := hW.1 o _ (p_ws_some hfs)
  have hr : r1 = (Cn, T, Nn) := Option.some.inj (g1.symm.trans f1)
  subst hr
  obtain ⟨hS1, hfc, kC, hkC, hkind⟩ := hK.1 ci _ f1
  obtain ⟨cf, kf, fi, fd, hi, hsl⟩ := hS1 k f3
  have hlay := hts _ (f2 _ (u_in_lay f3))
  unfold u_lay at hlay
  rw [if_pos f8] at hlay
  have hst := (u_facts hfc hkC (u_lays hts f2 f3) hi).1
  have hcf : K.2.2.2.2.2.1.cls = cf := by
    obtain ⟨_, _, c', _, _, _, -, -, hf', -, -, -, hown2, -⟩ := Cond.laysFinal_spec hlay
    have e1 : c' = cf := by have := hi.symm.trans hf'; simp at this; exact this.1.symm
    rw [f9 rfl] at hown2
    rw [← e1]; exact Option.some.inj (C.2.2.2.1.symm.trans hown2)
  have h6 := u_fits hfc hkC hkind (Or.inr hlay) hi f7 hn hfit
  refine W.putFinK C.1 C.2.1 C.2.2.2.1 (p_word C f4) hi hst hcf C.2.2.2.2.2.2.2.2.1 (by rw [q2]; exact h6) q1 q3 (by rw [hsl]; exact k2_hasslot (q4 k f3)) rfl rfl hdg fun H' e1 e2 e3 => ?_
  rw [hsl] at e1 ⊢
  refine kk _ r h' hf H' _ ls (p_set hW hfs ?_ e2) (p_S hS hW hfs e2 e3) hl
  refine hW.1.set (p_D hW.2.2) (p_ws_some hfs) ⟨_, f1, ?_⟩ e3
  show t_OB _ _ _ _ _ (vp_V ((fs.set k v).map (p_rn g)))
  rw [p_mapset]
  exact t_OB.to (V := updV (vp_V (fs.map (p_rn g))) k (p_rn g v)) ⟨_, e1, q2, q3, t_set q4 hap f3 _⟩ (fun j _ => vp_updV_set (by rw [List.length_map]; exact hk) _ j)
theorem r_iald (C : Cx K g cc nL own ret nm d mc9 ms9) {o : Nat} {i : Int32} {f : Int32 → Option (α × PH)} (hdg : decode cc pc = .ok (.iaload, 1)) (kk : ∀ x, VX K g nL kc ks fin (pc + 1) lv (.int x :: st) h (f x)) : VX K g nL kc ks fin pc lv (.int i :: p_rf g o :: st) h ((h_ald .int h o i).bind f) := by
  intro r h' hz H locs ls hW hS hl
  obtain ⟨x, hx, hf⟩ := Option.bind_eq_some_iff.mp hz
  obtain ⟨n, a, h1, h2, rfl⟩ := h_ald_some hx
  exact va_iald C.1 C.2.1 C.2.2.2.2.2.1 hW.1 o 0 (p_ws_some h1) rfl h2 hdg (kk _ r h' hf H locs ls hW hS hl)
theorem r_bald (C : Cx K g cc nL own ret nm d mc9 ms9) {o : Nat} {i : Int32} {f : Int32 → Option (α × PH)} (hdg : decode cc pc = .ok (.baload, 1)) (kk : ∀ x, VX K g nL kc ks fin (pc + 1) lv (.int x :: st) h (f x)) : VX K g nL kc ks fin pc lv (.int i :: p_rf g o :: st) h ((h_ald .byte h o i).bind f) := by
  intro r h' hz H locs ls hW hS hl
  obtain ⟨x, hx, hf⟩ := Option.bind_eq_some_iff.mp hz
  obtain ⟨n, a, h1, h2, rfl⟩ := h_ald_some hx
  exact va_bald C.1 C.2.1 C.2.2.2.2.2.1 hW.1 o 2 (p_ws_some h1) rfl h2 hdg (kk _ r h' hf H locs ls hW hS hl)
theorem r_zald (C : Cx K g cc nL own ret nm d mc9 ms9) {o : Nat} {i : Int32} {f : Int32 → Option (α × PH)} (hdg : decode cc pc = .ok (.baload, 1)) (kk : ∀ x, VX K g nL kc ks fin (pc + 1) lv (.int x :: st) h (f x)) : VX K g nL kc ks fin pc lv (.int i :: p_rf g o :: st) h ((h_ald .boolean h o i).bind f) := by
  intro r h' hz H locs ls hW hS hl
  obtain ⟨x, hx, hf⟩ := Option.bind_eq_some_iff.mp hz
  obtain ⟨n, a, h1, h2, rfl⟩ := h_ald_some hx
  exact va_zald C.1 C.2.1 C.2.2.2.2.2.1 hW.1 o 4 (p_ws_some h1) rfl h2 hdg (kk _ r h' hf H locs ls hW hS hl)
theorem r_cald (C : Cx K g cc nL own ret nm d mc9 ms9) {o : Nat} {i : Int32} {f : Int32 → Option (α × PH)} (hdg : decode cc pc = .ok (.caload, 1)) (kk : ∀ x, VX K g nL kc ks fin (pc + 1) lv (.int x :: st) h (f x)) : VX K g nL kc ks fin pc lv (.int i :: p_rf g o :: st) h ((h_ald .char h o i).bind f) := by
  intro r h' hz H locs ls hW hS hl
  obtain ⟨x, hx, hf⟩ := Option.bind_eq_some_iff.mp hz
  obtain ⟨n, a, h1, h2, rfl⟩ := h_ald_some hx
  exact va_cald C.1 C.2.1 C.2.2.2.2.2.1 hW.1 o 3 (p_ws_some h1) rfl h2 hdg (kk _ r h' hf H locs ls hW hS hl)
theorem r_lald (C : Cx K g cc nL own ret nm d mc9 ms9) {o : Nat} {i : Int32} {f : Int64 → Option (α × PH)} (hdg : decode cc pc = .ok (.laload, 1)) (kk : ∀ x, VX K g nL kc ks fin (pc + 1) lv (.long x :: st) h (f x)) : VX K g nL kc ks fin pc lv (.int i :: p_rf g o :: st) h ((h_lld h o i).bind f) := by
  intro r h' hz H locs ls hW hS hl
  obtain ⟨x, hx, hf⟩ := Option.bind_eq_some_iff.mp hz
  obtain ⟨n, a, h1, h2, rfl⟩ := h_lld_some hx
  exact va_lald C.1 C.2.1 C.2.2.2.2.2.1 hW.1 o 1 (p_ws_some h1) rfl h2 hdg (kk _ r h' hf H locs ls hW hS hl)
theorem r_alen (C : Cx K g cc nL own ret nm d mc9 ms9) {o t0 : Nat} {ty : FieldType} (ht : (p_tys g)[t0]? = some (g.2.1 ty, ty)) {f : Int32 → Option (α × PH)} (hdg : decode cc pc = .ok (.arraylength, 1)) (kk : ∀ x, VX K g nL kc ks fin (pc + 1) lv (.int x :: st) h (f x)) : VX K g nL kc ks fin pc lv (p_rf g o :: st) h ((h_al ty h o).bind f) := by
  intro r h' hz H locs ls hW hS hl
  obtain ⟨x, hx, hf⟩ := Option.bind_eq_some_iff.mp hz
  obtain ⟨n, a, h1, h2⟩ := h_al_some hx
  exact va_alen C.1 C.2.1 C.2.2.2.2.2.1 hW.1 o t0 (p_ws_some h1) ht h2 hdg (kk _ r h' hf H locs ls hW hS hl)
/-- an int array is written: its size is told -/
theorem r_iast (C : Cx K g cc nL own ret nm d mc9 ms9) {o : Nat} {i x : Int32} {f : PH → Option (α × PH)} (hdg : decode cc pc = .ok (.iastore, 1)) (kk : ∀ h1, VX K g nL kc ks fin (pc + 1) lv st h1 (f h1)) : VX K g nL kc ks fin pc lv (.int x :: .int i :: p_rf g o :: st) h ((h_ast .int h o i x).bind f) := by
  intro r h' hz H locs ls hW hS hl
  obtain ⟨h1, hx, hf⟩ := Option.bind_eq_some_iff.mp hz
  obtain ⟨n, a, h1, h2, rfl⟩ := h_ast_some hx
  refine W.iast C.1 C.2.1 (hW.1 o _ (p_ws_some h1)) ((C.2.2.2.2.2.1.2 0 _ rfl).1 n (fun j => .int (a j))) (fun q => by cases q) (by show ¬ (i < 0 ∨ (arrV _ _ _).slots.size ≤ _); rw [arrV_size]; exact h2) rfl rfl hdg fun H1 e z oq => ?_
  refine kk _ r h' hf H1 _ ls (p_set hW h1 (hW.1.set (p_D hW.2.2) (p_ws_some h1) ?_ oq) z) (p_S hS hW h1 z oq) hl
  show H1[p_b g + o]? = some (vp_cell _ _)
  rw [e]
  rw [vp_cell_i, vp_cell_i, arrV_store]
  congr 2
  funext q
  by_cases hq : q = i.toNatClampNeg
  · subst hq
    simp [updV, upd]
  · simp [updV, upd, hq]
theorem p_nal {g : WG} (hg : p_al g = false) {h : PH} {o : Nat} {e e0 : PE} {H0 H1 : Heap} (hW : p_W g h H0) (hP : va_P g.1 vwCl ((p_ws g h).set o (p_b g + o, p_cl g e)) H1) : p_W g (h.set o e) H1 :=
  by
  refine ⟨?_, ?_, ?_⟩
  · rw [p_ws_set]; exact hP
  · intro a
    rw [hg] at a
    cases a
  · intro a
    rw [List.length_set]
    exact hW.2.2 a
theorem r_bast (hg : p_al g = false) (C : Cx K g cc nL own ret nm d mc9 ms9) {o : Nat} {i x : Int32} {f : PH → Option (α × PH)} (hdg : decode cc pc = .ok (.bastore, 1)) (kk : ∀ h1, VX K g nL kc ks fin (pc + 1) lv st h1 (f h1)) : VX K g nL kc ks fin pc lv (.int x :: .int i :: p_rf g o :: st) h ((h_ast .byte h o i (vp_nar .byte x)).bind f) := by
  intro r h' hz H locs ls hW hS hl
  obtain ⟨h1, hx, hf⟩ := Option.bind_eq_some_iff.mp hz
  obtain ⟨n, a, h1, h2, rfl⟩ := h_ast_some hx
  exact va_bast C.1 C.2.1 C.2.2.2.2.2.1 hW.1 (p_D hW.2.2) hS o 2 (p_ws_some h1) rfl h2 hdg (fun H1 locs1 hP hD hS => kk _ r h' hf H1 locs1 ls (p_nal (e0 := .inl (.byte, n, .inl a)) hg hW hP) hS hl)
theorem r_zast (hg : p_al g = false) (C : Cx K g cc nL own ret nm d mc9 ms9) {o : Nat} {i x : Int32} {f : PH → Option (α × PH)} (hdg : decode cc pc = .ok (.bastore, 1)) (kk : ∀ h1, VX K g nL kc ks fin (pc + 1) lv st h1 (f h1)) : VX K g nL kc ks fin pc lv (.int x :: .int i :: p_rf g o :: st) h ((h_ast .boolean h o i (vp_nar .boolean x)).bind f) := by
  intro r h' hz H locs ls hW hS hl
  obtain ⟨h1, hx, hf⟩ := Option.bind_eq_some_iff.mp hz
  obtain ⟨n, a, h1, h2, rfl⟩ := h_ast_some hx
  exact va_zast C.1 C.2.1 C.2.2.2.2.2.1 hW.1 (p_D hW.2.2) hS o 4 (p_ws_some h1) rfl h2 hdg (fun H1 locs1 hP hD hS => kk _ r h' hf H1 locs1 ls (p_nal (e0 := .inl (.byte, n, .inl a)) hg hW hP) hS hl)
theorem r_cast (hg : p_al g = false) (C : Cx K g cc nL own ret nm d mc9 ms9) {o : Nat} {i x : Int32} {f : PH → Option (α × PH)} (hdg : decode cc pc = .ok (.castore, 1)) (kk : ∀ h1, VX K g nL kc ks fin (pc + 1) lv st h1 (f h1)) : VX K g nL kc ks fin pc lv (.int x :: .int i :: p_rf g o :: st) h ((h_ast .char h o i (vp_nar .char x)).bind f) := by
  intro r h' hz H locs ls hW hS hl
  obtain ⟨h1, hx, hf⟩ := Option.bind_eq_some_iff.mp hz
  obtain ⟨n, a, h1, h2, rfl⟩ := h_ast_some hx
  exact va_cast C.1 C.2.1 C.2.2.2.2.2.1 hW.1 (p_D hW.2.2) hS o 3 (p_ws_some h1) rfl h2 hdg (fun H1 locs1 hP hD hS => kk _ r h' hf H1 locs1 ls (p_nal (e0 := .inl (.byte, n, .inl a)) hg hW hP) hS hl)
theorem r_last (hg : p_al g = false) (C : Cx K g cc nL own ret nm d mc9 ms9) {o : Nat} {i : Int32} {x : Int64} {f : PH → Option (α × PH)} (hdg : decode cc pc = .ok (.lastore, 1)) (kk : ∀ h1, VX K g nL kc ks fin (pc + 1) lv st h1 (f h1)) : VX K g nL kc ks fin pc lv (.long x :: .int i :: p_rf g o :: st) h ((h_lst h o i x).bind f) := by
  intro r h' hz H locs ls hW hS hl
  obtain ⟨h1, hx, hf⟩ := Option.bind_eq_some_iff.mp hz
  obtain ⟨n, a, h1, h2, rfl⟩ := h_lst_some hx
  exact va_last C.1 C.2.1 C.2.2.2.2.2.1 hW.1 (p_D hW.2.2) hS o 1 (p_ws_some h1) rfl h2 hdg (fun H1 locs1 hP hD hS => kk _ r h' hf H1 locs1 ls (p_nal (e0 := .inl (.long, n, .inr (.inl a))) hg hW hP) hS hl)
end HROWS
