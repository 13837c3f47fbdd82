/-! METHODS THAT THROW, and those of the law that catch -/
def xcls : String := "java/util/NoSuchElementException"
def xnm : List String := ["java/lang/RuntimeException", "java/lang/Exception"]
def x_Qc {α : Type} (g : WG) (em : α → Option Value) (r : Option α) (h' : PH) : Array Value → State → Outcome → State → Prop := fun a st o t => ∃ x, r = some x ∧ p_Q g (em x) h' a st o t
def x_XC {α : Type} (g : WG) (r : Option α) (h' : PH) : String → State → State → Prop := fun E st t => r = none ∧ E = xcls ∧ p_W g h' t.heap ∧ va_F (p_A g) st t
def x_fin {α : Type} (K : AC) (g : WG) (em : α → Option Value) : Option α → PH → State → Prop := fun r h' => vx_MQ K.2.2.2.2.2.2.2.1 (x_Qc g em r h') (x_XC g r h') K.2.2.2.2.2.2.1 (a_s K) 1 6 (p_A g)
def CX {α : Type} (l : Launch) (g : WG) (d : Nat) (y : MethodName) (cc : ByteArray) (nL : Nat) (ret : Option FieldType) (em : α → Option Value) (av : List Value) (h : PH) (z : Option (Option α × PH)) : Prop :=
  ∀ (r : Option α) (h' : PH), z = some (r, h') → vx_Met l y (Cond.code y cc nL ret :: WL) (p_rm d 1 6) (va_Pc av (p_U g h)) (x_Qc g em r h') (x_XC g r h') 1 6 (p_A g)
def CW {α : Type} (l : Launch) (g : WG) (d : Nat) (y : MethodName) (cc : ByteArray) (nL : Nat) (ret : Option FieldType) (hh : List (Nat × Nat × Nat × Nat)) (em : α → Option Value) (av : List Value) (h : PH) (z : Option (α × PH)) : Prop :=
  ∀ (r : α) (h' : PH), z = some (r, h') → Met l y (Cond.codeWith y cc nL ret hh :: WL) (p_rm d 1 6) (va_Pc av (p_U g h)) (p_Q g (em r) h') 1 6 (p_A g)
set_option maxRecDepth 100000 in
theorem xa_in : ∀ w ∈ vx_at0 RX11 170 xcls xnm, w ∈ WL := fun w hw => p_mem (of_decide_eq_true (List.all_eq_true.mp (show (vx_at0 RX11 170 xcls xnm).all (fun w => decide (w ∈ lw_tbl)) = true by decide +kernel) w hw)) (List.all_eq_true.mp (show (vx_at0 RX11 170 xcls xnm).all p_okw = true by decide +kernel) w hw)
theorem xa_ot : ∀ w ∈ Cond.classLink RX11 168 xcls :: Cond.initialized xcls :: vx_at0 RX11 170 xcls xnm, vx_ot w = true := List.all_eq_true.mp (by decide +kernel)
theorem xm_1 : Cond.classLink RX11 168 xcls ∈ WL := p_mem (List.mem_of_getElem? (i := 1332) (by decide +kernel)) (by decide +kernel)
theorem xm_2 : Cond.initialized xcls ∈ WL := p_mem (of_decide_eq_true (by decide +kernel)) (by decide +kernel)
theorem xm_3 : Cond.classLink RL 13 xcls ∈ WL := p_mem (List.mem_of_getElem? (i := 1327) (by decide +kernel)) (by decide +kernel)
theorem xm_4 : Cond.castable xcls xcls ∈ WL := p_mem (List.mem_of_getElem? (i := 1334) (by decide +kernel)) (by decide +kernel)
section XROWS
variable {α β : Type} {K : AC} {g : WG} {nL kc ks : Nat} {fin : α → PH → State → Prop} {pc : Nat} {lv : List (Nat × Value)} {st : List Value} {h : PH} {z : Option (α × PH)}
variable {cc : ByteArray} {own nm : String} {ret : Option FieldType} {d mc9 ms9 : Nat}
theorem r_iretX (C : Cx K g cc nL own (some .int) nm d 1 6) {x : Int32} (hdg : decode cc pc = .ok (.ireturn, 1)) : VX K g nL 0 0 (x_fin K g em_i) pc lv [.int x] h (some (some x, h)) := by
  intro r h' hz H locs ls hW hS hl
  cases hz
  exact vx_ret (W.widen (k := 1) (n := 6) (Nat.zero_le _) (Nat.zero_le _) (W.iret C.1 C.2.1 C.2.2.2.2.2.2.1 (fun t ht hWm => ⟨x, rfl, p_end C hW hS _ t ht hWm⟩) hS.2.2 hdg C.2.2.2.2.2.2.2.1))
theorem r_lretX (C : Cx K g cc nL own (some .long) nm d 1 6) {x : Int64} (hdg : decode cc pc = .ok (.lreturn, 1)) : VX K g nL 0 0 (x_fin K g em_l) pc lv [.long x] h (some (some x, h)) := by
  intro r h' hz H locs ls hW hS hl
  cases hz
  exact vx_ret (W.widen (k := 1) (n := 6) (Nat.zero_le _) (Nat.zero_le _) (W.lret C.1 C.2.1 C.2.2.2.2.2.2.1 (fun t ht hWm => ⟨x, rfl, p_end C hW hS _ t ht hWm⟩) hS.2.2 hdg C.2.2.2.2.2.2.2.1))
/-- throw new NoSuchElementException() -/
theorem r_thr {em1 : β → Option Value} (hg : p_al g = false) (htr : K.2.1.stackTraces = false) (hTb : ∀ x ∈ K.2.2.2.2.2.2.2.2.2.exceptionTable.toList, False) (C : Cx K g cc nL RX11 ret nm d 1 6) (hd : 6 ≤ d) (hcat : (st.map fun v => v.category).sum ≤ 8) (d0 : decode cc pc = .ok (.new 168, 3)) (d3 : decode cc (pc + 3) = .ok (.dup, 1)) (d4 : decode cc (pc + 4) = .ok (.invokespecial 170, 3)) (d7 : decode cc (pc + 7) = .ok (.athrow, 1)) : VX K g nL 0 0 (x_fin K g em1) pc lv st h (some (none, h)) := by
  intro r h' hz H locs ls hW hS hl
  cases hz
  have hR : p_le K.2.2.2.1 d 1 6 := C.2.2.2.2.2.2.2.2.2.1
  refine vx_throw0 (cls := xcls) (names := xnm) (A := p_A g) C.1 C.2.1 htr C.2.2.2.1 (by decide +kernel) (by decide +kernel) (p_word C xm_1) (p_word C xm_2) (fun w hw => p_word C (xa_in w hw)) xa_ot C.2.2.2.2.2.2.2.2.2.2.2.1 C.2.2.2.2.2.2.2.2.2.2.2.2.1 hS (hl.1.trans C.2.2.1.symm) d0 d3 d4 d7 (fun x hx => absurd hx (fun q => (hTb x q).elim)) ?_ ?_ ?_ ?_ C.2.2.2.2.2.2.2.1 ?_ hS.2.2 (Nat.le_refl _) (Nat.le_refl _)
  · have h9 := hR.1
    show 2 + 3 < _
    omega
  · have h9 := hR.2.1
    show _ + (13 * (2 + 1) + 42) ≤ _
    omega
  · exact hR.2.2.1
  · exact hR.2.2.2
  · intro t hal hz hk
    have hno : p_al g = true → t.heap.size = p_b g + h.length := by
      intro a
      rw [hg] at a
      cases a
    refine ⟨rfl, rfl, ⟨hW.1.kept (fun k q hq => hk q.1 (hW.1 k q hq).lt), hno, hW.2.2⟩, ?_, fun q h1 h2 => ?_⟩
    · exact Nat.le_trans hS.1 hz
    · exact (hk q (Nat.lt_of_lt_of_le h1 hS.1)).trans (hS.2.1 q h1 h2)
theorem CX_of {em1 : β → Option Value} {z1 : Option (Option β × PH)} {l : Launch} {y : MethodName} {av : List Value} {lv0 : List (Nat × Value)} (hy : plainName y.cls = true) (hav : (lg_sl av).length ≤ nL) (hlv : lv_args 0 av = lv0) (ho : y.cls = own) (hm : y.name = nm)
    (body : ∀ K : AC, K.2.1 = l → Cx K g cc nL own ret nm d 1 6 → (∀ x ∈ K.2.2.2.2.2.2.2.2.2.exceptionTable.toList, False) → VX K g nL 0 0 (x_fin K g em1) 0 lv0 [] h z1) : CX l g d y cc nL ret em1 av h z1 := by
  subst ho
  subst hm
  intro r h' hz
  refine vx_ofW (cc := cc) (maxL := nL) (ret := ret) hy rfl ?_
  intro p e s m args below meth c s₁ B hml hTb hv
  obtain ⟨rfl, hU⟩ := hv
  have hts := atoms_spec (ws := Cond.code y cc nL ret :: WL) B.pre
  have hC : Cx (p, l, e, (headSpec (Cond.code y cc nL ret :: WL) (p_rm d 1 6)).room, s, m, av.toArray, below, meth, c) g cc nL y.cls ret y.name d 1 6 := by
    refine ⟨B.exec, B.bytes, hml, findClass_of_methodNamed B.named, fun w hw => hts w (List.mem_cons_of_mem _ hw), hU.2.1, B.returns, B.notSynchronized, (name_of_methodNamed B.named B.method).1, p_le.rf, fun q hq ha => ⟨?_, Or.inl ha⟩, hU.2.2⟩
    have h1 := hU.1.2.1 ha
    have h2 : (a_s (p, l, e, (headSpec (Cond.code y cc nL ret :: WL) (p_rm d 1 6)).room, s, m, av.toArray, below, meth, c)).heap.size = s.heap.size := rfl
    omega
  have hl := lv_entry av (n := nL) hav
  rw [hlv] at hl
  rw [lg_entry_eq]
  exact body _ rfl hC hTb r h' hz s.heap [] _ hU.1 va_S.rf hl
/-- a call that returns, or throws and is caught by this method's one row -/
theorem r_cvT {em1 : β → Option Value} {index ci n d1 o hpc : Nat} {x : ExceptionTableEntry} {y : MethodName} {c1 : ByteArray} {n1 : Nat} {r1 : Option FieldType} {As st0 : List Value} {z1 : Option (Option β × PH)} {k : Option β → PH → Option (α × PH)}
    (C : Cx K g cc nL own ret nm d mc9 ms9) (hTb : K.2.2.2.2.2.2.2.2.2.exceptionTable.toList = [x]) (hcov : covers x pc = true) (hct0 : x.catchType ≠ 0) (hcl1 : Cond.classLink own x.catchType xcls ∈ WL) (hhp : x.handlerPc = hpc) (M : MV own index ci y c1 n1 r1 n) (hct : CX K.2.1 g d1 y c1 n1 r1 em1 (p_rf g o :: As) h z1) (hd : d1 + 1 ≤ d) (hn : As.length = n) (hst : st0 = As.reverse ++ p_rf g o :: st) (hcat : (st.map fun v => v.category).sum ≤ 8) (hdg : decode cc pc = .ok (.invokevirtual index, 3)) (hf : kc + 1 ≤ mc9 ∧ ks + 6 ≤ ms9)
    (kk : ∀ r h1, VX K g nL (kc + 1) (ks + 6) fin (pc + 3) lv ((em1 r).toList ++ st) h1 (k (some r) h1)) (kx : ∀ (q : Nat) h1, VX K g nL (kc + 1) (ks + 6) fin hpc lv [.ref q] h1 (k none h1)) : VX K g nL kc ks fin pc lv st0 h ((h_ck ci h o).bind (fun _ => h_bd z1 k)) := by
  intro r h' hz H locs ls hW hS hl
  obtain ⟨_, hck, hz⟩ := Option.bind_eq_some_iff.mp hz
  obtain ⟨fs, hfs⟩ := h_ck_some hck
  obtain ⟨r2, h1, hz1, hk⟩ := h_bd_some hz
  obtain ⟨⟨T, N, hcl⟩, w1, w2, w3, w4, w5, w6, w7, w8⟩ := M
  have hR : p_le K.2.2.2.1 d mc9 ms9 := C.2.2.2.2.2.2.2.2.2.1
  have ht := C.2.2.2.2.1
  have hrun := vx_runV (H := H) (locs := locs) (cells := kc) (slots := ks) (g := F0 K.2.2.2.2.2.1 pc ls st0) (below := K.2.2.2.2.2.2.2.1) (meth := K.2.2.2.2.2.2.2.2.1) (e := K.2.2.1) (As := As) (rest := st) ⟨C.1, C.2.1, C.2.2.1, C.2.2.2.1, ht⟩ (hct r2 h1 hz1) ⟨p_callB C w1 w4 w5 w6 w7 w8 hd, ht _ w2, ht _ w3⟩ ⟨p_blind, va_recv C.2.2.2.2.2.1 hW.1 hcl (p_ws_some hfs), fun U hU hWm => ⟨rfl, p_st C hW hS hU hWm⟩⟩ rfl hn hl.1 hst (lv_room hcat) hdg (⟨Nat.le_trans hf.1 hR.2.2.1, Nat.le_trans hf.2 hR.2.2.2⟩)
  intro T0 hT X
  rcases hrun T0 hT X with ⟨v, st₀, t, T', L, h0, X', hL, e1, e2, ⟨xv, hxr, ⟨hv, hU⟩, hF⟩, st9⟩ | ⟨q, st₀, t, T', L, E, ce, h0, X', hL, e1, e2, ⟨hxr, hE, hWt, hF⟩, hce, hcv, hcl9, st9⟩
  · cases hv
    subst hxr
    obtain ⟨k1, k2, k3⟩ := vx_keep h0 e1 hS (fun q _ z => z) (fun q z => z) hL hF
    obtain ⟨t2, a1, b1⟩ := kk xv h1 r h' hk T'.heap (locs ++ L) ls (by rw [e1]; exact hU.1) k3 hl T' rfl X'
    exact ⟨t2, st9 t2 a1, b1⟩
  · subst hxr
    subst hE
    obtain ⟨k1, k2, k3⟩ := vx_keep h0 e1 hS (fun q _ z => z) (fun q z => z) hL hF
    have hk9 := kx q h1 r h' hk T'.heap (locs ++ L) ls (by rw [e1]; exact hWt) k3 hl
    rw [← hhp] at hk9
    obtain ⟨t2, a1, b1⟩ := vx_catch C.2.2.2.1 [] x [] hTb (fun z hz => nomatch hz) hcov hct0 (p_word C hcl1) (p_word C xm_4) (by rw [e1]; exact hce) hcv hcl9 hk9 T' rfl X'
    exact ⟨t2, st9.trans a1, b1⟩
theorem r_astoreA (C : Cx K g cc nL own ret nm d mc9 ms9) {k4 : Fin 4} {a : Nat} {lv9 : List (Nat × Value)} (hdg : decode cc pc = .ok (.astore_n k4, 1)) (hn : (k4 : Nat) < nL) (hlv : l_s1 lv (k4 : Nat) (.ref a) = lv9) (k : VX K g nL kc ks fin (pc + 1) lv9 st h z) : VX K g nL kc ks fin pc lv (.ref a :: st) h z := fun r h' hz H locs ls hW hS hl => lv_astore_n (x := a) C.1 C.2.1 hdg rfl hl hn hlv (fun ls hl => k r h' hz H locs ls hW hS hl)
theorem r_astoreB (C : Cx K g cc nL own ret nm d mc9 ms9) {i a : Nat} {lv9 : List (Nat × Value)} (hdg : decode cc pc = .ok (.astore i, 2)) (hn : i < nL) (hlv : l_s1 lv i (.ref a) = lv9) (k : VX K g nL kc ks fin (pc + 2) lv9 st h z) : VX K g nL kc ks fin pc lv (.ref a :: st) h z := fun r h' hz H locs ls hW hS hl => lv_astore (x := a) C.1 C.2.1 hdg hl hn hlv (fun ls hl => k r h' hz H locs ls hW hS hl)
theorem CW_of {em1 : β → Option Value} {z1 : Option (β × PH)} {hh : List (Nat × Nat × Nat × Nat)} {l : Launch} {y : MethodName} {av : List Value} {lv0 : List (Nat × Value)} (hy : plainName y.cls = true) (hav : (lg_sl av).length ≤ nL) (hlv : lv_args 0 av = lv0) (ho : y.cls = own) (hm : y.name = nm)
    (body : ∀ K : AC, K.2.1 = l → Cx K g cc nL own ret nm d 1 6 → K.2.2.2.2.2.2.2.2.2.exceptionTable.toList = tableOf hh → VX K g nL 0 0 (a_fin K g 1 6 em1) 0 lv0 [] h z1) : CW l g d y cc nL ret hh em1 av h z1 := by
  subst ho
  subst hm
  intro r h' hz
  refine MetFree.of_bodyS (code := cc) (maxLocals := nL) (ret := ret) hy ?_ ?_
  · intro args s m h hn
    obtain ⟨m9, meth, c, hn9, h1, h2, h3, h4, -, h5, h6, -⟩ := Cond.codeWith_spec (atoms_spec (ws := Cond.codeWith y cc nL ret hh :: WL) h _ List.mem_cons_self)
    cases hn.symm.trans hn9
    exact ⟨meth, c, h1, h2, h3, h4, h5, h6⟩
  · intro p e s m args below meth c s₁ B hml hv _
    obtain ⟨rfl, hU⟩ := hv
    have hh0 : s₁.heap = s.heap := by rw [B.state]; rfl
    have hts := atoms_spec (ws := Cond.codeWith y cc nL ret hh :: WL) B.pre
    have htb := vx_table (x := y) B (hts _ List.mem_cons_self)
    have hC : Cx (p, l, e, (headSpec (Cond.codeWith y cc nL ret hh :: WL) (p_rm d 1 6)).room, s, m, av.toArray, below, meth, c) g cc nL y.cls ret y.name d 1 6 := by
      refine ⟨B.exec, B.bytes, hml, findClass_of_methodNamed B.named, fun w hw => hts w (List.mem_cons_of_mem _ hw), hU.2.1, B.returns, B.notSynchronized, (name_of_methodNamed B.named B.method).1, p_le.rf, fun q hq ha => ⟨?_, Or.inl ha⟩, hU.2.2⟩
      have h1 := hU.1.2.1 ha
      have h2 : (a_s (p, l, e, (headSpec (Cond.codeWith y cc nL ret hh :: WL) (p_rm d 1 6)).room, s, m, av.toArray, below, meth, c)).heap.size = s.heap.size := rfl
      omega
    have hl := lv_entry av (n := nL) hav
    rw [hlv] at hl
    have hb := body _ rfl hC htb r h' hz s.heap [] _ hU.1 va_S.rf hl
    have hb2 : W p l e (p_rm d 1 6) s m av.toArray below meth c s.heap [] 0 0 (a_fin (p, l, e, (headSpec (Cond.codeWith y cc nL ret hh :: WL) (p_rm d 1 6)).room, s, m, av.toArray, below, meth, c) g 1 6 em1 r h') (entryFrame m av.toArray nL) := by
      rw [lg_entry_eq]
      exact hb
    obtain ⟨t, a1, o, b1, b2, b3⟩ := hb2 s₁ hh0 (Stand.of_body B)
    exact ⟨t, o, a1, b1, b2, b3⟩
end XROWS
