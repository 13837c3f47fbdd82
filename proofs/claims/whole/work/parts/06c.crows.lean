section CROWS
variable {α β : Type} {K : AC} {g : WG} {nL kc ks mc ms : Nat} {em : α → Option Value} {fin : α → PH → State → Prop} {pc : Nat} {lv : List (Nat × Value)} {st : List Value} {h : PH} {z : Option (α × PH)}
variable {cc : ByteArray} {own nm : String} {ret : Option FieldType} {d mc9 ms9 : Nat}
/-- a boolean is 0 or 1 -/
def h_z {γ : Type} (x : Int32) (z : Option γ) : Option γ := if x = 0 ∨ x = 1 then z else none
def h_new {γ : Type} (h : PH) (e : PE) (f : Nat → PH → γ) : γ := f h.length (h ++ [e])
/-- words of a call by name: of an object's own class; of a static method; of a nest mate's; of a method that is inherited, or declared only -/
def MV (own : String) (index ci : Nat) (y : MethodName) (cc : ByteArray) (nL : Nat) (ret : Option FieldType) (n : Nat) : Prop := (∃ (T : u_T) (N : Nat), vwCl[ci]? = some (y.cls, T, N)) ∧ Cond.methodLink own index y ∈ WL ∧ Cond.instanceMethod y ∈ WL ∧ Cond.selects y.cls y y ∈ WL ∧ Cond.initialized y.cls ∈ WL ∧ Cond.code y cc nL ret ∈ WL ∧ (y.cls ≠ "java/lang/invoke/MethodHandle" ∧ y.cls ≠ "java/lang/invoke/VarHandle") ∧ (parseMethodDescriptor y.desc).map (fun d => d.parameters.length) = some n ∧ nL ≤ 45
def MS (own : String) (index : Nat) (y : MethodName) (cc : ByteArray) (nL : Nat) (ret : Option FieldType) (n : Nat) : Prop := Cond.methodLink own index y ∈ WL ∧ Cond.static y ∈ WL ∧ Cond.initialized y.cls ∈ WL ∧ Cond.code y cc nL ret ∈ WL ∧ (y.cls ≠ "java/lang/invoke/MethodHandle" ∧ y.cls ≠ "java/lang/invoke/VarHandle") ∧ (parseMethodDescriptor y.desc).map (fun d => d.parameters.length) = some n ∧ nL ≤ 45
def MN (own : String) (index : Nat) (host : String) (y : MethodName) (cc : ByteArray) (nL : Nat) (ret : Option FieldType) (n : Nat) : Prop := Cond.methodLinkNest own index y host ∈ WL ∧ Cond.static y ∈ WL ∧ Cond.initialized y.cls ∈ WL ∧ Cond.code y cc nL ret ∈ WL ∧ (y.cls ≠ "java/lang/invoke/MethodHandle" ∧ y.cls ≠ "java/lang/invoke/VarHandle") ∧ (parseMethodDescriptor y.desc).map (fun d => d.parameters.length) = some n ∧ nL ≤ 45
def MU (own : String) (index ci : Nat) (C owner : String) (x y : MethodName) (cc : ByteArray) (nL : Nat) (ret : Option FieldType) (n : Nat) : Prop := (∃ (T : u_T) (N : Nat), vwCl[ci]? = some (C, T, N)) ∧ Cond.methodLink own index x ∈ WL ∧ Cond.sameMethod x.cls owner x.name x.desc ∈ WL ∧ (Cond.declares ⟨owner, x.name, x.desc⟩ ∈ WL ∨ y = ⟨owner, x.name, x.desc⟩) ∧ Cond.selects C x y ∈ WL ∧ Cond.instanceMethod y ∈ WL ∧ Cond.initialized y.cls ∈ WL ∧ Cond.code y cc nL ret ∈ WL ∧ (owner ≠ "java/lang/invoke/MethodHandle" ∧ owner ≠ "java/lang/invoke/VarHandle") ∧ (parseMethodDescriptor x.desc).map (fun d => d.parameters.length) = some n ∧ nL ≤ 45
def MI (own : String) (index : Nat) (y : MethodName) (cc : ByteArray) (nL n : Nat) : Prop := y.name = "<init>" ∧ Cond.methodLink own index y ∈ WL ∧ Cond.instanceMethod y ∈ WL ∧ Cond.initialized y.cls ∈ WL ∧ Cond.code y cc nL none ∈ WL ∧ (y.cls ≠ "java/lang/invoke/MethodHandle" ∧ y.cls ≠ "java/lang/invoke/VarHandle") ∧ (parseMethodDescriptor y.desc).map (fun d => d.parameters.length) = some n ∧ nL ≤ 45
def MO (own : String) (index : Nat) : Prop := Cond.methodLink own index objectInit ∈ WL ∧ Cond.instanceMethod objectInit ∈ WL ∧ Cond.code objectInit ⟨#[0xb1]⟩ 1 none ∈ WL
def MM (own : String) (index : Nat) (y : MethodName) (cc : ByteArray) (nL : Nat) : Prop := Cond.methodLink own index y ∈ WL ∧ Cond.static y ∈ WL ∧ Cond.initialized "java/lang/Math" ∈ WL ∧ Cond.code y cc nL (some .int) ∈ WL
def MC (own : String) (index : Nat) : Prop := Cond.methodLink own index arraycopyName ∈ WL ∧ Cond.native arraycopyName ∈ WL ∧ Cond.static arraycopyName ∈ WL ∧ Cond.initialized "java/lang/System" ∈ WL
def MW (own : String) (index ci : Nat) (N : Nat) (fs : List Value) : Prop := ∃ (Cn : String) (T : u_T) (ty : Nat → FieldType), vwCl[ci]? = some (Cn, T, N) ∧ (∀ w ∈ u_ws Cn T N, w ∈ WL) ∧ (∀ k, k < N → parseFieldDescriptor (T k).2.2.1 = some (ty k)) ∧ Cond.classLink own index Cn ∈ WL ∧ Cond.instantiable Cn N ∈ WL ∧ Cond.initialized Cn ∈ WL ∧ (∀ j, j < N → defaultValue (ty j) = vp_V fs j) ∧ (∀ v ∈ fs, ∀ a, v ≠ .ref a)
theorem p_blind {g : WG} {av : List Value} {h : PH} : FrameBlind (va_Pc av (p_U g h)) :=
  fun a U fr mk q => ⟨q.1, q.2.1, va_K.moved (u := U) (U := U.calling fr mk a) (Vm.Alike.refl U.vm) q.2.2.1, p_X.same (s := U) (U := U.calling fr mk a) rfl q.2.2.2⟩
/-- the world, seen from a state with this heap -/
theorem p_st (C : Cx K g cc nL own ret nm d mc9 ms9) {H : Heap} {locs : List Loc} (hW : p_W g h H) (hS : va_S (p_A g) (a_s K).heap H locs) {U : State} (hU : U.heap = H) (hWm : (a_s K).WarmedH U.vm) : p_U g h U :=
  ⟨by rw [hU]; exact hW, va_K.moved hWm.alike C.2.2.2.2.2.1, by rw [hU]; exact p_X.warm hWm (C.2.2.2.2.2.2.2.2.2.2.2.kept hS.2.1)⟩
/-- behind a call -/
theorem a_go {m1 s1 : Nat} {ls : Array Slot} {H : Heap} {locs : List Loc} {st0 : List Value} {rv : Option Value} {h1 : PH} {a : Array Value} {Q : State → Prop} {g2 : WG}
    (hr : va_Run K.1 K.2.1 K.2.2.1 K.2.2.2.1 K.2.2.2.2.1 K.2.2.2.2.2.1 K.2.2.2.2.2.2.1 K.2.2.2.2.2.2.2.1 K.2.2.2.2.2.2.2.2.1 K.2.2.2.2.2.2.2.2.2 H locs kc ks m1 s1 (F0 K.2.2.2.2.2.1 pc ls st0) st (p_Q g2 rv h1 a) (p_A g2)) (hS : va_S (p_A g) (a_s K).heap H locs) (hA : ∀ q, p_A g2 q → p_A g q)
    (kk : ∀ (H1 : Heap) (locs1 : List Loc), p_W g2 h1 H1 → H.size ≤ H1.size → (∀ q : Nat, q < H.size → ¬ p_A g2 q → H1[q]? = H[q]?) → va_S (p_A g) (a_s K).heap H1 locs1 → a_W K H1 locs1 (kc + m1) (ks + s1) Q (F0 K.2.2.2.2.2.1 (pc + 3) ls (rv.toList ++ st))) : a_W K H locs kc ks Q (F0 K.2.2.2.2.2.1 pc ls st0) := by
  intro T hT X
  obtain ⟨v, st₀, t, T', L, h0, X', hL, e1, e2, ⟨⟨hv, hU⟩, hz, hk⟩, st9⟩ := hr T hT X
  cases hv
  rw [h0] at hz hk
  obtain ⟨t2, a1, b1⟩ := kk T'.heap (locs ++ L) (by rw [e1]; exact hU.1) (by rw [e1]; exact hz) (fun q h1 h2 => by rw [e1]; exact hk q h1 h2)
    ⟨Nat.le_trans hS.1 (by rw [e1]; exact hz), fun q h1 h2 => by
      rw [e1, hk q (Nat.lt_of_lt_of_le h1 hS.1) (fun z => h2 (hA q z))]; exact hS.2.1 q h1 h2, fun q hq => by
      rcases List.mem_append.mp hq with h | h
      · exact hS.2.2 q h
      · exact hA _ (hL q h)⟩ T' rfl X'
  exact ⟨t2, st9 t2 a1, b1⟩
theorem p_len {y : MethodName} {n : Nat} (hn : (parseMethodDescriptor y.desc).map (fun d => d.parameters.length) = some n) : ∀ sig, parseMethodDescriptor y.desc = some sig → n = sig.parameters.length := by
  intro sig hs
  rw [hs] at hn
  exact (Option.some.inj hn).symm
theorem p_pays (C : Cx K g cc nL own ret nm d mc9 ms9) {y : MethodName} {c1 : ByteArray} {n1 : Nat} {r1 : Option FieldType} (hc : Cond.code y c1 n1 r1 ∈ WL) : ∀ w ∈ Cond.code y c1 n1 r1 :: WL, ∀ (a' : Array Value) (U : State), (a_s K).WarmedH U.vm → w.before a' U = true := by
  intro w hw
  rcases List.mem_cons.mp hw with rfl | hw
  · exact p_pay C.2.2.2.2.1 _ hc
  · exact p_pay C.2.2.2.2.1 _ hw
theorem p_callB (C : Cx K g cc nL own ret nm d mc9 ms9) {index n d1 m1 s1 : Nat} {y : MethodName} {c1 : ByteArray} {n1 : Nat} {r1 : Option FieldType} (hl : Cond.methodLink own index y ∈ WL) (hi : Cond.initialized y.cls ∈ WL) (hc : Cond.code y c1 n1 r1 ∈ WL) (hy : y.cls ≠ "java/lang/invoke/MethodHandle" ∧ y.cls ≠ "java/lang/invoke/VarHandle") (hn : (parseMethodDescriptor y.desc).map (fun d => d.parameters.length) = some n) (h45 : n1 ≤ 45) (hd : d1 + 1 ≤ d) : CallB K.2.2.2.1 (a_s K) K.2.2.2.2.2.2.1 own index y c1 n1 r1 (Cond.code y c1 n1 r1 :: WL) (p_rm d1 m1 s1) m1 s1 n := by
  obtain ⟨-, -, -, -, ht, -, -, -, -, hR, -⟩ := id C
  refine ⟨rfl, rfl, ?_, ?_, p_pays C hc, List.mem_cons_self, ht _ hc, ht _ hi, hy, p_len hn, ht _ hl⟩
  · exact Nat.le_trans hd hR.1
  · have h9 := hR.2.1
    show 8 + (n1 + 11) + 64 * d1 ≤ _
    omega
/-- a call of an object's method -/
theorem r_cv {em1 : β → Option Value} {index ci n d1 m1 s1 o : Nat} {y : MethodName} {c1 : ByteArray} {n1 : Nat} {r1 : Option FieldType} {As st0 : List Value} {z1 : Option (β × PH)} {k : β → PH → Option (α × PH)}
    (C : Cx K g cc nL own ret nm d mc9 ms9) (M : MV own index ci y c1 n1 r1 n) (hct : CT K.2.1 g d1 m1 s1 y c1 n1 r1 em1 (p_rf g o :: As) h z1) (hd : d1 + 1 ≤ d) (hn : As.length = n) (hst : st0 = As.reverse ++ p_rf g o :: st) (hcat : (st.map fun v => v.category).sum ≤ 8) (hdg : decode cc pc = .ok (.invokevirtual index, 3)) (hf : kc + m1 ≤ mc9 ∧ ks + s1 ≤ ms9)
    (kk : ∀ r h1, VX K g nL (kc + m1) (ks + s1) fin (pc + 3) lv ((em1 r).toList ++ st) h1 (k r h1)) : VX K g nL kc ks fin pc lv st0 h ((h_ck ci h o).bind (fun _ => h_bd z1 k)) := by
  intro r h' hz H locs ls hW hS hl
  obtain ⟨_, hck, hz⟩ := Option.bind_eq_some_iff.mp hz
  obtain ⟨fs, hfs⟩ := h_ck_some hck
  obtain ⟨r2, h1, hz1, hk⟩ := h_bd_some hz
  obtain ⟨⟨T, N, hcl⟩, w1, w2, w3, w4, w5, w6, w7, w8⟩ := M
  have hR : p_le K.2.2.2.1 d mc9 ms9 := C.2.2.2.2.2.2.2.2.2.1
  have ht := C.2.2.2.2.1
  refine a_go (va_runV (As := As) (rest := st) ⟨C.1, C.2.1, C.2.2.1, C.2.2.2.1, ht⟩ (hct r2 h1 hz1) ⟨p_callB C w1 w4 w5 w6 w7 w8 hd, ht _ w2, ht _ w3⟩ ⟨p_blind, va_recv C.2.2.2.2.2.1 hW.1 hcl (p_ws_some hfs), fun U hU hWm => ⟨rfl, p_st C hW hS hU hWm⟩⟩ rfl hn hl.1 hst (lv_room hcat) hdg (⟨Nat.le_trans hf.1 hR.2.2.1, Nat.le_trans hf.2 hR.2.2.2⟩)) hS (fun _ h => h) ?_
  intro H1 locs1 hW1 _ _ hS1
  exact kk r2 h1 r h' hk H1 locs1 ls hW1 hS1 hl
theorem r_cs {em1 : β → Option Value} {index n d1 m1 s1 : Nat} {y : MethodName} {c1 : ByteArray} {n1 : Nat} {r1 : Option FieldType} {As st0 : List Value} {z1 : Option (β × PH)} {k : β → PH → Option (α × PH)}
    (C : Cx K g cc nL own ret nm d mc9 ms9) (M : MS own index y c1 n1 r1 n) (hct : CT K.2.1 g d1 m1 s1 y c1 n1 r1 em1 As h z1) (hd : d1 + 1 ≤ d) (hn : As.length = n) (hst : st0 = As.reverse ++ st) (hcat : (st.map fun v => v.category).sum ≤ 8) (hdg : decode cc pc = .ok (.invokestatic index, 3)) (hf : kc + m1 ≤ mc9 ∧ ks + s1 ≤ ms9)
    (kk : ∀ r h1, VX K g nL (kc + m1) (ks + s1) fin (pc + 3) lv ((em1 r).toList ++ st) h1 (k r h1)) : VX K g nL kc ks fin pc lv st0 h (h_bd z1 k) := by
  intro r h' hz H locs ls hW hS hl
  obtain ⟨r2, h1, hz1, hk⟩ := h_bd_some hz
  obtain ⟨w1, w2, w4, w5, w6, w7, w8⟩ := M
  have hR : p_le K.2.2.2.1 d mc9 ms9 := C.2.2.2.2.2.2.2.2.2.1
  have ht := C.2.2.2.2.1
  refine a_go (va_runS (As := As) (rest := st) ⟨C.1, C.2.1, C.2.2.1, C.2.2.2.1, ht⟩ (hct r2 h1 hz1) ⟨p_callB C w1 w4 w5 w6 w7 w8 hd, ht _ w2⟩ ⟨p_blind, fun U hU hWm => ⟨rfl, p_st C hW hS hU hWm⟩⟩ rfl hn hl.1 hst (lv_room hcat) hdg (⟨Nat.le_trans hf.1 hR.2.2.1, Nat.le_trans hf.2 hR.2.2.2⟩)) hS (fun _ h => h) ?_
  intro H1 locs1 hW1 _ _ hS1
  exact kk r2 h1 r h' hk H1 locs1 ls hW1 hS1 hl
theorem r_cn {em1 : β → Option Value} {index n d1 m1 s1 : Nat} {host : String} {y : MethodName} {c1 : ByteArray} {n1 : Nat} {r1 : Option FieldType} {As st0 : List Value} {z1 : Option (β × PH)} {k : β → PH → Option (α × PH)}
    (C : Cx K g cc nL own ret nm d mc9 ms9) (M : MN own index host y c1 n1 r1 n) (hct : CT K.2.1 g d1 m1 s1 y c1 n1 r1 em1 As h z1) (hd : d1 + 1 ≤ d) (hn : As.length = n) (hst : st0 = As.reverse ++ st) (hcat : (st.map fun v => v.category).sum ≤ 8) (hdg : decode cc pc = .ok (.invokestatic index, 3)) (hf : kc + m1 ≤ mc9 ∧ ks + s1 ≤ ms9)
    (kk : ∀ r h1, VX K g nL (kc + m1) (ks + s1) fin (pc + 3) lv ((em1 r).toList ++ st) h1 (k r h1)) : VX K g nL kc ks fin pc lv st0 h (h_bd z1 k) := by
  intro r h' hz H locs ls hW hS hl
  obtain ⟨r2, h1, hz1, hk⟩ := h_bd_some hz
  obtain ⟨w1, w2, w4, w5, w6, w7, w8⟩ := M
  have hR : p_le K.2.2.2.1 d mc9 ms9 := C.2.2.2.2.2.2.2.2.2.1
  have ht := C.2.2.2.2.1
  refine a_go (va_runSN (As := As) (rest := st) (host := host) ⟨C.1, C.2.1, C.2.2.1, C.2.2.2.1, ht⟩ (hct r2 h1 hz1) ⟨⟨⟨rfl, rfl, Nat.le_trans hd hR.1, by have h9 := hR.2.1; show 8 + (n1 + 11) + 64 * d1 ≤ _; omega, p_pays C w5, List.mem_cons_self⟩, ht _ w5, ht _ w4, w6, p_len w7, ht _ w1⟩, ht _ w2, trivial⟩ ⟨p_blind, fun U hU hWm => ⟨rfl, p_st C hW hS hU hWm⟩⟩ rfl hn hl.1 hst (lv_room hcat) hdg (⟨Nat.le_trans hf.1 hR.2.2.1, Nat.le_trans hf.2 hR.2.2.2⟩)) hS (fun _ h => h) ?_
  intro H1 locs1 hW1 _ _ hS1
  exact kk r2 h1 r h' hk H1 locs1 ls hW1 hS1 hl
theorem r_cu {em1 : β → Option Value} {index ci n d1 m1 s1 o : Nat} {Cn owner : String} {x y : MethodName} {c1 : ByteArray} {n1 : Nat} {r1 : Option FieldType} {As st0 : List Value} {z1 : Option (β × PH)} {k : β → PH → Option (α × PH)}
    (C : Cx K g cc nL own ret nm d mc9 ms9) (M : MU own index ci Cn owner x y c1 n1 r1 n) (hct : CT K.2.1 g d1 m1 s1 y c1 n1 r1 em1 (p_rf g o :: As) h z1) (hd : d1 + 1 ≤ d) (hn : As.length = n) (hst : st0 = As.reverse ++ p_rf g o :: st) (hcat : (st.map fun v => v.category).sum ≤ 8) (hdg : decode cc pc = .ok (.invokevirtual index, 3)) (hf : kc + m1 ≤ mc9 ∧ ks + s1 ≤ ms9)
    (kk : ∀ r h1, VX K g nL (kc + m1) (ks + s1) fin (pc + 3) lv ((em1 r).toList ++ st) h1 (k r h1)) : VX K g nL kc ks fin pc lv st0 h ((h_ck ci h o).bind (fun _ => h_bd z1 k)) := by
  intro r h' hz H locs ls hW hS hl
  obtain ⟨_, hck, hz⟩ := Option.bind_eq_some_iff.mp hz
  obtain ⟨fs, hfs⟩ := h_ck_some hck
  obtain ⟨r2, h1, hz1, hk⟩ := h_bd_some hz
  obtain ⟨⟨T, N, hcl⟩, w1, w2, w3, w4, w5, w6, w7, w8, w9, w10⟩ := M
  have hR : p_le K.2.2.2.1 d mc9 ms9 := C.2.2.2.2.2.2.2.2.2.1
  have ht := C.2.2.2.2.1
  have hdecl : va_Decl (a_s K) ⟨owner, x.name, x.desc⟩ := by
    rcases w3 with q | q
    · exact va_Decl.abs (va_Nw.of rfl (ht _ q))
    · rw [← q]; exact va_Decl.of (ht _ w5) (ht _ w7)
  refine a_go (va_runU (As := As) (rest := st) (owner := owner) (x := x) ⟨C.1, C.2.1, C.2.2.1, C.2.2.2.1, ht⟩ (hct r2 h1 hz1) ⟨⟨rfl, rfl, Nat.le_trans hd hR.1, by have h9 := hR.2.1; show 8 + (n1 + 11) + 64 * d1 ≤ _; omega, p_pays C w7, List.mem_cons_self⟩, ht _ w7, ht _ w6, w8, p_len w9, ht _ w1, ht _ w2, hdecl, ht _ w4, ht _ w5⟩ ⟨p_blind, va_recv C.2.2.2.2.2.1 hW.1 hcl (p_ws_some hfs), fun U hU hWm => ⟨rfl, p_st C hW hS hU hWm⟩⟩ rfl hn hl.1 hst (lv_room hcat) hdg (⟨Nat.le_trans hf.1 hR.2.2.1, Nat.le_trans hf.2 hR.2.2.2⟩)) hS (fun _ h => h) ?_
  intro H1 locs1 hW1 _ _ hS1
  exact kk r2 h1 r h' hk H1 locs1 ls hW1 hS1 hl
theorem r_ci {em1 : β → Option Value} {index n d1 m1 s1 o : Nat} {y : MethodName} {c1 : ByteArray} {n1 : Nat} {As st0 : List Value} {z1 : Option (β × PH)} {k : β → PH → Option (α × PH)}
    (C : Cx K g cc nL own ret nm d mc9 ms9) (M : MI own index y c1 n1 n) (hct : CT K.2.1 g d1 m1 s1 y c1 n1 none em1 (p_rf g o :: As) h z1) (hd : d1 + 1 ≤ d) (hn : As.length = n) (hst : st0 = As.reverse ++ p_rf g o :: st) (hcat : (st.map fun v => v.category).sum ≤ 8) (hdg : decode cc pc = .ok (.invokespecial index, 3)) (hf : kc + m1 ≤ mc9 ∧ ks + s1 ≤ ms9)
    (kk : ∀ r h1, VX K g nL (kc + m1) (ks + s1) fin (pc + 3) lv ((em1 r).toList ++ st) h1 (k r h1)) : VX K g nL kc ks fin pc lv st0 h (h_bd z1 k) := by
  intro r h' hz H locs ls hW hS hl
  obtain ⟨r2, h1, hz1, hk⟩ := h_bd_some hz
  obtain ⟨w0, w1, w2, w4, w5, w6, w7, w8⟩ := M
  have hR : p_le K.2.2.2.1 d mc9 ms9 := C.2.2.2.2.2.2.2.2.2.1
  have ht := C.2.2.2.2.1
  refine a_go (va_runI (As := As) (rest := st) ⟨C.1, C.2.1, C.2.2.1, C.2.2.2.1, ht⟩ (hct r2 h1 hz1) ⟨p_callB C w1 w4 w5 w6 w7 w8 hd, w0, ht _ w2⟩ ⟨p_blind, fun U hU hWm => ⟨rfl, p_st C hW hS hU hWm⟩⟩ rfl hn hl.1 hst (lv_room hcat) hdg (⟨Nat.le_trans hf.1 hR.2.2.1, Nat.le_trans hf.2 hR.2.2.2⟩)) hS (fun _ h => h) ?_
  intro H1 locs1 hW1 _ _ hS1
  exact kk r2 h1 r h' hk H1 locs1 ls hW1 hS1 hl
theorem p_loc (C : Cx K g cc nL own ret nm d mc9 ms9) (hd : 1 ≤ d) {x y : Nat} (hx : x ≤ 8) (hy : y ≤ 56) : 1 ≤ K.2.2.2.1.frames ∧ x + y ≤ K.2.2.2.1.locals := by
  have hR : p_le K.2.2.2.1 d mc9 ms9 := C.2.2.2.2.2.2.2.2.2.1
  have h8 := hR.1
  have h9 := hR.2.1
  exact ⟨by omega, by omega⟩
theorem r_obj (C : Cx K g cc nL own ret nm d mc9 ms9) {index o : Nat} (M : MO own index) (hd : 1 ≤ d) (hcat : (st.map fun v => v.category).sum ≤ 8) (hdg : decode cc pc = .ok (.invokespecial index, 3)) (k : VX K g nL kc ks fin (pc + 3) lv st h z) : VX K g nL kc ks fin pc lv (p_rf g o :: st) h z := by
  intro r h' hz H locs ls hW hS hl
  have hp := p_loc C hd (x := (st.map fun v => v.category).sum) (y := 12) hcat (by omega)
  exact W.objInit C.1 C.2.1 C.2.2.2.1 (p_word C M.1) (p_word C M.2.1) (p_word C M.2.2) rfl (hl.1.trans C.2.2.1.symm) rfl hdg hp.1 (by have h9 := hp.2; show 2 * 0 + _ + 12 ≤ _; omega) (k r h' hz H locs ls hW hS hl)
theorem r_max (C : Cx K g cc nL own ret nm d mc9 ms9) {index : Nat} {x y : Int32} (M : MM own index Lib.Math.max.name Lib.Math.max.code 2) (hd : 1 ≤ d) (hcat : (st.map fun v => v.category).sum ≤ 8) (hf : kc ≤ mc9 ∧ ks ≤ ms9) (hdg : decode cc pc = .ok (.invokestatic index, 3)) (k : VX K g nL kc ks fin (pc + 3) lv (.int (if x < y then y else x) :: st) h z) : VX K g nL kc ks fin pc lv (.int y :: .int x :: st) h z := by
  intro r h' hz H locs ls hW hS hl
  have hR : p_le K.2.2.2.1 d mc9 ms9 := C.2.2.2.2.2.2.2.2.2.1
  have hp := p_loc C hd (x := (st.map fun v => v.category).sum) (y := 13) hcat (by omega)
  exact va_mmax C.1 C.2.1 (C.2.2.1.trans hl.1.symm) C.2.2.2.1 (p_word C M.1) (p_word C M.2.1) (p_word C M.2.2.1) (p_word C M.2.2.2) hp.1 hp.2 (Nat.le_trans hf.1 hR.2.2.1) (Nat.le_trans hf.2 hR.2.2.2) hdg (k r h' hz H locs ls hW hS hl)
theorem r_min (C : Cx K g cc nL own ret nm d mc9 ms9) {index : Nat} {x y : Int32} (M : MM own index Lib.Math.min.name Lib.Math.min.code 2) (hd : 1 ≤ d) (hcat : (st.map fun v => v.category).sum ≤ 8) (hf : kc ≤ mc9 ∧ ks ≤ ms9) (hdg : decode cc pc = .ok (.invokestatic index, 3)) (k : VX K g nL kc ks fin (pc + 3) lv (.int (if y < x then y else x) :: st) h z) : VX K g nL kc ks fin pc lv (.int y :: .int x :: st) h z := by
  intro r h' hz H locs ls hW hS hl
  have hR : p_le K.2.2.2.1 d mc9 ms9 := C.2.2.2.2.2.2.2.2.2.1
  have hp := p_loc C hd (x := (st.map fun v => v.category).sum) (y := 13) hcat (by omega)
  exact va_mmin C.1 C.2.1 (C.2.2.1.trans hl.1.symm) C.2.2.2.1 (p_word C M.1) (p_word C M.2.1) (p_word C M.2.2.1) (p_word C M.2.2.2) hp.1 hp.2 (Nat.le_trans hf.1 hR.2.2.1) (Nat.le_trans hf.2 hR.2.2.2) hdg (k r h' hz H locs ls hW hS hl)
theorem r_abs (C : Cx K g cc nL own ret nm d mc9 ms9) {index : Nat} {x : Int32} (M : MM own index Lib.Math.abs.name Lib.Math.abs.code 1) (hd : 1 ≤ d) (hcat : (st.map fun v => v.category).sum ≤ 8) (hf : kc ≤ mc9 ∧ ks ≤ ms9) (hdg : decode cc pc = .ok (.invokestatic index, 3)) (k : VX K g nL kc ks fin (pc + 3) lv (.int (if 0 ≤ x then x else 0 - x) :: st) h z) : VX K g nL kc ks fin pc lv (.int x :: st) h z := by
  intro r h' hz H locs ls hW hS hl
  have hR : p_le K.2.2.2.1 d mc9 ms9 := C.2.2.2.2.2.2.2.2.2.1
  have hp := p_loc C hd (x := (st.map fun v => v.category).sum) (y := 13) hcat (by omega)
  exact va_mabs C.1 C.2.1 (C.2.2.1.trans hl.1.symm) C.2.2.2.1 (p_word C M.1) (p_word C M.2.1) (p_word C M.2.2.1) (p_word C M.2.2.2) hp.1 hp.2 (Nat.le_trans hf.1 hR.2.2.1) (Nat.le_trans hf.2 hR.2.2.2) hdg (k r h' hz H locs ls hW hS hl)
theorem r_cpy (hg : p_al g = false) (C : Cx K g cc nL own ret nm d mc9 ms9) {index a b : Nat} {sp dp n : Int32} {f : PH → Option (α × PH)} (M : MC own index) (hd : 1 ≤ d) (hcat : (st.map fun v => v.category).sum ≤ 8) (hdg : decode cc pc = .ok (.invokestatic index, 3)) (k : ∀ h1, VX K g nL kc ks fin (pc + 3) lv st h1 (f h1)) : VX K g nL kc ks fin pc lv (.int n :: .int dp :: p_rf g b :: .int sp :: p_rf g a :: st) h ((h_cpy h a sp b dp n).bind f) := by
  intro r h' hz H locs ls hW hS hl
  obtain ⟨h1, hx, hf⟩ := Option.bind_eq_some_iff.mp hz
  obtain ⟨n0, f0, n1, f1, e1, e2, e3, e4, e5, e6, e7, rfl⟩ := h_cpy_some hx
  have hp := p_loc C hd (x := (st.map fun v => v.category).sum) (y := nativeFrameWords "java/lang/System" "arraycopy" 5 + 11) hcat (by decide +kernel)
  exact va_copyi C.1 C.2.1 (C.2.2.1.trans hl.1.symm) C.2.2.2.1 (p_word C M.1) (p_word C M.2.1) (p_word C M.2.2.1) (p_word C M.2.2.2) C.2.2.2.2.2.1 hW.1 (p_D hW.2.2) hS a b 0 0 (p_ws_some e1) (p_ws_some e2) rfl rfl rfl e3 e4 e5 e6 e7 (fun i _ => rfl) hp.1 hp.2 hdg (fun H1 locs1 hP hD hS => k _ r h' hf H1 locs1 ls (p_nal (e0 := .inl (.int, n1, .inl f1)) hg hW hP) hS hl)
theorem p_grow {e : PE} {H H1 : Heap} (hg : p_al g = true) (hW : p_W g h H) (hP : va_P g.1 vwCl [(p_b g + h.length, p_cl g e)] H1) (ho : ∀ q, q < H.size → H1[q]? = H[q]?) (hz : H1.size = H.size + 1) : p_W g (h ++ [e]) H1 := by
  have hs := hW.2.1 hg
  refine ⟨?_, fun _ => ?_, fun a => by rw [hg] at a; cases a⟩
  · have e1 : p_ws g (h ++ [e]) = p_ws g h ++ [(p_b g + h.length, p_cl g e)] := by
      unfold p_ws
      rw [List.mapIdx_append]
      simp
    rw [e1]
    exact va_P.app (hW.1.kept (fun k q hq => ho q.1 (hW.1 k q hq).lt)) hP
  · rw [hz, hs, List.length_append]; rfl
theorem p_mapid (g : WG) : ∀ fs : List Value, (∀ v ∈ fs, ∀ a, v ≠ .ref a) → fs.map (p_rn g) = fs
  | [], _ => rfl
  | v :: fs, hv => by
    have h1 : p_rn g v = v := by
      have := hv v List.mem_cons_self
      cases v <;> first | rfl | exact absurd rfl (this _)
    rw [List.map_cons, h1, p_mapid g fs (fun w hw => hv w (List.mem_cons_of_mem _ hw))]
theorem r_newo (hg : p_al g = true) (C : Cx K g cc nL own ret nm d mc9 ms9) {index ci N : Nat} {fs : List Value} {f : Nat → PH → Option (α × PH)} (M : MW own index ci N fs) (hf : kc + 1 ≤ mc9 ∧ ks + N ≤ ms9) (hdg : decode cc pc = .ok (.new index, 3)) (k : ∀ o h1, VX K g nL (kc + 1) (ks + N) fin (pc + 3) lv (p_rf g o :: st) h1 (f o h1)) : VX K g nL kc ks fin pc lv st h (h_new h (.inr (ci, fs)) f) := by
  intro r h' hz H locs ls hW hS hl
  obtain ⟨Cn, T, ty, w1, w2, w3, w4, w5, w6, w7, w8⟩ := M
  have hR : p_le K.2.2.2.1 d mc9 ms9 := C.2.2.2.2.2.2.2.2.2.1
  have hK := C.2.2.2.2.2.1
  have hKn := hK.1 ci _ w1
  have hs := hW.2.1 hg
  refine W.newcK C.1 C.2.1 C.2.2.2.1 (p_word C w4) (p_word C w5) (p_word C w6) rfl hdg (Nat.le_trans hf.1 hR.2.2.1) (Nat.le_trans hf.2 hR.2.2.2) hKn.2.1 hs fun H1 kC hkC e1 z1 o1 => ?_
  have hmap : fs.map (p_rn g) = fs := p_mapid g fs w8
  refine k _ _ r h' hz H1 locs ls (p_grow hg hW ?_ (fun q hq => o1 q (by omega)) (by omega)) ⟨by have := hS.1; omega, fun q h1 h2 => (o1 q (by have := hS.1; omega)).trans (hS.2.1 q h1 h2), hS.2.2⟩ hl
  intro j q hq
  have hj : j < 1 := (List.getElem?_eq_some_iff.mp hq).1
  rw [show j = 0 by omega] at hq
  cases hq
  refine ⟨_, w1, ?_⟩
  show t_OB _ _ _ _ _ (vp_V (fs.map (p_rn g)))
  rw [hmap]
  exact (u_born ty C.2.2.2.2.1 w2 hKn hkC e1 w3).to w7
theorem r_newa (hg : p_al g = true) (C : Cx K g cc nL own ret nm d mc9 ms9) {atype : ArrayType} {ty : FieldType} {t0 : Nat} (hty : newarray.typeOf atype = ty) (ht0 : (p_tys g)[t0]? = some (g.2.1 ty, ty)) (hw : Cond.arrayClass (newarray.typeOf atype) ∈ WL) {n : Int32} {N : Nat} {a0 : vp_A} (ha : ∀ cA : ClassId, vp_cell cA a0 = arrV cA N (fun _ => defaultValue ty)) (hn : ¬ n < 0) (hN : n.toNatClampNeg = N) (hb : N * componentBytes ty ≤ 536870912) {f : Nat → PH → Option (α × PH)} (hf : kc + 1 ≤ mc9 ∧ ks + N ≤ ms9) (hdg : decode cc pc = .ok (.newarray atype, 2)) (k : ∀ o h1, VX K g nL (kc + 1) (ks + N) fin (pc + 2) lv (p_rf g o :: st) h1 (f o h1)) : VX K g nL kc ks fin pc lv (.int n :: st) h (h_new h (.inl (ty, a0)) f) := by
  intro r h' hz H locs ls hW hS hl
  have hR : p_le K.2.2.2.1 d mc9 ms9 := C.2.2.2.2.2.2.2.2.2.1
  have hs := hW.2.1 hg
  subst hty
  refine va_newaK C.1 C.2.1 (p_word C hw) rfl hdg rfl hn hN hb (Nat.le_trans hf.1 hR.2.2.1) (Nat.le_trans hf.2 hR.2.2.2) hs fun H1 cA e1 z1 o1 hAr hNm => ?_
  have hc : cA = g.2.1 (newarray.typeOf atype) := by
    have h1 := (C.2.2.2.2.2.1.2 t0 _ ht0).2
    cases atype <;> exact Option.some.inj (hNm.symm.trans h1)
  subst hc
  refine k _ _ r h' hz H1 locs ls (p_grow hg hW ?_ (fun q hq => o1 q (by omega)) (by omega)) ⟨by have := hS.1; omega, fun q h1 h2 => (o1 q (by have := hS.1; omega)).trans (hS.2.1 q h1 h2), hS.2.2⟩ hl
  intro j q hq
  have hj : j < 1 := (List.getElem?_eq_some_iff.mp hq).1
  rw [show j = 0 by omega] at hq
  cases hq
  show H1[_]? = some (vp_cell _ _)
  rw [ha]
  exact e1
/-! the ends -/
theorem p_end (C : Cx K g cc nL own ret nm d mc9 ms9) {H : Heap} {locs : List Loc} (hW : p_W g h H) (hS : va_S (p_A g) (a_s K).heap H locs) (rv : Option Value) : ∀ t : State, t.heap = H → (a_s K).WarmedH t.vm → p_Q g rv h K.2.2.2.2.2.2.1 (a_s K) (.returned rv) t :=
  fun t ht hWm => ⟨⟨rfl, p_st C hW hS ht hWm⟩, hS.F ht⟩
theorem r_iret (C : Cx K g cc nL own (some .int) nm d mc9 ms9) {x : Int32} (hdg : decode cc pc = .ok (.ireturn, 1)) : VX K g nL mc ms (a_fin K g mc ms em_i) pc lv [.int x] h (some (x, h)) := by
  intro r h' hz H locs ls hW hS hl
  cases hz
  exact W.iret C.1 C.2.1 C.2.2.2.2.2.2.1 (p_end C hW hS _) hS.2.2 hdg C.2.2.2.2.2.2.2.1
theorem r_zret (C : Cx K g cc nL own (some .boolean) nm d mc9 ms9) {x : Int32} (hdg : decode cc pc = .ok (.ireturn, 1)) : VX K g nL mc ms (a_fin K g mc ms em_i) pc lv [.int x] h (h_z x (some (x, h))) := by
  intro r h' hz H locs ls hW hS hl
  unfold h_z at hz
  split at hz
  · rename_i hx
    cases hz
    refine W.zret C.1 C.2.1 C.2.2.2.2.2.2.1 ?_ (p_end C hW hS _) hS.2.2 hdg C.2.2.2.2.2.2.2.1
    rcases hx with rfl | rfl <;> rfl
  · cases hz
theorem r_lret (C : Cx K g cc nL own (some .long) nm d mc9 ms9) {x : Int64} (hdg : decode cc pc = .ok (.lreturn, 1)) : VX K g nL mc ms (a_fin K g mc ms em_l) pc lv [.long x] h (some (x, h)) := by
  intro r h' hz H locs ls hW hS hl
  cases hz
  exact W.lret C.1 C.2.1 C.2.2.2.2.2.2.1 (p_end C hW hS _) hS.2.2 hdg C.2.2.2.2.2.2.2.1
theorem r_vret (C : Cx K g cc nL own none nm d mc9 ms9) (hdg : decode cc pc = .ok (.return_, 1)) : VX K g nL mc ms (a_fin K g mc ms em_v) pc lv [] h (some ((), h)) := by
  intro r h' hz H locs ls hW hS hl
  cases hz
  exact W.vret C.1 C.2.1 C.2.2.2.2.2.2.1 (p_end C hW hS _) hS.2.2 hdg C.2.2.2.2.2.2.2.1
theorem r_aret {Cn : String} (C : Cx K g cc nL own (some (.object Cn)) nm d mc9 ms9) {x : Nat} (hdg : decode cc pc = .ok (.areturn, 1)) : VX K g nL mc ms (a_fin K g mc ms (em_r g)) pc lv [p_rf g x] h (some (x, h)) := by
  intro r h' hz H locs ls hW hS hl
  cases hz
  exact W.aret C.1 C.2.1 C.2.2.2.2.2.2.1 (Or.inl ⟨Cn, rfl⟩) (Or.inr ⟨_, rfl⟩) (p_end C hW hS _) hS.2.2 hdg C.2.2.2.2.2.2.2.1
/-- cells and slots, rounded up -/
theorem r_widen {k n : Nat} (h1 : kc ≤ k) (h2 : ks ≤ n) (kk : VX K g nL k n fin pc lv st h z) : VX K g nL kc ks fin pc lv st h z :=
  fun r h' hz H locs ls hW hS hl => W.widen h1 h2 (kk r h' hz H locs ls hW hS hl)
/-- a boolean field is written -/
theorem r_pz (C : Cx K g cc nL own ret nm d mc9 ms9) {index ci k o : Nat} (F : FL own index ci k .boolean false) {x : Int32} {f : PH → Option (α × PH)} (hdg : decode cc pc = .ok (.putfield index, 3)) (kk : ∀ h1, VX K g nL kc ks fin (pc + 3) lv st h1 (f h1)) : VX K g nL kc ks fin pc lv (.int x :: p_rf g o :: st) h (h_z x ((h_pv ci k h o (.int x)).bind f)) := by
  intro r h' hz H locs ls hW hS hl
  unfold h_z at hz
  split at hz
  · rename_i hx
    refine r_pv (v := .int x) C F hdg ?_ ?_ kk r h' hz H locs ls hW hS hl
    · rcases hx with rfl | rfl <;> rfl
    · rcases hx with rfl | rfl <;> rfl
  · cases hz
theorem r_pi (C : Cx K g cc nL own ret nm d mc9 ms9) {index ci k o : Nat} (F : FL own index ci k .int false) {x : Int32} {f : PH → Option (α × PH)} (hdg : decode cc pc = .ok (.putfield index, 3)) (kk : ∀ h1, VX K g nL kc ks fin (pc + 3) lv st h1 (f h1)) : VX K g nL kc ks fin pc lv (.int x :: p_rf g o :: st) h ((h_pv ci k h o (.int x)).bind f) := r_pv (v := .int x) C F hdg rfl rfl kk
theorem r_piF (C : Cx K g cc nL own ret "<init>" d mc9 ms9) {index ci k o : Nat} (F : FL own index ci k .int true) {x : Int32} {f : PH → Option (α × PH)} (hdg : decode cc pc = .ok (.putfield index, 3)) (kk : ∀ h1, VX K g nL kc ks fin (pc + 3) lv st h1 (f h1)) : VX K g nL kc ks fin pc lv (.int x :: p_rf g o :: st) h ((h_pv ci k h o (.int x)).bind f) := r_pvF (v := .int x) C F hdg rfl rfl kk
theorem r_pr (C : Cx K g cc nL own ret nm d mc9 ms9) {index ci k o x : Nat} {ty : FieldType} (F : FL own index ci k ty false) (hn : narrow ty (p_rf g x) = p_rf g x) (hfit : fits ty (p_rf g x) = true) {f : PH → Option (α × PH)} (hdg : decode cc pc = .ok (.putfield index, 3)) (kk : ∀ h1, VX K g nL kc ks fin (pc + 3) lv st h1 (f h1)) : VX K g nL kc ks fin pc lv (p_rf g x :: p_rf g o :: st) h ((h_pv ci k h o (.ref x)).bind f) := r_pv (v := .ref x) C F hdg hn hfit kk
theorem r_prF (C : Cx K g cc nL own ret "<init>" d mc9 ms9) {index ci k o x : Nat} {ty : FieldType} (F : FL own index ci k ty true) (hn : narrow ty (p_rf g x) = p_rf g x) (hfit : fits ty (p_rf g x) = true) {f : PH → Option (α × PH)} (hdg : decode cc pc = .ok (.putfield index, 3)) (kk : ∀ h1, VX K g nL kc ks fin (pc + 3) lv st h1 (f h1)) : VX K g nL kc ks fin pc lv (p_rf g x :: p_rf g o :: st) h ((h_pv ci k h o (.ref x)).bind f) := r_pvF (v := .ref x) C F hdg hn hfit kk
/-- a method's contract, from its body's walk -/
theorem CT_of {l : Launch} {y : MethodName} {em : α → Option Value} {av : List Value} {lv0 : List (Nat × Value)} {own nm : String} (hy : plainName y.cls = true) (hav : (lg_sl av).length ≤ nL) (hlv : lv_args 0 av = lv0) (ho : y.cls = own) (hm : y.name = nm) (hal : mc = mc9 ∧ ms = ms9)
    (body : ∀ K : AC, K.2.1 = l → Cx K g cc nL own ret nm d mc9 ms9 → VX K g nL 0 0 (a_fin K g mc ms em) 0 lv0 [] h z) : CT l g d mc9 ms9 y cc nL ret em av h z := by
  obtain ⟨rfl, rfl⟩ := hal
  subst ho
  subst hm
  intro r h' hz
  refine Met.ofW (cc := cc) (maxL := nL) (ret := ret) hy rfl ?_
  intro p e s m args below meth c s₁ B hml hv
  obtain ⟨rfl, hU⟩ := hv
  have hts := atoms_spec (ws := Cond.code y cc nL ret :: WL) B.pre
  have hC : Cx (p, l, e, (headSpec (Cond.code y cc nL ret :: WL) (p_rm d mc ms)).room, s, m, av.toArray, below, meth, c) g cc nL y.cls ret y.name d mc ms := by
    refine ⟨B.exec, B.bytes, hml, findClass_of_methodNamed B.named, fun w hw => hts w (List.mem_cons_of_mem _ hw), hU.2.1, B.returns, B.notSynchronized, (name_of_methodNamed B.named B.method).1, p_le.rf, fun q hq ha => ⟨?_, Or.inl ha⟩, hU.2.2⟩
    have h1 := hU.1.2.1 ha
    have h2 : (a_s (p, l, e, (headSpec (Cond.code y cc nL ret :: WL) (p_rm d mc ms)).room, s, m, av.toArray, below, meth, c)).heap.size = s.heap.size := rfl
    omega
  have hl := lv_entry av (n := nL) hav
  rw [hlv] at hl
  rw [lg_entry_eq]
  exact body _ rfl hC r h' hz s.heap [] _ hU.1 va_S.rf hl
end CROWS
