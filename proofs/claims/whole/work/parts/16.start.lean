set_option maxRecDepth 100000 in
theorem m_124 : Cond.classLink RL 8 RX11 ∈ WL := p_mt1 (i := 27) rfl rfl
set_option maxRecDepth 100000 in
theorem m_125 : Cond.instantiable RX11 11 ∈ WL := p_mt1 (i := 28) rfl rfl
set_option maxRecDepth 100000 in
theorem ww_L_8 : MW RL 8 10 11 [.null, .null, .null, .null, .null, .null, .null, .null, .null, .null, .null] := ⟨RX11, TX11, tyX11, rfl, inW_X11, tyX11_ok, m_124, m_125, m_98, by decide +kernel, fun v hv a e => by rw [e] at hv; simp at hv⟩
set_option maxRecDepth 100000 in
theorem m_1420 : Cond.classLink RL 23 RX12 ∈ WL := p_mt6 (i := 123) rfl rfl
set_option maxRecDepth 100000 in
theorem m_1421 : Cond.instantiable RX12 51 ∈ WL := p_mt6 (i := 124) rfl rfl
set_option maxRecDepth 100000 in
theorem ww_L_23 : MW RL 23 11 51 [.null, .int 0, .int 0, .int 0, .null, .null, .null, .null, .null, .null, .int 0, .null, .int 0, .int 0, .null, .int 0, .int 0, .int 0, .int 0, .null, .null, .null, .null, .int 0, .int 0, .null, .null, .int 0, .null, .null, .null, .int 0, .null, .null, .null, .null, .null, .int 0, .null, .null, .null, .null, .null, .null, .int 0, .null, .int 0, .int 0, .null, .null, .null] := ⟨RX12, TX12, tyX12, rfl, inW_X12, tyX12_ok, m_1420, m_1421, m_110, by decide +kernel, fun v hv a e => by rw [e] at hv; simp at hv⟩
set_option maxRecDepth 100000 in
theorem m_1422 : Cond.methodLink RL 25 yX12_init ∈ WL := p_mt6 (i := 125) rfl rfl
set_option maxRecDepth 100000 in
theorem m_1423 : Cond.instanceMethod yX12_init ∈ WL := p_mt6 (i := 126) rfl rfl
set_option maxRecDepth 100000 in
theorem m_1424 : Cond.code yX12_init cX12_init 1 none ∈ WL := p_mt6 (i := 127) rfl rfl
set_option maxRecDepth 100000 in
theorem wi_L_25 : MI RL 25 yX12_init cX12_init 1 0 := ⟨rfl, m_1422, m_1423, m_110, m_1424, by decide +kernel, by decide +kernel, by decide⟩
set_option maxRecDepth 100000 in
theorem m_126 : Cond.methodLink RL 22 yX11_init ∈ WL := p_mt1 (i := 29) rfl rfl
set_option maxRecDepth 100000 in
theorem m_127 : Cond.instanceMethod yX11_init ∈ WL := p_mt1 (i := 30) rfl rfl
set_option maxRecDepth 100000 in
theorem m_128 : Cond.code yX11_init cX11_init 5 none ∈ WL := p_mt1 (i := 31) rfl rfl
set_option maxRecDepth 100000 in
theorem wi_L_22 : MI RL 22 yX11_init cX11_init 5 0 := ⟨rfl, m_126, m_127, m_98, m_128, by decide +kernel, by decide +kernel, by decide⟩
/-! FROM THE ENTRY -/
def p_g1 (g : WG) (h : PH) : WG := (g.1, g.2.1, g.2.2.1, h.length, false)
section SW
variable {α : Type} {K : AC} {g : WG} {nL kc ks : Nat} {fin : α → PH → State → Prop} {pc : Nat} {lv : List (Nat × Value)} {st : List Value} {h : PH} {z : Option (α × PH)}
variable {cc : ByteArray} {own nm : String} {ret : Option FieldType} {d mc9 ms9 : Nat}
theorem A_sw (hg : p_al g = true) {h : PH} {q : Nat} (hq : p_A (p_g1 g h) q) : p_A g q := ⟨hq.1, Or.inl hg⟩
theorem p_X.narrow {g2 : WG} {U : State} {H : Heap} (hAB : ∀ q, p_A g2 q → p_A g q) (h : p_X g U H) : p_X g2 U H := by
  obtain ⟨h1, h2, h3, adK, adV, h4, h5⟩ := h
  exact ⟨h1.narrow hAB, h2.narrow hAB, h3.narrow hAB, adK, adV, h4.narrow hAB, h5⟩
theorem Cx_sw (hg : p_al g = true) (hb0 : p_b g = (a_s K).heap.size) {h : PH} (C : Cx K g cc nL own ret nm d mc9 ms9) : Cx K (p_g1 g h) cc nL own ret nm d mc9 ms9 := by
  obtain ⟨c1, c2, c3, c4, c5, c6, c7, c8, c9, c10, c11, c12⟩ := C
  exact ⟨c1, c2, c3, c4, c5, c6, c7, c8, c9, c10, fun q _ ha => (by cases ha), p_X.narrow (fun q hq => A_sw hg hq) c12⟩
/-- from here on no cell of the world is made -/
theorem r_switch (hg : p_al g = true) (hb0 : p_b g = (a_s K).heap.size) (k : VX K (p_g1 g h) nL kc ks fin pc lv st h z) : VX K g nL kc ks fin pc lv st h z := by
  intro r h' hz H locs ls hW hS hl
  have hno : p_al (p_g1 g h) = true → H.size = p_b (p_g1 g h) + h.length := by
    intro a
    cases a
  have hw : p_W (p_g1 g h) h H := ⟨hW.1, hno, fun _ => Nat.le_refl _⟩
  refine va_forget (fun q hq => ?_) (k r h' hz H [] ls hw ⟨hS.1, fun q h1 h2 => hS.2.1 q h1 (fun h3 => ?_), fun l hl => nomatch hl⟩ hl)
  · have h1 := (hS.2.2 q hq).1
    show (a_s K).heap.size ≤ q.base
    omega
  · have h4 := h3.1
    omega
end SW
def fL_start (xs : Nat → Int32) (L : Nat) (h : PH) : Option (Unit × PH) := h_new h (.inr (10, [.null, .null, .null, .null, .null, .null, .null, .null, .null, .null, .null])) fun q1 h2 => h_bd (fX11_init q1 h2) fun _ h3 => h_new h3 (.inr (11, [.null, .int 0, .int 0, .int 0, .null, .null, .null, .null, .null, .null, .int 0, .null, .int 0, .int 0, .null, .int 0, .int 0, .int 0, .int 0, .null, .null, .null, .null, .int 0, .int 0, .null, .null, .int 0, .null, .null, .null, .int 0, .null, .null, .null, .null, .null, .int 0, .null, .null, .null, .null, .null, .null, .int 0, .null, .int 0, .int 0, .null, .null, .null])) fun q4 h5 => h_bd (fX12_init q4 h5) fun _ h6 => h_new h6 (.inl (.long, (1, .inr (.inl (fun _ => 0))))) fun q7 h8 => fL_law_L23 xs L q1 q4 q7 (fun h => some ((), h)) FU (0 : Int32) h8
set_option maxRecDepth 100000 in
set_option maxHeartbeats 4000000 in
theorem tL_start {K : AC} {g : WG} {b L : Nat} {xs : Nat → Int32} (hg : p_al g = true) (hb0 : p_b g = (a_s K).heap.size) (htr : K.2.1.stackTraces = false) (C : Cx K g cL_law 8 RL (some .boolean) "law" 1000 601024 7293034) (CS : va_X b L xs (a_s K) (a_s K).heap ∧ b < (a_s K).heap.size ∧ ¬ p_A g b) {fin : Unit → PH → State → Prop} (hend : ∀ (g2 : WG) (kc ks : Nat) (lv : List (Nat × Value)) (h : PH), (∀ {q : Nat}, p_A g2 q → p_A g q) → p_b g2 = p_b g → Cx K g2 cL_law 8 RL (some .boolean) "law" 1000 601024 7293034 → kc ≤ 601024 → ks ≤ 7293034 → VX K g2 8 kc ks fin 1630 lv [] h (some ((), h))) (h : PH) : VX K g 8 0 0 fin 0 [(0, .ref b)] [] h (fL_start xs L h) := by
  unfold fL_start
  refine r_newo hg C ww_L_8 ⟨Nat.le_of_ble_eq_true rfl, Nat.le_of_ble_eq_true rfl⟩ dL_law_0 (fun q1 h2 => ?_)
  refine r_dup C dL_law_3 rfl ?_
  refine r_ciA (As := []) (st := [p_rf g q1]) C wi_L_22 (tcX11_init K.2.1 g hg q1 h2) (Nat.le_of_ble_eq_true rfl) rfl rfl (Nat.le_of_ble_eq_true rfl) dL_law_4 ⟨Nat.le_of_ble_eq_true rfl, Nat.le_of_ble_eq_true rfl⟩ (fun h3 => ?_)
  refine r_astore_n (lv9 := [(1, p_rf g q1), (0, .ref b)]) C dL_law_7 (by decide) rfl ?_
  refine r_newo hg C ww_L_23 ⟨Nat.le_of_ble_eq_true rfl, Nat.le_of_ble_eq_true rfl⟩ dL_law_8 (fun q4 h5 => ?_)
  refine r_dup C dL_law_11 rfl ?_
  refine r_ciA (As := []) (st := [p_rf g q4]) C wi_L_25 (tcX12_init K.2.1 g hg q4 h5) (Nat.le_of_ble_eq_true rfl) rfl rfl (Nat.le_of_ble_eq_true rfl) dL_law_12 ⟨Nat.le_of_ble_eq_true rfl, Nat.le_of_ble_eq_true rfl⟩ (fun h6 => ?_)
  refine r_astore_n (lv9 := [(2, p_rf g q4), (1, p_rf g q1), (0, .ref b)]) C dL_law_15 (by decide) rfl ?_
  refine r_iconst C dL_law_16 k_i1 ?_
  refine r_newa (atype := .long) (ty := .long) (t0 := 1) hg C rfl rfl m_241 (N := 1) (a0 := (1, .inr (.inl (fun _ => 0)))) (fun _ => rfl) (by decide) (by decide) (by decide) ⟨Nat.le_of_ble_eq_true rfl, Nat.le_of_ble_eq_true rfl⟩ dL_law_17 (fun q7 h8 => ?_)
  refine r_astore_n (lv9 := [(3, p_rf g q7), (2, p_rf g q4), (1, p_rf g q1), (0, .ref b)]) C dL_law_19 (by decide) rfl ?_
  refine r_iconst C dL_law_20 k_i0 ?_
  refine r_istore (lv9 := [(4, .int (0 : Int32)), (3, p_rf g q7), (2, p_rf g q4), (1, p_rf g q1), (0, .ref b)]) C dL_law_21 (by decide) rfl ?_
  refine r_perm (lv' := [(0, .ref b), (1, p_rf g q1), (2, p_rf g q4), (3, p_rf g q7), (4, .int (0 : Int32))]) [4, 3, 2, 1, 0] rfl ?_
  refine r_switch hg hb0 ?_
  exact tL_law_L23 (g := p_g1 g h8) rfl htr (Cx_sw hg hb0 C) ⟨CS.1, CS.2.1, fun q => CS.2.2 (A_sw hg q)⟩ q1 q4 q7 (fun kc ks lv h9 h1 h2 => hend _ kc ks lv h9 (A_sw hg) rfl (Cx_sw hg hb0 C) h1 h2) FU (0 : Int32) h8 _ _ (by decide) (by decide)
set_option maxRecDepth 100000 in
theorem st_arr {s : State} {args : Array Value} (hts : ∀ w ∈ WL, w.before args s = true) {ty : FieldType} (hw : Cond.arrayClass ty ∈ WL) (hp : refKind ty = false) : ∃ cA : ClassId, ArrOfT s cA ty ∧ va_RA s cA ty := by
  obtain ⟨cA, kA, comp, hfind, hk, hkind⟩ := Cond.arrayClass_spec (hts _ hw)
  refine ⟨cA, fun n z => ⟨fun k h => (by cases h), kA, hk, comp, hkind⟩, ?_⟩
  cases ty <;> first | exact hfind | (simp [refKind] at hp)
set_option maxRecDepth 100000 in
theorem st_K {s : State} {args : Array Value} (hts : ∀ w ∈ WL, w.before args s = true) : ∃ (D : va_G) (aC : FieldType → ClassId), ∀ (b N : Nat) (al : Bool), va_K D vwCl (p_tys (D, aC, b, N, al)) s := by
  obtain ⟨c0, i0, k0⟩ := u_known (C := RX0) (T := TX0) (N := 12) (n := 12) hts inW_X0 (hts _ m_243)
  obtain ⟨c1, i1, k1⟩ := u_known (C := RX2) (T := TX2) (N := 6) (n := 6) hts inW_X2 (hts _ m_147)
  obtain ⟨c2, i2, k2⟩ := u_known (C := RX3) (T := TX3) (N := 2) (n := 2) hts inW_X3 (hts _ m_229)
  obtain ⟨c3, i3, k3⟩ := u_known (C := RX4) (T := TX4) (N := 14) (n := 14) hts inW_X4 (hts _ m_340)
  obtain ⟨c4, i4, k4⟩ := u_known (C := RX5) (T := TX5) (N := 4) (n := 4) hts inW_X5 (hts _ m_209)
  obtain ⟨c5, i5, k5⟩ := u_known (C := RX6) (T := TX6) (N := 10) (n := 10) hts inW_X6 (hts _ m_249)
  obtain ⟨c6, i6, k6⟩ := u_known (C := RX7) (T := TX7) (N := 2) (n := 2) hts inW_X7 (hts _ m_133)
  obtain ⟨c7, i7, k7⟩ := u_known (C := RX8) (T := TX8) (N := 4) (n := 4) hts inW_X8 (hts _ m_321)
  obtain ⟨c8, i8, k8⟩ := u_known (C := RX9) (T := TX9) (N := 5) (n := 5) hts inW_X9 (hts _ m_175)
  obtain ⟨c9, i9, k9⟩ := u_known (C := RX10) (T := TX10) (N := 3) (n := 3) hts inW_X10 (hts _ m_195)
  obtain ⟨c10, i10, k10⟩ := u_known (C := RX11) (T := TX11) (N := 11) (n := 11) hts inW_X11 (hts _ m_125)
  obtain ⟨c11, i11, k11⟩ := u_known (C := RX12) (T := TX12) (N := 51) (n := 51) hts inW_X12 (hts _ m_1421)
  obtain ⟨a0, e0, f0⟩ := st_arr hts m_227 rfl
  obtain ⟨a1, e1, f1⟩ := st_arr hts m_241 rfl
  obtain ⟨a2, e2, f2⟩ := st_arr hts m_673 rfl
  obtain ⟨a3, e3, f3⟩ := st_arr hts m_145 rfl
  obtain ⟨a4, e4, f4⟩ := st_arr hts m_1580 rfl
  refine ⟨(fun k => match k with | 0 => c0 | 1 => c1 | 2 => c2 | 3 => c3 | 4 => c4 | 5 => c5 | 6 => c6 | 7 => c7 | 8 => c8 | 9 => c9 | 10 => c10 | _ => c11, fun k => match k with | 0 => i0 | 1 => i1 | 2 => i2 | 3 => i3 | 4 => i4 | 5 => i5 | 6 => i6 | 7 => i7 | 8 => i8 | 9 => i9 | 10 => i10 | _ => i11), (fun ty => match ty with | .int => a0 | .long => a1 | .byte => a2 | .char => a3 | _ => a4), fun b N al => ⟨fun k q hq => ?_, fun k q hq => ?_⟩⟩
  · match k, hq with
    | 0, hq => cases hq; exact k0
    | 1, hq => cases hq; exact k1
    | 2, hq => cases hq; exact k2
    | 3, hq => cases hq; exact k3
    | 4, hq => cases hq; exact k4
    | 5, hq => cases hq; exact k5
    | 6, hq => cases hq; exact k6
    | 7, hq => cases hq; exact k7
    | 8, hq => cases hq; exact k8
    | 9, hq => cases hq; exact k9
    | 10, hq => cases hq; exact k10
    | 11, hq => cases hq; exact k11
    | k + 12, hq => simp [vwCl] at hq
  · match k, hq with
    | 0, hq => cases hq; exact ⟨e0, f0⟩
    | 1, hq => cases hq; exact ⟨e1, f1⟩
    | 2, hq => cases hq; exact ⟨e2, f2⟩
    | 3, hq => cases hq; exact ⟨e3, f3⟩
    | 4, hq => cases hq; exact ⟨e4, f4⟩
    | k + 5, hq => simp [p_tys] at hq
set_option maxRecDepth 100000 in
theorem st_X {s : State} {args : Array Value} {g : WG} (hts : ∀ w ∈ lw_tbl, w.before args s = true) (hgv : (Jvm.Cond.and given_1 narrow_1).before args s = true) (hA : ∀ a : Nat, a < s.heap.size → ¬ p_A g a) : p_X g s s.heap := by
  have hf := flat_of_before _ hgv
  obtain ⟨adK, adV, h4, h5⟩ := vk_Sof (N := 1) (tm := fun _ => Term.string RX6 76) (len := [7]) (byt := sK) (A := p_A g) (args := args) (s := s)
    (fun i hi => by have : i = 0 := by omega
                    subst this; decide) (fun i _ => hf _ (by decide +kernel)) (fun i _ => hf _ (by decide +kernel)) (fun i _ => hf _ (by decide +kernel))
    (fun i hi => by have : i = 0 := by omega
                    subst this; exact hf _ (by decide +kernel))
    (fun i hi j hj => by
      have : i = 0 := by omega
      subst this
      have hj : j < 7 := hj
      match j, hj with
      | 0, _ => exact hf _ (by decide +kernel)
      | 1, _ => exact hf _ (by decide +kernel)
      | 2, _ => exact hf _ (by decide +kernel)
      | 3, _ => exact hf _ (by decide +kernel)
      | 4, _ => exact hf _ (by decide +kernel)
      | 5, _ => exact hf _ (by decide +kernel)
      | 6, _ => exact hf _ (by decide +kernel)
      | j + 7, hj => exact absurd hj (by omega)) (fun i j hi hj hij => absurd (show i = j by omega) hij) hA
  refine ⟨vx_Zqof (hts _ (List.mem_of_getElem? (i := 1359) (by decide +kernel) : Cond.laysStatic Bundle.tN "UNASSIGNED_STACK" Bundle.steD ∈ lw_tbl)) (hts _ (List.mem_of_getElem? (i := 117) (by decide +kernel) : Cond.initialized Bundle.tN ∈ lw_tbl)) (hf _ (by decide +kernel)) hA, vx_Zqof (hts _ (List.mem_of_getElem? (i := 1361) (by decide +kernel) : Cond.laysStatic Bundle.tN "SUPPRESSED_SENTINEL" Bundle.listD ∈ lw_tbl)) (hts _ (List.mem_of_getElem? (i := 117) (by decide +kernel) : Cond.initialized Bundle.tN ∈ lw_tbl)) (hf _ (by decide +kernel)) hA, va_Zof (hts _ (List.mem_of_getElem? (i := 523) (by decide +kernel) : Cond.laysStatic "java/lang/String" "COMPACT_STRINGS" "Z" ∈ lw_tbl)) (hts _ (List.mem_of_getElem? (i := 111) (by decide +kernel) : Cond.initialized "java/lang/String" ∈ lw_tbl)) (va_eqt (hf _ (by decide +kernel : Cond.eq (Term.static "java/lang/String" "COMPACT_STRINGS" "Z") (.int 1) ∈ _))) hA, adK, adV, h4, vk_R.of (hts _ (List.mem_of_getElem? (i := 509) (by decide +kernel) : Cond.stringRef RX6 76 "vtgedsn" ∈ lw_tbl)) (h5 0 (by decide))⟩
/-! THE CLAIM OUT OF ONE WALK OF THE LAW'S BODY. Your part is whole_start (and what it stands on); all else here is the same for every law, but numbers. -/
def R_law : String := "ReasonsSuppliedLaw"
def lw_P (b : Addr) (xs : List Int32) (args : Array Value) (s : State) : Prop := args = #[.ref b] ∧ s.IntsAt b xs ∧ xs.length ≤ 2560 ∧ (Jvm.Cond.and given_1 narrow_1).before args s = true
def lw_Q (_ : Array Value) (s : State) (o : Outcome) (t : State) : Prop := o = .returned (some (.int 1)) ∧ Framed s o t [] 601024 7293034
def lw_Z (below : List Frame) (a : Array Value) (s : State) : State → Prop := fun t => ∃ o, t.status = .running ∧ Ended t below o ∧ lw_Q a s o t
/-- the law's own end, with 1 on the stack, nothing written that was there before, its room as the claim has it -/
theorem lw_ret {p : Program} {l : Launch} {e : Env} {s : State} {m : MethodId} {below : List Frame} {meth : Method} {c : Code} {b : Nat} (hx : p.tables.exec = Jvm.exec) (hb : c.code = code) (hr : meth.sig.returnType = ret) (hlocks : meth.locks = false) {pc : Nat} {H : Heap} {ls : Array Slot} (hdg : decode code pc = .ok (.ireturn, 1)) : W p l e room_1 s m #[Value.ref b] below meth c H [] 601024 7293034 (lw_Z below #[Value.ref b] s) (F0 m pc ls [.int 1]) := by
  intro T hT X
  obtain ⟨fs, hret, hrun, hended, hW, hframe⟩ := X.leave (v := some (.int 1)) (hlocks := hlocks) (fun h => by rw [hr] at h; cases h)
  have hmeth' : T.vm.method? m = some meth := X.method'
  refine ⟨T.setFrames fs, ?_, .returned (some (.int 1)), hrun, hended, rfl, ⟨_, rfl⟩, hW, hframe⟩
  jvm_step X.here [X.here.top, hx, hb, hdg, hmeth', hr, ret, narrow_b1]
  (try refine ⟨rfl, ?_⟩); (try refine ⟨rfl, ?_⟩)
  first | (intro acts; rw [hret _ acts rfl rfl rfl]) | rw [hret _ _ rfl rfl rfl]
  exact Steps.refl _
/-- what holds at the law's entry: the machine, the code, the tables' words (any of lw_tbl by 'hts w (by decide +kernel)'), the script of L ints xs at the cell b, what the Statement gives of the start (any of its parts by flat_of_before) -/
def lw_At (p : Program) (s : State) (m : MethodId) (meth : Method) (c : Code) (b L : Nat) (xs : Nat → Int32) : Prop :=
  p.tables.exec = Jvm.exec ∧ c.code = code ∧ meth.sig.returnType = ret ∧ c.maxLocals = 8 ∧ s.vm.findClass R_law = some m.cls ∧ (∀ w ∈ lw_tbl, w.before #[Value.ref b] s = true) ∧ va_X b L xs s s.heap ∧ b < s.heap.size ∧ meth.locks = false ∧ (Jvm.Cond.and given_1 narrow_1).before #[Value.ref b] s = true
/-- what is left: that class and model answer alike, over the pure heap -/
def LawHolds : Prop := ∀ (xs : Nat → Int32) (L : Nat), L ≤ 2560 → ∃ h' : PH, fL_start xs L [] = some ((), h')
set_option maxRecDepth 100000 in
set_option maxHeartbeats 4000000 in
theorem whole_start_of (hm : LawHolds) {p : Program} {e : Env} {s : State} {m : MethodId} {below : List Frame} {meth : Method} {c : Code} (l : Launch) (hflags : l.flags = flags0) {b L : Nat} {xs : Nat → Int32} (hL : L ≤ 2560) (C0 : lw_At p s m meth c b L xs) (hnm : meth.name = "law") : W p l e room_1 s m #[Value.ref b] below meth c s.heap [] 0 0 (lw_Z below #[Value.ref b] s) (entryFrame m ([Value.ref b] : List Value).toArray 8) := by
  obtain ⟨hx, hb, hr, hml, hown, hts, hX, hbl, hlocks, hgv⟩ := id C0
  have htsW : ∀ w ∈ WL, w.before #[Value.ref b] s = true := fun w hw => hts w (List.mem_filter.mp hw).1
  obtain ⟨D, aC, hK⟩ := st_K htsW
  obtain ⟨g, hge⟩ : ∃ g : WG, g = (D, aC, s.heap.size, 0, true) := ⟨_, rfl⟩
  have hg : p_al g = true := by rw [hge]; rfl
  have hbg : p_b g = s.heap.size := by rw [hge]; rfl
  have hA : ∀ a : Nat, a < s.heap.size → ¬ p_A g a := fun a ha hq => by
    have h1 := hq.1
    omega
  have htr : l.stackTraces = false := by
    unfold Launch.stackTraces
    rw [hflags]
    decide +kernel
  have C : Cx (p, l, e, room_1, s, m, #[Value.ref b], below, meth, c) g cL_law 8 RL (some .boolean) "law" 1000 601024 7293034 :=
    ⟨hx, hb, hml, hown, htsW, by rw [hge]; exact hK _ _ _, hr, hlocks, hnm, ⟨Nat.le_of_ble_eq_true rfl, Nat.le_of_ble_eq_true rfl, Nat.le_refl _, Nat.le_refl _⟩, fun q hq _ => ⟨by rw [hbg]; exact hq, Or.inl hg⟩, st_X hts hgv hA⟩
  obtain ⟨h', hz⟩ := hm xs L hL
  have hl := lv_entry [Value.ref b] (n := 8) (Nat.le_of_ble_eq_true rfl)
  rw [lg_entry_eq]
  have hW0 : p_W g [] s.heap := ⟨fun k q hk => by simp [p_ws] at hk, fun _ => by rw [hbg]; rfl, fun _ => Nat.zero_le _⟩
  refine tL_start (K := (p, l, e, room_1, s, m, #[Value.ref b], below, meth, c)) (xs := xs) (L := L) (b := b) hg hbg htr C ⟨hX, hbl, hA b hbl⟩ (fin := fun _ _ => lw_Z below #[Value.ref b] s) ?_ [] () h' hz s.heap [] _ hW0 va_S.rf hl
  intro g2 kc ks lv h hAA hb2 C2 hkc hks
  refine r_iconst C2 dL_law_1630 k_i1 ?_
  intro r h9 hz9 H locs ls hW hS hl9
  refine va_forget (fun q hq => ?_) (W.widen (k := 601024) (n := 7293034) hkc hks (lw_ret hx hb hr hlocks dL_law_1631))
  have h1 := (hAA (hS.2.2 q hq)).1
  show s.heap.size ≤ q.base
  omega
