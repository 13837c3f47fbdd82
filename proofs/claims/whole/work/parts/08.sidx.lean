/-! String.indexOf(c) on the constant "vtgedsn": the JDK's own methods, walked -/
def sx_B (b : Int32) : Int32 := if (118 : Int32) = b then 0 else if (116 : Int32) = b then 1 else if (103 : Int32) = b then 2 else if (101 : Int32) = b then 3 else if (100 : Int32) = b then 4 else if (115 : Int32) = b then 5 else if (110 : Int32) = b then 6 else -1
def sx_1 (c : Int32) : Int32 := if c < 0 then -1 else if (255 : Int32) < c then -1 else sx_B c.toInt8.toInt32
/-- the place of a sign among vtgedsn -/
def sx_idx (x : Int32) : Int32 := sx_1 ((x.toUInt32 % 65536).toInt32)
def s_X (g : WG) (adK adV : Nat → Nat) (U : State) : Prop := vk_S 1 [7] sK adK adV (p_A g) U U.heap
def CTX {α : Type} (l : Launch) (g : WG) (adK adV : Nat → Nat) (d : Nat) (y : MethodName) (cc : ByteArray) (nL : Nat) (ret : Option FieldType) (em : α → Option Value) (av : List Value) (h : PH) (z : Option (α × PH)) : Prop :=
  ∀ (r : α) (h' : PH), z = some (r, h') → Met l y (Cond.code y cc nL ret :: WL) (p_rm d 0 0) (va_Pc av (fun U => p_U g h U ∧ s_X g adK adV U)) (p_Q g (em r) h') 0 0 (p_A g)
def MK (own : String) (index : Nat) (y : MethodName) (cc : ByteArray) (nL : Nat) (ret : Option FieldType) (n : Nat) : Prop := y.cls = "java/lang/String" ∧ Cond.methodLink own index y ∈ WL ∧ Cond.instanceMethod y ∈ WL ∧ Cond.selects y.cls y y ∈ WL ∧ Cond.initialized y.cls ∈ WL ∧ Cond.code y cc nL ret ∈ WL ∧ (y.cls ≠ "java/lang/invoke/MethodHandle" ∧ y.cls ≠ "java/lang/invoke/VarHandle") ∧ (parseMethodDescriptor y.desc).map (fun d => d.parameters.length) = some n ∧ nL ≤ 45
section SIDX
variable {α : Type} {K : AC} {g : WG} {nL : Nat} {fin : α → PH → State → Prop} {pc : Nat} {lv : List (Nat × Value)} {st : List Value} {h : PH} {z : Option (α × PH)} {adK adV : Nat → Nat}
variable {cc : ByteArray} {own nm : String} {ret : Option FieldType} {d : Nat}
theorem s_blind {av : List Value} : FrameBlind (va_Pc av (fun U => p_U g h U ∧ s_X g adK adV U)) :=
  fun a U fr mk q => ⟨q.1, (p_blind (g := g) (av := av) (h := h) a U fr mk ⟨q.1, q.2.1⟩).2, vk_S.moved (u := U) (U := U.calling fr mk a) (Vm.Alike.refl U.vm) q.2.2⟩
theorem s_st (hE : s_X g adK adV (a_s K)) {H : Heap} {locs : List Loc} (hS : va_S (p_A g) (a_s K).heap H locs) {U : State} (hU : U.heap = H) (hWm : (a_s K).WarmedH U.vm) : s_X g adK adV U := by
  unfold s_X
  rw [hU]
  exact vk_S.moved hWm.alike (vk_S.kept hE hS.2.1)
theorem r_csX {index n d1 : Nat} {y : MethodName} {c1 : ByteArray} {n1 : Nat} {r1 : Option FieldType} {As st0 : List Value} {z1 : Option (Int32 × PH)} {k : Int32 → PH → Option (α × PH)}
    (C : Cx K g cc nL own ret nm d 0 0) (hE : s_X g adK adV (a_s K)) (M : MS own index y c1 n1 r1 n) (hct : CTX K.2.1 g adK adV d1 y c1 n1 r1 em_i As h z1) (hd : d1 + 1 ≤ d) (hn : As.length = n) (hst : st0 = As.reverse ++ st) (hcat : (st.map fun v => v.category).sum ≤ 8) (hdg : decode cc pc = .ok (.invokestatic index, 3))
    (kk : ∀ r h1, VX K g nL 0 0 fin (pc + 3) lv (.int r :: st) h1 (k r h1)) : VX K g nL 0 0 fin pc lv st0 h (h_bd z1 k) := by
  intro r h' hz H locs ls hW hS hl
  obtain ⟨r2, h1, hz1, hk⟩ := h_bd_some hz
  obtain ⟨w1, w2, w4, w5, w6, w7, w8⟩ := M
  have hR : p_le K.2.2.2.1 d 0 0 := C.2.2.2.2.2.2.2.2.2.1
  have ht := C.2.2.2.2.1
  refine a_go (va_runS (As := As) (rest := st) ⟨C.1, C.2.1, C.2.2.1, C.2.2.2.1, ht⟩ (hct r2 h1 hz1) ⟨p_callB C w1 w4 w5 w6 w7 w8 hd, ht _ w2⟩ ⟨s_blind, fun U hU hWm => ⟨rfl, p_st C hW hS hU hWm, s_st hE hS hU hWm⟩⟩ rfl hn hl.1 hst (lv_room hcat) hdg (⟨Nat.zero_le _, Nat.zero_le _⟩)) hS (fun _ h => h) ?_
  intro H1 locs1 hW1 _ _ hS1
  exact kk r2 h1 r h' hk H1 locs1 ls hW1 hS1 hl
theorem r_cvX {index n d1 : Nat} {y : MethodName} {c1 : ByteArray} {n1 : Nat} {r1 : Option FieldType} {As st0 : List Value} {z1 : Option (Int32 × PH)} {k : Int32 → PH → Option (α × PH)}
    (C : Cx K g cc nL own ret nm d 0 0) (hE : s_X g adK adV (a_s K)) (M : MK own index y c1 n1 r1 n) (hct : CTX K.2.1 g adK adV d1 y c1 n1 r1 em_i (.ref (adK 0) :: As) h z1) (hd : d1 + 1 ≤ d) (hn : As.length = n) (hst : st0 = As.reverse ++ .ref (adK 0) :: st) (hcat : (st.map fun v => v.category).sum ≤ 8) (hdg : decode cc pc = .ok (.invokevirtual index, 3))
    (kk : ∀ r h1, VX K g nL 0 0 fin (pc + 3) lv (.int r :: st) h1 (k r h1)) : VX K g nL 0 0 fin pc lv st0 h (h_bd z1 k) := by
  intro r h' hz H locs ls hW hS hl
  obtain ⟨r2, h1, hz1, hk⟩ := h_bd_some hz
  obtain ⟨w0, w1, w2, w3, w4, w5, w6, w7, w8⟩ := M
  have hR : p_le K.2.2.2.1 d 0 0 := C.2.2.2.2.2.2.2.2.2.1
  have ht := C.2.2.2.2.1
  have hrec := vk_recv (i := 0) hE (by decide) hS
  rw [← w0] at hrec
  refine a_go (va_runV (As := As) (rest := st) ⟨C.1, C.2.1, C.2.2.1, C.2.2.2.1, ht⟩ (hct r2 h1 hz1) ⟨p_callB C w1 w4 w5 w6 w7 w8 hd, ht _ w2, ht _ w3⟩ ⟨s_blind, hrec, fun U hU hWm => ⟨rfl, p_st C hW hS hU hWm, s_st hE hS hU hWm⟩⟩ rfl hn hl.1 hst (lv_room hcat) hdg (⟨Nat.zero_le _, Nat.zero_le _⟩)) hS (fun _ h => h) ?_
  intro H1 locs1 hW1 _ _ hS1
  exact kk r2 h1 r h' hk H1 locs1 ls hW1 hS1 hl
theorem r_cvXs {index n d1 : Nat} {y : MethodName} {c1 : ByteArray} {n1 : Nat} {r1 : Option FieldType} {As st0 : List Value} {v : Int32}
    (C : Cx K g cc nL own ret nm d 0 0) (hE : s_X g adK adV (a_s K)) (M : MK own index y c1 n1 r1 n) (hct : CTX K.2.1 g adK adV d1 y c1 n1 r1 em_i (.ref (adK 0) :: As) h (some (v, h))) (hd : d1 + 1 ≤ d) (hn : As.length = n) (hst : st0 = As.reverse ++ .ref (adK 0) :: st) (hcat : (st.map fun v => v.category).sum ≤ 8) (hdg : decode cc pc = .ok (.invokevirtual index, 3))
    (kk : VX K g nL 0 0 fin (pc + 3) lv (.int v :: st) h z) : VX K g nL 0 0 fin pc lv st0 h z := by
  intro r h' hz H locs ls hW hS hl
  obtain ⟨w0, w1, w2, w3, w4, w5, w6, w7, w8⟩ := M
  have hR : p_le K.2.2.2.1 d 0 0 := C.2.2.2.2.2.2.2.2.2.1
  have ht := C.2.2.2.2.1
  have hrec := vk_recv (i := 0) hE (by decide) hS
  rw [← w0] at hrec
  refine a_go (va_runV (As := As) (rest := st) ⟨C.1, C.2.1, C.2.2.1, C.2.2.2.1, ht⟩ (hct v h rfl) ⟨p_callB C w1 w4 w5 w6 w7 w8 hd, ht _ w2, ht _ w3⟩ ⟨s_blind, hrec, fun U hU hWm => ⟨rfl, p_st C hW hS hU hWm, s_st hE hS hU hWm⟩⟩ rfl hn hl.1 hst (lv_room hcat) hdg (⟨Nat.zero_le _, Nat.zero_le _⟩)) hS (fun _ h => h) ?_
  intro H1 locs1 hW1 _ _ hS1
  exact kk r h' hz H1 locs1 ls hW1 hS1 hl
theorem r_aloadA (C : Cx K g cc nL own ret nm d 0 0) {k4 : Fin 4} {a : Nat} (hdg : decode cc pc = .ok (.aload_n k4, 1)) (j : Nat) (hj : lv[j]? = some ((k4 : Nat), .ref a)) (k : VX K g nL 0 0 fin (pc + 1) lv (.ref a :: st) h z) : VX K g nL 0 0 fin pc lv st h z := fun r h' hz H locs ls hW hS hl => lv_aload_n (x := a) C.1 C.2.1 hdg rfl (lv_at hl j hj) (k r h' hz H locs ls hW hS hl)
theorem r_kget (C : Cx K g cc nL own ret nm d 0 0) {o n dd : String} {index q : Nat} {v : Value} (hF : va_OF o n dd v q (p_A g) (a_s K) (a_s K).heap) (hw : Cond.fieldLink own index o n dd ∈ WL) (hdg : decode cc pc = .ok (.getfield index, 3)) (k : VX K g nL 0 0 fin (pc + 3) lv (v :: st) h z) : VX K g nL 0 0 fin pc lv (.ref q :: st) h z := fun r h' hz H locs ls hW hS hl => vk_getf C.1 C.2.1 hF hS C.2.2.2.1 (p_word C hw) (fun _ h => h) hdg (k r h' hz H locs ls hW hS hl)
theorem r_gets (C : Cx K g cc nL own ret nm d 0 0) {index : Nat} (hw : Cond.fieldLink own index "java/lang/String" "COMPACT_STRINGS" "Z" ∈ WL) (hdg : decode cc pc = .ok (.getstatic index, 3)) (k : VX K g nL 0 0 fin (pc + 3) lv (.int 1 :: st) h z) : VX K g nL 0 0 fin pc lv st h z := fun r h' hz H locs ls hW hS hl => va_gets C.1 C.2.1 C.2.2.2.2.2.2.2.2.2.2.2.2.2.1 hS C.2.2.2.1 (p_word C hw) (fun _ h => h) hdg (k r h' hz H locs ls hW hS hl)
theorem r_tlen (C : Cx K g cc nL own ret nm d 0 0) {t N : Nat} {ty : FieldType} {f : Nat → Value} (hT : va_T ty t N f (p_A g) (a_s K) (a_s K).heap) {v : Int32} (hv : Int32.ofNat N = v) (hdg : decode cc pc = .ok (.arraylength, 1)) (k : VX K g nL 0 0 fin (pc + 1) lv (.int v :: st) h z) : VX K g nL 0 0 fin pc lv (.ref t :: st) h z := fun r h' hz H locs ls hW hS hl => va_tlen C.1 C.2.1 hT hS hv hdg (k r h' hz H locs ls hW hS hl)
theorem r_tb (C : Cx K g cc nL own ret nm d 0 0) {t N : Nat} {f : Nat → Value} (hT : va_T .byte t N f (p_A g) (a_s K) (a_s K).heap) {i : Int32} (hin : vp_in i N) {v : Value} (hv : f i.toNatClampNeg = v) (hdg : decode cc pc = .ok (.baload, 1)) (k : VX K g nL 0 0 fin (pc + 1) lv (v :: st) h z) : VX K g nL 0 0 fin pc lv (.int i :: .ref t :: st) h z := fun r h' hz H locs ls hW hS hl => va_tb C.1 C.2.1 hT hS hin hv hdg (k r h' hz H locs ls hW hS hl)
theorem r_ldcS (C : Cx K g cc nL own ret nm d 0 0) {tx : String} {index q : Nat} (hZ : vk_R own index tx q (a_s K)) (hdg : decode cc pc = .ok (.ldc index, 2)) (k : VX K g nL 0 0 fin (pc + 2) lv (.ref q :: st) h z) : VX K g nL 0 0 fin pc lv st h z := fun r h' hz H locs ls hW hS hl => va_ldcS C.1 C.2.1 C.2.2.2.1 hZ hdg (k r h' hz H locs ls hW hS hl)
/-- a step that the condition decides -/
theorem r_ifT {c : Prop} [Decidable c] (hc : c) {a b : Option (α × PH)} (k : VX K g nL 0 0 fin pc lv st h (if c then a else b)) : VX K g nL 0 0 fin pc lv st h a := by rw [if_pos hc] at k; exact k
theorem CTX_of {l : Launch} {y : MethodName} {em : α → Option Value} {av : List Value} {lv0 : List (Nat × Value)} (hy : plainName y.cls = true) (hav : (lg_sl av).length ≤ nL) (hlv : lv_args 0 av = lv0) (ho : y.cls = own) (hm : y.name = nm)
    (body : ∀ K : AC, K.2.1 = l → Cx K g cc nL own ret nm d 0 0 → s_X g adK adV (a_s K) → VX K g nL 0 0 (a_fin K g 0 0 em) 0 lv0 [] h z) : CTX l g adK adV d y cc nL ret em av h z := by
  subst ho
  subst hm
  intro r h' hz
  refine Met.ofW (cc := cc) (maxL := nL) (ret := ret) hy rfl ?_
  intro p e s m args below meth c s₁ B hml hv
  obtain ⟨rfl, hU, hE⟩ := hv
  have hts := atoms_spec (ws := Cond.code y cc nL ret :: WL) B.pre
  have hC : Cx (p, l, e, (headSpec (Cond.code y cc nL ret :: WL) (p_rm d 0 0)).room, s, m, av.toArray, below, meth, c) g cc nL y.cls ret y.name d 0 0 := by
    refine ⟨B.exec, B.bytes, hml, findClass_of_methodNamed B.named, fun w hw => hts w (List.mem_cons_of_mem _ hw), hU.2.1, B.returns, B.notSynchronized, (name_of_methodNamed B.named B.method).1, p_le.rf, fun q hq ha => ⟨?_, Or.inl ha⟩, hU.2.2⟩
    have h1 := hU.1.2.1 ha
    have h2 : (a_s (p, l, e, (headSpec (Cond.code y cc nL ret :: WL) (p_rm d 0 0)).room, s, m, av.toArray, below, meth, c)).heap.size = s.heap.size := rfl
    omega
  have hl := lv_entry av (n := nL) hav
  rw [hlv] at hl
  rw [lg_entry_eq]
  exact body _ rfl hC hE r h' hz s.heap [] _ hU.1 va_S.rf hl
end SIDX
theorem q_mt0 {w : Cond} {i : Nat} (h : (k2_sels lw_privs)[i]? = some w) (hw : p_okw w = true) : w ∈ WL := p_mem (List.mem_append_left _ (List.mem_of_getElem? h)) hw
theorem q_mt1 {w : Cond} {i : Nat} (h : tables_1_1[i]? = some w) (hw : p_okw w = true) : w ∈ WL := p_mem (List.mem_append_right _ (List.mem_append_left _ (List.mem_of_getElem? h))) hw
theorem q_mt2 {w : Cond} {i : Nat} (h : tables_1_2[i]? = some w) (hw : p_okw w = true) : w ∈ WL := p_mem (List.mem_append_right _ (List.mem_append_right _ (List.mem_append_left _ (List.mem_of_getElem? h)))) hw
theorem q_mt3 {w : Cond} {i : Nat} (h : tables_1_3[i]? = some w) (hw : p_okw w = true) : w ∈ WL := p_mem (List.mem_append_right _ (List.mem_append_right _ (List.mem_append_right _ (List.mem_append_left _ (List.mem_of_getElem? h))))) hw
theorem q_mt4 {w : Cond} {i : Nat} (h : tables_1_4[i]? = some w) (hw : p_okw w = true) : w ∈ WL := p_mem (List.mem_append_right _ (List.mem_append_right _ (List.mem_append_right _ (List.mem_append_right _ (List.mem_append_left _ (List.mem_of_getElem? h)))))) hw
theorem q_mt5 {w : Cond} {i : Nat} (h : tables_1_5[i]? = some w) (hw : p_okw w = true) : w ∈ WL := p_mem (List.mem_append_right _ (List.mem_append_right _ (List.mem_append_right _ (List.mem_append_right _ (List.mem_append_right _ (List.mem_append_left _ (List.mem_of_getElem? h))))))) hw
theorem q_mt6 {w : Cond} {i : Nat} (h : tables_1_6[i]? = some w) (hw : p_okw w = true) : w ∈ WL := p_mem (List.mem_append_right _ (List.mem_append_right _ (List.mem_append_right _ (List.mem_append_right _ (List.mem_append_right _ (List.mem_append_right _ (List.mem_append_left _ (List.mem_of_getElem? h)))))))) hw
theorem q_mt7 {w : Cond} {i : Nat} (h : tables_1_7[i]? = some w) (hw : p_okw w = true) : w ∈ WL := p_mem (List.mem_append_right _ (List.mem_append_right _ (List.mem_append_right _ (List.mem_append_right _ (List.mem_append_right _ (List.mem_append_right _ (List.mem_append_right _ (List.mem_append_left _ (List.mem_of_getElem? h))))))))) hw
theorem q_mt8 {w : Cond} {i : Nat} (h : tables_1_8[i]? = some w) (hw : p_okw w = true) : w ∈ WL := p_mem (List.mem_append_right _ (List.mem_append_right _ (List.mem_append_right _ (List.mem_append_right _ (List.mem_append_right _ (List.mem_append_right _ (List.mem_append_right _ (List.mem_append_right _ (List.mem_append_left _ (List.mem_of_getElem? h)))))))))) hw
theorem q_mt9 {w : Cond} {i : Nat} (h : tables_1_9[i]? = some w) (hw : p_okw w = true) : w ∈ WL := p_mem (List.mem_append_right _ (List.mem_append_right _ (List.mem_append_right _ (List.mem_append_right _ (List.mem_append_right _ (List.mem_append_right _ (List.mem_append_right _ (List.mem_append_right _ (List.mem_append_right _ (List.mem_of_getElem? h)))))))))) hw
theorem ks_i0 : Int32.ofInt (0) = (0 : Int32) := by decide
theorem ks_s255 : (Int16.ofInt (255)).toInt32 = (255 : Int32) := by decide
theorem ks_i1 : Int32.ofInt (1) = (1 : Int32) := by decide
theorem ks_im1 : Int32.ofInt (-1) = (-1 : Int32) := by decide
set_option maxRecDepth 100000 in
theorem n_510 : Cond.methodLink RX6 78 yJ0_indexOf_0f7a4 ∈ WL := q_mt2 (i := 173) rfl rfl
set_option maxRecDepth 100000 in
theorem n_511 : Cond.instanceMethod yJ0_indexOf_0f7a4 ∈ WL := q_mt2 (i := 174) rfl rfl
set_option maxRecDepth 100000 in
theorem n_512 : Cond.selects RJ0 yJ0_indexOf_0f7a4 yJ0_indexOf_0f7a4 ∈ WL := q_mt2 (i := 175) rfl rfl
set_option maxRecDepth 100000 in
theorem n_111 : Cond.initialized RJ0 ∈ WL := q_mt1 (i := 14) rfl rfl
set_option maxRecDepth 100000 in
theorem n_513 : Cond.code yJ0_indexOf_0f7a4 cJ0_indexOf_0f7a4 2 (some .int) ∈ WL := q_mt2 (i := 176) rfl rfl
set_option maxRecDepth 100000 in
theorem wks_X6_78 : MK RX6 78 yJ0_indexOf_0f7a4 cJ0_indexOf_0f7a4 2 (some .int) 1 := ⟨rfl, n_510, n_511, n_512, n_111, n_513, by decide +kernel, by decide +kernel, by decide⟩
set_option maxRecDepth 100000 in
theorem n_514 : Cond.methodLink RJ0 633 yJ0_indexOf_7cf53 ∈ WL := q_mt2 (i := 177) rfl rfl
set_option maxRecDepth 100000 in
theorem n_515 : Cond.instanceMethod yJ0_indexOf_7cf53 ∈ WL := q_mt2 (i := 178) rfl rfl
set_option maxRecDepth 100000 in
theorem n_516 : Cond.selects RJ0 yJ0_indexOf_7cf53 yJ0_indexOf_7cf53 ∈ WL := q_mt2 (i := 179) rfl rfl
set_option maxRecDepth 100000 in
theorem n_517 : Cond.code yJ0_indexOf_7cf53 cJ0_indexOf_7cf53 3 (some .int) ∈ WL := q_mt2 (i := 180) rfl rfl
set_option maxRecDepth 100000 in
theorem wks_J0_633 : MK RJ0 633 yJ0_indexOf_7cf53 cJ0_indexOf_7cf53 3 (some .int) 2 := ⟨rfl, n_514, n_515, n_516, n_111, n_517, by decide +kernel, by decide +kernel, by decide⟩
set_option maxRecDepth 100000 in
theorem n_518 : Cond.methodLink RJ0 492 yJ0_isLatin1_aae02 ∈ WL := q_mt2 (i := 181) rfl rfl
set_option maxRecDepth 100000 in
theorem n_519 : Cond.instanceMethod yJ0_isLatin1_aae02 ∈ WL := q_mt2 (i := 182) rfl rfl
set_option maxRecDepth 100000 in
theorem n_520 : Cond.selects RJ0 yJ0_isLatin1_aae02 yJ0_isLatin1_aae02 ∈ WL := q_mt2 (i := 183) rfl rfl
set_option maxRecDepth 100000 in
theorem n_521 : Cond.code yJ0_isLatin1_aae02 cJ0_isLatin1_aae02 1 (some .boolean) ∈ WL := q_mt2 (i := 184) rfl rfl
set_option maxRecDepth 100000 in
theorem wks_J0_492 : MK RJ0 492 yJ0_isLatin1_aae02 cJ0_isLatin1_aae02 1 (some .boolean) 0 := ⟨rfl, n_518, n_519, n_520, n_111, n_521, by decide +kernel, by decide +kernel, by decide⟩
set_option maxRecDepth 100000 in
theorem n_524 : Cond.methodLink RJ0 505 yJ0_length_8abf5 ∈ WL := q_mt2 (i := 187) rfl rfl
set_option maxRecDepth 100000 in
theorem n_525 : Cond.instanceMethod yJ0_length_8abf5 ∈ WL := q_mt2 (i := 188) rfl rfl
set_option maxRecDepth 100000 in
theorem n_526 : Cond.selects RJ0 yJ0_length_8abf5 yJ0_length_8abf5 ∈ WL := q_mt2 (i := 189) rfl rfl
set_option maxRecDepth 100000 in
theorem n_527 : Cond.code yJ0_length_8abf5 cJ0_length_8abf5 1 (some .int) ∈ WL := q_mt2 (i := 190) rfl rfl
set_option maxRecDepth 100000 in
theorem wks_J0_505 : MK RJ0 505 yJ0_length_8abf5 cJ0_length_8abf5 1 (some .int) 0 := ⟨rfl, n_524, n_525, n_526, n_111, n_527, by decide +kernel, by decide +kernel, by decide⟩
set_option maxRecDepth 100000 in
theorem n_528 : Cond.methodLink RJ0 335 yJ0_coder_7d493 ∈ WL := q_mt2 (i := 191) rfl rfl
set_option maxRecDepth 100000 in
theorem n_529 : Cond.instanceMethod yJ0_coder_7d493 ∈ WL := q_mt2 (i := 192) rfl rfl
set_option maxRecDepth 100000 in
theorem n_530 : Cond.selects RJ0 yJ0_coder_7d493 yJ0_coder_7d493 ∈ WL := q_mt2 (i := 193) rfl rfl
set_option maxRecDepth 100000 in
theorem n_531 : Cond.code yJ0_coder_7d493 cJ0_coder_7d493 1 (some .byte) ∈ WL := q_mt2 (i := 194) rfl rfl
set_option maxRecDepth 100000 in
theorem wks_J0_335 : MK RJ0 335 yJ0_coder_7d493 cJ0_coder_7d493 1 (some .byte) 0 := ⟨rfl, n_528, n_529, n_530, n_111, n_531, by decide +kernel, by decide +kernel, by decide⟩
set_option maxRecDepth 100000 in
theorem n_532 : Cond.methodLink RJ0 637 yJ1_indexOf_4cfef ∈ WL := q_mt2 (i := 195) rfl rfl
set_option maxRecDepth 100000 in
theorem n_533 : Cond.static yJ1_indexOf_4cfef ∈ WL := q_mt2 (i := 196) rfl rfl
set_option maxRecDepth 100000 in
theorem n_112 : Cond.initialized RJ1 ∈ WL := q_mt1 (i := 15) rfl rfl
set_option maxRecDepth 100000 in
theorem n_534 : Cond.code yJ1_indexOf_4cfef cJ1_indexOf_4cfef 4 (some .int) ∈ WL := q_mt2 (i := 197) rfl rfl
set_option maxRecDepth 100000 in
theorem wss_J0_637 : MS RJ0 637 yJ1_indexOf_4cfef cJ1_indexOf_4cfef 4 (some .int) 4 := ⟨n_532, n_533, n_112, n_534, by decide +kernel, by decide +kernel, by decide⟩
set_option maxRecDepth 100000 in
theorem n_544 : Cond.methodLink RJ1 95 yJ1_indexOfChar_4cfef ∈ WL := q_mt2 (i := 207) rfl rfl
set_option maxRecDepth 100000 in
theorem n_545 : Cond.static yJ1_indexOfChar_4cfef ∈ WL := q_mt2 (i := 208) rfl rfl
set_option maxRecDepth 100000 in
theorem n_546 : Cond.code yJ1_indexOfChar_4cfef cJ1_indexOfChar_4cfef 6 (some .int) ∈ WL := q_mt2 (i := 209) rfl rfl
set_option maxRecDepth 100000 in
theorem wss_J1_95 : MS RJ1 95 yJ1_indexOfChar_4cfef cJ1_indexOfChar_4cfef 6 (some .int) 4 := ⟨n_544, n_545, n_112, n_546, by decide +kernel, by decide +kernel, by decide⟩
set_option maxRecDepth 100000 in
theorem n_535 : Cond.methodLink RJ1 88 yJ1_canEncode_9a6ad ∈ WL := q_mt2 (i := 198) rfl rfl
set_option maxRecDepth 100000 in
theorem n_536 : Cond.static yJ1_canEncode_9a6ad ∈ WL := q_mt2 (i := 199) rfl rfl
set_option maxRecDepth 100000 in
theorem n_537 : Cond.code yJ1_canEncode_9a6ad cJ1_canEncode_9a6ad 1 (some .boolean) ∈ WL := q_mt2 (i := 200) rfl rfl
set_option maxRecDepth 100000 in
theorem wss_J1_88 : MS RJ1 88 yJ1_canEncode_9a6ad cJ1_canEncode_9a6ad 1 (some .boolean) 1 := ⟨n_535, n_536, n_112, n_537, by decide +kernel, by decide +kernel, by decide⟩
set_option maxRecDepth 100000 in
theorem n_538 : Cond.methodLink RJ1 92 Lib.Math.max.name ∈ WL := q_mt2 (i := 201) rfl rfl
set_option maxRecDepth 100000 in
theorem n_539 : Cond.static Lib.Math.max.name ∈ WL := q_mt2 (i := 202) rfl rfl
set_option maxRecDepth 100000 in
theorem n_113 : Cond.initialized "java/lang/Math" ∈ WL := q_mt1 (i := 16) rfl rfl
set_option maxRecDepth 100000 in
theorem n_540 : Cond.code Lib.Math.max.name Lib.Math.max.code 2 (some .int) ∈ WL := q_mt2 (i := 203) rfl rfl
set_option maxRecDepth 100000 in
theorem wms_J1_92 : MM RJ1 92 Lib.Math.max.name Lib.Math.max.code 2 := ⟨n_538, n_539, n_113, n_540⟩
set_option maxRecDepth 100000 in
theorem n_541 : Cond.methodLink RJ1 38 Lib.Math.min.name ∈ WL := q_mt2 (i := 204) rfl rfl
set_option maxRecDepth 100000 in
theorem n_542 : Cond.static Lib.Math.min.name ∈ WL := q_mt2 (i := 205) rfl rfl
set_option maxRecDepth 100000 in
theorem n_543 : Cond.code Lib.Math.min.name Lib.Math.min.code 2 (some .int) ∈ WL := q_mt2 (i := 206) rfl rfl
set_option maxRecDepth 100000 in
theorem wms_J1_38 : MM RJ1 38 Lib.Math.min.name Lib.Math.min.code 2 := ⟨n_541, n_542, n_113, n_543⟩
set_option maxRecDepth 100000 in
theorem n_522 : Cond.fieldLink RJ0 38 "java/lang/String" "COMPACT_STRINGS" "Z" ∈ WL := q_mt2 (i := 185) rfl rfl
set_option maxRecDepth 100000 in
theorem n_2071 : Cond.fieldLink RJ0 15 "java/lang/String" "coder" "B" ∈ WL := q_mt9 (i := 54) rfl rfl
set_option maxRecDepth 100000 in
theorem n_2072 : Cond.fieldLink RJ0 9 "java/lang/String" "value" "[B" ∈ WL := q_mt9 (i := 55) rfl rfl
def fJ1_canEncode_9a6ad (i0 : Int32) (h : PH) : Option (Int32 × PH) := if i0 < 0 then (h_z (0 : Int32) (some ((0 : Int32), h))) else (if (255 : Int32) < i0 then (h_z (0 : Int32) (some ((0 : Int32), h))) else (h_z (1 : Int32) (some ((1 : Int32), h))))
set_option maxRecDepth 100000 in
set_option maxHeartbeats 4000000 in
theorem tcJ1_canEncode_9a6ad (l : Launch) (g : WG) (hg : p_al g = false) (i0 : Int32) (h : PH) : CT l g 1 0 0 yJ1_canEncode_9a6ad cJ1_canEncode_9a6ad 1 (some .boolean) em_i [.int i0] h (fJ1_canEncode_9a6ad i0 h) := by
  refine CT_of (own := RJ1) (nm := "canEncode") (by decide +kernel) (Nat.le_of_ble_eq_true rfl) rfl rfl rfl ⟨rfl, rfl⟩ (fun K hK C => ?_)
  subst hK
  unfold fJ1_canEncode_9a6ad
  show VX K g _ _ _ _ _ [(0, .int i0)] _ _ _
  refine r_iload_n C dJ1_canEncode_9a6ad_0 0 rfl ?_
  refine r_if_lt (tgt := 15) C dJ1_canEncode_9a6ad_1 (by decide) ?_ ?_
  · refine r_iconst C dJ1_canEncode_9a6ad_15 ks_i0 ?_
    exact r_zret C dJ1_canEncode_9a6ad_16
  · refine r_iload_n C dJ1_canEncode_9a6ad_4 0 rfl ?_
    refine r_sipush C dJ1_canEncode_9a6ad_5 ks_s255 ?_
    refine r_icmp_gt (tgt := 15) C dJ1_canEncode_9a6ad_8 (by decide) ?_ ?_
    · refine r_iconst C dJ1_canEncode_9a6ad_15 ks_i0 ?_
      exact r_zret C dJ1_canEncode_9a6ad_16
    · refine r_iconst C dJ1_canEncode_9a6ad_11 ks_i1 ?_
      refine r_goto (tgt := 16) C dJ1_canEncode_9a6ad_12 (by decide) ?_
      exact r_zret C dJ1_canEncode_9a6ad_16
section SIDX2
variable {α : Type} {K : AC} {g : WG} {nL : Nat} {fin : α → PH → State → Prop} {pc : Nat} {lv : List (Nat × Value)} {st : List Value} {h : PH} {z : Option (α × PH)}
variable {cc : ByteArray} {own nm : String} {ret : Option FieldType} {d : Nat}
theorem r_iincK (C : Cx K g cc nL own ret nm d 0 0) {i : Nat} {n : Int} {x y : Int32} {lv' : List (Nat × Value)} (hdg : decode cc pc = .ok (.iinc i n, 3)) (j : Nat) (hj : lv[j]? = some (i, .int x)) (hv : x + Int32.ofInt n = y) (hn : i < nL) (hlv : l_s1 lv i (.int y) = lv') (k : VX K g nL 0 0 fin (pc + 3) lv' st h z) : VX K g nL 0 0 fin pc lv st h z := fun r h' hz H locs ls hW hS hl => lv_iinc C.1 C.2.1 hdg hl hj hv hn hlv (fun ls hl => k r h' hz H locs ls hW hS hl)
theorem r_bret (C : Cx K g cc nL own (some .byte) nm d 0 0) {x : Int32} (hx : narrow .byte (.int x) = .int x) (hdg : decode cc pc = .ok (.ireturn, 1)) : VX K g nL 0 0 (a_fin K g 0 0 em_i) pc lv [.int x] h (some (x, h)) := by
  intro r h' hz H locs ls hW hS hl
  cases hz
  exact W.zret C.1 C.2.1 C.2.2.2.2.2.2.1 hx (p_end C hW hS _) hS.2.2 hdg C.2.2.2.2.2.2.2.1
theorem VX.eq {z' : Option (α × PH)} (e : z = z') (k : VX K g nL 0 0 fin pc lv st h z') : VX K g nL 0 0 fin pc lv st h z := by rw [e]; exact k
end SIDX2
set_option maxRecDepth 100000 in
set_option maxHeartbeats 4000000 in
theorem sc_coder (l : Launch) (g : WG) (hg : p_al g = false) (adK adV : Nat → Nat) (h : PH) : CTX l g adK adV 1 yJ0_coder_7d493 cJ0_coder_7d493 1 (some .byte) em_i [.ref (adK 0)] h (some (0, h)) := by
  refine CTX_of (own := RJ0) (nm := "coder") (by decide +kernel) (Nat.le_of_ble_eq_true rfl) rfl rfl rfl (fun K hK C hE => ?_)
  subst hK
  obtain ⟨hO, hco, hva, hT⟩ := hE.1 0 (by decide)
  have hT : va_T FieldType.byte (adV 0) 7 (fun j => Value.int ((sK.getD 0 []).getD j 0)) (p_A g) (a_s K) (a_s K).heap := hT
  show VX K g _ _ _ _ _ [(0, .ref (adK 0))] _ _ _
  refine VX.eq (show _ = if (1 : Int32) = 0 then none else some ((0 : Int32), h) from (if_neg (by decide)).symm) ?_
  refine r_gets C n_522 dJ0_coder_7d493_0 ?_
  refine r_if_eq (tgt := 13) C dJ0_coder_7d493_3 (by decide) r_none ?_
  refine r_aloadA C dJ0_coder_7d493_6 0 rfl ?_
  refine r_kget C hco n_2071 dJ0_coder_7d493_7 ?_
  refine r_goto (tgt := 14) C dJ0_coder_7d493_10 (by decide) ?_
  exact r_bret C rfl dJ0_coder_7d493_14
set_option maxRecDepth 100000 in
set_option maxHeartbeats 4000000 in
theorem sc_latin (l : Launch) (g : WG) (hg : p_al g = false) (adK adV : Nat → Nat) (h : PH) : CTX l g adK adV 1 yJ0_isLatin1_aae02 cJ0_isLatin1_aae02 1 (some .boolean) em_i [.ref (adK 0)] h (some (1, h)) := by
  refine CTX_of (own := RJ0) (nm := "isLatin1") (by decide +kernel) (Nat.le_of_ble_eq_true rfl) rfl rfl rfl (fun K hK C hE => ?_)
  subst hK
  obtain ⟨hO, hco, hva, hT⟩ := hE.1 0 (by decide)
  have hT : va_T FieldType.byte (adV 0) 7 (fun j => Value.int ((sK.getD 0 []).getD j 0)) (p_A g) (a_s K) (a_s K).heap := hT
  show VX K g _ _ _ _ _ [(0, .ref (adK 0))] _ _ _
  refine VX.eq (show _ = if (1 : Int32) = 0 then none else (if (0 : Int32) = 0 then h_z 1 (some ((1 : Int32), h)) else none) from rfl) ?_
  refine r_gets C n_522 dJ0_isLatin1_aae02_0 ?_
  refine r_if_eq (tgt := 17) C dJ0_isLatin1_aae02_3 (by decide) r_none ?_
  refine r_aloadA C dJ0_isLatin1_aae02_6 0 rfl ?_
  refine r_kget C hco n_2071 dJ0_isLatin1_aae02_7 ?_
  refine r_if_ne (tgt := 17) C dJ0_isLatin1_aae02_10 (by decide) r_none ?_
  refine r_iconst C dJ0_isLatin1_aae02_13 ks_i1 ?_
  refine r_goto (tgt := 18) C dJ0_isLatin1_aae02_14 (by decide) ?_
  exact r_zret C dJ0_isLatin1_aae02_18
set_option maxRecDepth 100000 in
set_option maxHeartbeats 4000000 in
theorem sc_len (l : Launch) (g : WG) (hg : p_al g = false) (adK adV : Nat → Nat) (h : PH) : CTX l g adK adV 2 yJ0_length_8abf5 cJ0_length_8abf5 1 (some .int) em_i [.ref (adK 0)] h (some (7, h)) := by
  refine CTX_of (own := RJ0) (nm := "length") (by decide +kernel) (Nat.le_of_ble_eq_true rfl) rfl rfl rfl (fun K hK C hE => ?_)
  subst hK
  obtain ⟨hO, hco, hva, hT⟩ := hE.1 0 (by decide)
  have hT : va_T FieldType.byte (adV 0) 7 (fun j => Value.int ((sK.getD 0 []).getD j 0)) (p_A g) (a_s K) (a_s K).heap := hT
  show VX K g _ _ _ _ _ [(0, .ref (adK 0))] _ _ _
  refine VX.eq (show _ = h_bd (some ((0 : Int32), h)) fun c h1 => letE ((7 : Int32) >>> (c &&& 31)) fun n => some (n, h1) from by show some ((7 : Int32), h) = some ((7 : Int32) >>> ((0 : Int32) &&& 31), h); rw [show (7 : Int32) >>> ((0 : Int32) &&& 31) = 7 from by decide]) ?_
  refine r_aloadA C dJ0_length_8abf5_0 0 rfl ?_
  refine r_kget C hva n_2072 dJ0_length_8abf5_1 ?_
  refine r_tlen C hT (v := 7) rfl dJ0_length_8abf5_4 ?_
  refine r_aloadA C dJ0_length_8abf5_5 0 rfl ?_
  refine r_cvX (As := []) (st := [.int 7]) C hE wks_J0_335 (sc_coder K.2.1 g hg adK adV h) (Nat.le_of_ble_eq_true rfl) rfl rfl (Nat.le_of_ble_eq_true rfl) dJ0_length_8abf5_6 (fun c h1 => ?_)
  refine r_ishr C dJ0_length_8abf5_9 ?_
  refine r_topi (fun n => ?_)
  exact r_iret C dJ0_length_8abf5_10
theorem sx_eq (b : Int32) (h : PH) : some (sx_B b, h) = (if (7 : Int32) ≤ 0 then none else (if (118 : Int32) = b then some ((0 : Int32), h) else (if (7 : Int32) ≤ 1 then none else (if (116 : Int32) = b then some ((1 : Int32), h) else (if (7 : Int32) ≤ 2 then none else (if (103 : Int32) = b then some ((2 : Int32), h) else (if (7 : Int32) ≤ 3 then none else (if (101 : Int32) = b then some ((3 : Int32), h) else (if (7 : Int32) ≤ 4 then none else (if (100 : Int32) = b then some ((4 : Int32), h) else (if (7 : Int32) ≤ 5 then none else (if (115 : Int32) = b then some ((5 : Int32), h) else (if (7 : Int32) ≤ 6 then none else (if (110 : Int32) = b then some ((6 : Int32), h) else (if (7 : Int32) ≤ 7 then some ((-1 : Int32), h) else none))))))))))))))) := by
  unfold sx_B
  rw [if_neg (by decide : ¬ (7 : Int32) ≤ 0)]
  by_cases e0 : (118 : Int32) = b
  · rw [if_pos e0, if_pos e0]
  rw [if_neg e0, if_neg e0]
  rw [if_neg (by decide : ¬ (7 : Int32) ≤ 1)]
  by_cases e1 : (116 : Int32) = b
  · rw [if_pos e1, if_pos e1]
  rw [if_neg e1, if_neg e1]
  rw [if_neg (by decide : ¬ (7 : Int32) ≤ 2)]
  by_cases e2 : (103 : Int32) = b
  · rw [if_pos e2, if_pos e2]
  rw [if_neg e2, if_neg e2]
  rw [if_neg (by decide : ¬ (7 : Int32) ≤ 3)]
  by_cases e3 : (101 : Int32) = b
  · rw [if_pos e3, if_pos e3]
  rw [if_neg e3, if_neg e3]
  rw [if_neg (by decide : ¬ (7 : Int32) ≤ 4)]
  by_cases e4 : (100 : Int32) = b
  · rw [if_pos e4, if_pos e4]
  rw [if_neg e4, if_neg e4]
  rw [if_neg (by decide : ¬ (7 : Int32) ≤ 5)]
  by_cases e5 : (115 : Int32) = b
  · rw [if_pos e5, if_pos e5]
  rw [if_neg e5, if_neg e5]
  rw [if_neg (by decide : ¬ (7 : Int32) ≤ 6)]
  by_cases e6 : (110 : Int32) = b
  · rw [if_pos e6, if_pos e6]
  rw [if_neg e6, if_neg e6]
  rw [if_pos (by decide)]
set_option maxRecDepth 100000 in
set_option maxHeartbeats 4000000 in
theorem sc_ixc (l : Launch) (g : WG) (hg : p_al g = false) (adK adV : Nat → Nat) (c : Int32) (h : PH) : CTX l g adK adV 1 yJ1_indexOfChar_4cfef cJ1_indexOfChar_4cfef 6 (some .int) em_i [.ref (adV 0), .int c, .int 0, .int 7] h (some (sx_B c.toInt8.toInt32, h)) := by
  refine CTX_of (own := RJ1) (nm := "indexOfChar") (by decide +kernel) (Nat.le_of_ble_eq_true rfl) rfl rfl rfl (fun K hK C hE => ?_)
  subst hK
  obtain ⟨hO, hco, hva, hT⟩ := hE.1 0 (by decide)
  have hT : va_T FieldType.byte (adV 0) 7 (fun j => Value.int ((sK.getD 0 []).getD j 0)) (p_A g) (a_s K) (a_s K).heap := hT
  show VX K g _ _ _ _ _ [(0, .ref (adV 0)), (1, .int c), (2, .int 0), (3, .int 7)] _ _ _
  refine r_iload_n C dJ1_indexOfChar_4cfef_0 1 rfl ?_
  refine r_i2b C dJ1_indexOfChar_4cfef_1 ?_
  generalize c.toInt8.toInt32 = b
  refine r_istore (lv9 := [(4, .int b), (0, .ref (adV 0)), (1, .int c), (2, .int 0), (3, .int 7)]) C dJ1_indexOfChar_4cfef_2 (by decide) rfl ?_
  refine r_iload_n C dJ1_indexOfChar_4cfef_4 3 rfl ?_
  refine r_istore (lv9 := [(5, .int 0), (4, .int b), (0, .ref (adV 0)), (1, .int c), (2, .int 0), (3, .int 7)]) C dJ1_indexOfChar_4cfef_5 (by decide) rfl ?_
  refine VX.eq (sx_eq b h) ?_
  refine r_iload C dJ1_indexOfChar_4cfef_7 0 rfl ?_
  refine r_iload_n C dJ1_indexOfChar_4cfef_9 5 rfl ?_
  refine r_icmp_ge (tgt := 31) C dJ1_indexOfChar_4cfef_10 (by decide) r_none ?_
  refine r_aloadA C dJ1_indexOfChar_4cfef_13 2 rfl ?_
  refine r_iload C dJ1_indexOfChar_4cfef_14 0 rfl ?_
  refine r_tb C hT (show ¬ ((0 : Int32) < 0 ∨ 7 ≤ (0 : Int32).toNatClampNeg) from by decide) (v := .int 118) rfl dJ1_indexOfChar_4cfef_16 ?_
  refine r_iload C dJ1_indexOfChar_4cfef_17 1 rfl ?_
  refine r_icmp_ne (tgt := 25) C dJ1_indexOfChar_4cfef_19 (by decide) ?_ (by refine r_iload C dJ1_indexOfChar_4cfef_22 0 rfl ?_; exact r_iret C dJ1_indexOfChar_4cfef_24)
  refine r_iincK (lv' := [(5, .int 1), (4, .int b), (0, .ref (adV 0)), (1, .int c), (2, .int 0), (3, .int 7)]) (y := 1) C dJ1_indexOfChar_4cfef_25 0 rfl (by decide) (by decide) rfl ?_
  refine r_goto (tgt := 7) C dJ1_indexOfChar_4cfef_28 (by decide) ?_
  refine r_iload C dJ1_indexOfChar_4cfef_7 0 rfl ?_
  refine r_iload_n C dJ1_indexOfChar_4cfef_9 5 rfl ?_
  refine r_icmp_ge (tgt := 31) C dJ1_indexOfChar_4cfef_10 (by decide) r_none ?_
  refine r_aloadA C dJ1_indexOfChar_4cfef_13 2 rfl ?_
  refine r_iload C dJ1_indexOfChar_4cfef_14 0 rfl ?_
  refine r_tb C hT (show ¬ ((1 : Int32) < 0 ∨ 7 ≤ (1 : Int32).toNatClampNeg) from by decide) (v := .int 116) rfl dJ1_indexOfChar_4cfef_16 ?_
  refine r_iload C dJ1_indexOfChar_4cfef_17 1 rfl ?_
  refine r_icmp_ne (tgt := 25) C dJ1_indexOfChar_4cfef_19 (by decide) ?_ (by refine r_iload C dJ1_indexOfChar_4cfef_22 0 rfl ?_; exact r_iret C dJ1_indexOfChar_4cfef_24)
  refine r_iincK (lv' := [(5, .int 2), (4, .int b), (0, .ref (adV 0)), (1, .int c), (2, .int 0), (3, .int 7)]) (y := 2) C dJ1_indexOfChar_4cfef_25 0 rfl (by decide) (by decide) rfl ?_
  refine r_goto (tgt := 7) C dJ1_indexOfChar_4cfef_28 (by decide) ?_
  refine r_iload C dJ1_indexOfChar_4cfef_7 0 rfl ?_
  refine r_iload_n C dJ1_indexOfChar_4cfef_9 5 rfl ?_
  refine r_icmp_ge (tgt := 31) C dJ1_indexOfChar_4cfef_10 (by decide) r_none ?_
  refine r_aloadA C dJ1_indexOfChar_4cfef_13 2 rfl ?_
  refine r_iload C dJ1_indexOfChar_4cfef_14 0 rfl ?_
  refine r_tb C hT (show ¬ ((2 : Int32) < 0 ∨ 7 ≤ (2 : Int32).toNatClampNeg) from by decide) (v := .int 103) rfl dJ1_indexOfChar_4cfef_16 ?_
  refine r_iload C dJ1_indexOfChar_4cfef_17 1 rfl ?_
  refine r_icmp_ne (tgt := 25) C dJ1_indexOfChar_4cfef_19 (by decide) ?_ (by refine r_iload C dJ1_indexOfChar_4cfef_22 0 rfl ?_; exact r_iret C dJ1_indexOfChar_4cfef_24)
  refine r_iincK (lv' := [(5, .int 3), (4, .int b), (0, .ref (adV 0)), (1, .int c), (2, .int 0), (3, .int 7)]) (y := 3) C dJ1_indexOfChar_4cfef_25 0 rfl (by decide) (by decide) rfl ?_
  refine r_goto (tgt := 7) C dJ1_indexOfChar_4cfef_28 (by decide) ?_
  refine r_iload C dJ1_indexOfChar_4cfef_7 0 rfl ?_
  refine r_iload_n C dJ1_indexOfChar_4cfef_9 5 rfl ?_
  refine r_icmp_ge (tgt := 31) C dJ1_indexOfChar_4cfef_10 (by decide) r_none ?_
  refine r_aloadA C dJ1_indexOfChar_4cfef_13 2 rfl ?_
  refine r_iload C dJ1_indexOfChar_4cfef_14 0 rfl ?_
  refine r_tb C hT (show ¬ ((3 : Int32) < 0 ∨ 7 ≤ (3 : Int32).toNatClampNeg) from by decide) (v := .int 101) rfl dJ1_indexOfChar_4cfef_16 ?_
  refine r_iload C dJ1_indexOfChar_4cfef_17 1 rfl ?_
  refine r_icmp_ne (tgt := 25) C dJ1_indexOfChar_4cfef_19 (by decide) ?_ (by refine r_iload C dJ1_indexOfChar_4cfef_22 0 rfl ?_; exact r_iret C dJ1_indexOfChar_4cfef_24)
  refine r_iincK (lv' := [(5, .int 4), (4, .int b), (0, .ref (adV 0)), (1, .int c), (2, .int 0), (3, .int 7)]) (y := 4) C dJ1_indexOfChar_4cfef_25 0 rfl (by decide) (by decide) rfl ?_
  refine r_goto (tgt := 7) C dJ1_indexOfChar_4cfef_28 (by decide) ?_
  refine r_iload C dJ1_indexOfChar_4cfef_7 0 rfl ?_
  refine r_iload_n C dJ1_indexOfChar_4cfef_9 5 rfl ?_
  refine r_icmp_ge (tgt := 31) C dJ1_indexOfChar_4cfef_10 (by decide) r_none ?_
  refine r_aloadA C dJ1_indexOfChar_4cfef_13 2 rfl ?_
  refine r_iload C dJ1_indexOfChar_4cfef_14 0 rfl ?_
  refine r_tb C hT (show ¬ ((4 : Int32) < 0 ∨ 7 ≤ (4 : Int32).toNatClampNeg) from by decide) (v := .int 100) rfl dJ1_indexOfChar_4cfef_16 ?_
  refine r_iload C dJ1_indexOfChar_4cfef_17 1 rfl ?_
  refine r_icmp_ne (tgt := 25) C dJ1_indexOfChar_4cfef_19 (by decide) ?_ (by refine r_iload C dJ1_indexOfChar_4cfef_22 0 rfl ?_; exact r_iret C dJ1_indexOfChar_4cfef_24)
  refine r_iincK (lv' := [(5, .int 5), (4, .int b), (0, .ref (adV 0)), (1, .int c), (2, .int 0), (3, .int 7)]) (y := 5) C dJ1_indexOfChar_4cfef_25 0 rfl (by decide) (by decide) rfl ?_
  refine r_goto (tgt := 7) C dJ1_indexOfChar_4cfef_28 (by decide) ?_
  refine r_iload C dJ1_indexOfChar_4cfef_7 0 rfl ?_
  refine r_iload_n C dJ1_indexOfChar_4cfef_9 5 rfl ?_
  refine r_icmp_ge (tgt := 31) C dJ1_indexOfChar_4cfef_10 (by decide) r_none ?_
  refine r_aloadA C dJ1_indexOfChar_4cfef_13 2 rfl ?_
  refine r_iload C dJ1_indexOfChar_4cfef_14 0 rfl ?_
  refine r_tb C hT (show ¬ ((5 : Int32) < 0 ∨ 7 ≤ (5 : Int32).toNatClampNeg) from by decide) (v := .int 115) rfl dJ1_indexOfChar_4cfef_16 ?_
  refine r_iload C dJ1_indexOfChar_4cfef_17 1 rfl ?_
  refine r_icmp_ne (tgt := 25) C dJ1_indexOfChar_4cfef_19 (by decide) ?_ (by refine r_iload C dJ1_indexOfChar_4cfef_22 0 rfl ?_; exact r_iret C dJ1_indexOfChar_4cfef_24)
  refine r_iincK (lv' := [(5, .int 6), (4, .int b), (0, .ref (adV 0)), (1, .int c), (2, .int 0), (3, .int 7)]) (y := 6) C dJ1_indexOfChar_4cfef_25 0 rfl (by decide) (by decide) rfl ?_
  refine r_goto (tgt := 7) C dJ1_indexOfChar_4cfef_28 (by decide) ?_
  refine r_iload C dJ1_indexOfChar_4cfef_7 0 rfl ?_
  refine r_iload_n C dJ1_indexOfChar_4cfef_9 5 rfl ?_
  refine r_icmp_ge (tgt := 31) C dJ1_indexOfChar_4cfef_10 (by decide) r_none ?_
  refine r_aloadA C dJ1_indexOfChar_4cfef_13 2 rfl ?_
  refine r_iload C dJ1_indexOfChar_4cfef_14 0 rfl ?_
  refine r_tb C hT (show ¬ ((6 : Int32) < 0 ∨ 7 ≤ (6 : Int32).toNatClampNeg) from by decide) (v := .int 110) rfl dJ1_indexOfChar_4cfef_16 ?_
  refine r_iload C dJ1_indexOfChar_4cfef_17 1 rfl ?_
  refine r_icmp_ne (tgt := 25) C dJ1_indexOfChar_4cfef_19 (by decide) ?_ (by refine r_iload C dJ1_indexOfChar_4cfef_22 0 rfl ?_; exact r_iret C dJ1_indexOfChar_4cfef_24)
  refine r_iincK (lv' := [(5, .int 7), (4, .int b), (0, .ref (adV 0)), (1, .int c), (2, .int 0), (3, .int 7)]) (y := 7) C dJ1_indexOfChar_4cfef_25 0 rfl (by decide) (by decide) rfl ?_
  refine r_goto (tgt := 7) C dJ1_indexOfChar_4cfef_28 (by decide) ?_
  refine r_iload C dJ1_indexOfChar_4cfef_7 0 rfl ?_
  refine r_iload_n C dJ1_indexOfChar_4cfef_9 5 rfl ?_
  refine r_icmp_ge (tgt := 31) C dJ1_indexOfChar_4cfef_10 (by decide) ?_ r_none
  refine r_iconst C dJ1_indexOfChar_4cfef_31 ks_im1 ?_
  exact r_iret C dJ1_indexOfChar_4cfef_32
theorem sx_eq1 (c : Int32) (h : PH) : some (sx_1 c, h) = h_bd (fJ1_canEncode_9a6ad c h) fun e h1 => if e = 0 then some ((-1 : Int32), h1) else (if (0 : Int32) < 7 then h_bd (some (sx_B c.toInt8.toInt32, h1)) fun r h2 => some (r, h2) else none) := by
  unfold sx_1 fJ1_canEncode_9a6ad
  by_cases e1 : c < 0
  · rw [if_pos e1, if_pos e1]; rfl
  rw [if_neg e1, if_neg e1]
  by_cases e2 : (255 : Int32) < c
  · rw [if_pos e2, if_pos e2]; rfl
  rw [if_neg e2, if_neg e2]
  rfl
set_option maxRecDepth 100000 in
set_option maxHeartbeats 4000000 in
theorem sc_ix1 (l : Launch) (g : WG) (hg : p_al g = false) (adK adV : Nat → Nat) (c : Int32) (h : PH) : CTX l g adK adV 2 yJ1_indexOf_4cfef cJ1_indexOf_4cfef 4 (some .int) em_i [.ref (adV 0), .int c, .int 0, .int 7] h (some (sx_1 c, h)) := by
  refine CTX_of (own := RJ1) (nm := "indexOf") (by decide +kernel) (Nat.le_of_ble_eq_true rfl) rfl rfl rfl (fun K hK C hE => ?_)
  subst hK
  obtain ⟨hO, hco, hva, hT⟩ := hE.1 0 (by decide)
  have hT : va_T FieldType.byte (adV 0) 7 (fun j => Value.int ((sK.getD 0 []).getD j 0)) (p_A g) (a_s K) (a_s K).heap := hT
  show VX K g _ _ _ _ _ [(0, .ref (adV 0)), (1, .int c), (2, .int 0), (3, .int 7)] _ _ _
  refine VX.eq (sx_eq1 c h) ?_
  refine r_iload_n C dJ1_indexOf_4cfef_0 1 rfl ?_
  refine r_csi (As := [.int c]) (st := []) C wss_J1_88 (tcJ1_canEncode_9a6ad K.2.1 g hg c h) (Nat.le_of_ble_eq_true rfl) rfl rfl (Nat.le_of_ble_eq_true rfl) dJ1_indexOf_4cfef_1 ⟨Nat.le_of_ble_eq_true rfl, Nat.le_of_ble_eq_true rfl⟩ (fun e h1 => ?_)
  refine r_if_ne (tgt := 9) C dJ1_indexOf_4cfef_4 (by decide) ?_ (by refine r_iconst C dJ1_indexOf_4cfef_7 ks_im1 ?_; exact r_iret C dJ1_indexOf_4cfef_8)
  refine r_iload_n C dJ1_indexOf_4cfef_9 2 rfl ?_
  refine r_iconst C dJ1_indexOf_4cfef_10 ks_i0 ?_
  refine r_max C wms_J1_92 (Nat.le_of_ble_eq_true rfl) (Nat.le_of_ble_eq_true rfl) ⟨Nat.le_of_ble_eq_true rfl, Nat.le_of_ble_eq_true rfl⟩ dJ1_indexOf_4cfef_11 ?_
  rw [show (if (0 : Int32) < 0 then (0 : Int32) else 0) = 0 from by decide]
  refine r_istore_n (lv9 := [(2, .int 0), (0, .ref (adV 0)), (1, .int c), (3, .int 7)]) C dJ1_indexOf_4cfef_14 (by decide) rfl ?_
  refine r_iload_n C dJ1_indexOf_4cfef_15 3 rfl ?_
  refine r_aloadA C dJ1_indexOf_4cfef_16 1 rfl ?_
  refine r_tlen C hT (v := 7) rfl dJ1_indexOf_4cfef_17 ?_
  refine r_min C wms_J1_38 (Nat.le_of_ble_eq_true rfl) (Nat.le_of_ble_eq_true rfl) ⟨Nat.le_of_ble_eq_true rfl, Nat.le_of_ble_eq_true rfl⟩ dJ1_indexOf_4cfef_18 ?_
  rw [show (if (7 : Int32) < 7 then (7 : Int32) else 7) = 7 from by decide]
  refine r_istore_n (lv9 := [(3, .int 7), (2, .int 0), (0, .ref (adV 0)), (1, .int c)]) C dJ1_indexOf_4cfef_21 (by decide) rfl ?_
  refine r_iload_n C dJ1_indexOf_4cfef_22 1 rfl ?_
  refine r_iload_n C dJ1_indexOf_4cfef_23 0 rfl ?_
  refine r_icmp_lt (tgt := 29) C dJ1_indexOf_4cfef_24 (by decide) ?_ r_none
  refine r_aloadA C dJ1_indexOf_4cfef_29 2 rfl ?_
  refine r_iload_n C dJ1_indexOf_4cfef_30 3 rfl ?_
  refine r_iload_n C dJ1_indexOf_4cfef_31 1 rfl ?_
  refine r_iload_n C dJ1_indexOf_4cfef_32 0 rfl ?_
  refine r_csX (As := [.ref (adV 0), .int c, .int 0, .int 7]) (st := []) C hE wss_J1_95 (sc_ixc K.2.1 g hg adK adV c h1) (Nat.le_of_ble_eq_true rfl) rfl rfl (Nat.le_of_ble_eq_true rfl) dJ1_indexOf_4cfef_33 (fun r h2 => ?_)
  exact r_iret C dJ1_indexOf_4cfef_36
set_option maxRecDepth 100000 in
set_option maxHeartbeats 4000000 in
theorem sc_ix2 (l : Launch) (g : WG) (hg : p_al g = false) (adK adV : Nat → Nat) (c : Int32) (h : PH) : CTX l g adK adV 3 yJ0_indexOf_7cf53 cJ0_indexOf_7cf53 3 (some .int) em_i [.ref (adK 0), .int c, .int 0] h (some (sx_1 c, h)) := by
  refine CTX_of (own := RJ0) (nm := "indexOf") (by decide +kernel) (Nat.le_of_ble_eq_true rfl) rfl rfl rfl (fun K hK C hE => ?_)
  subst hK
  obtain ⟨hO, hco, hva, hT⟩ := hE.1 0 (by decide)
  have hT : va_T FieldType.byte (adV 0) 7 (fun j => Value.int ((sK.getD 0 []).getD j 0)) (p_A g) (a_s K) (a_s K).heap := hT
  show VX K g _ _ _ _ _ [(0, .ref (adK 0)), (1, .int c), (2, .int 0)] _ _ _
  refine VX.eq (show _ = h_bd (some ((1 : Int32), h)) fun e h1 => if e = 0 then none else (h_bd (some ((7 : Int32), h1)) fun n h2 => if n = 7 then (h_bd (some (sx_1 c, h2)) fun r h3 => some (r, h3)) else none) from rfl) ?_
  refine r_aloadA C dJ0_indexOf_7cf53_0 0 rfl ?_
  refine r_cvX (As := []) (st := []) C hE wks_J0_492 (sc_latin K.2.1 g hg adK adV h) (Nat.le_of_ble_eq_true rfl) rfl rfl (Nat.le_of_ble_eq_true rfl) dJ0_indexOf_7cf53_1 (fun e h1 => ?_)
  refine r_if_eq (tgt := 23) C dJ0_indexOf_7cf53_4 (by decide) r_none ?_
  refine r_aloadA C dJ0_indexOf_7cf53_7 0 rfl ?_
  refine r_kget C hva n_2072 dJ0_indexOf_7cf53_8 ?_
  refine r_iload_n C dJ0_indexOf_7cf53_11 1 rfl ?_
  refine r_iload_n C dJ0_indexOf_7cf53_12 2 rfl ?_
  refine r_aloadA C dJ0_indexOf_7cf53_13 0 rfl ?_
  refine r_cvX (As := []) (st := [.int 0, .int c, .ref (adV 0)]) C hE wks_J0_505 (sc_len K.2.1 g hg adK adV h1) (Nat.le_of_ble_eq_true rfl) rfl rfl (Nat.le_of_ble_eq_true rfl) dJ0_indexOf_7cf53_14 (fun n h2 => ?_)
  refine r_ite (fun e7 => ?_) (fun _ => r_none)
  subst e7
  refine r_csX (As := [.ref (adV 0), .int c, .int 0, .int 7]) (st := []) C hE wss_J0_637 (sc_ix1 K.2.1 g hg adK adV c h2) (Nat.le_of_ble_eq_true rfl) rfl rfl (Nat.le_of_ble_eq_true rfl) dJ0_indexOf_7cf53_17 (fun r h3 => ?_)
  refine r_goto (tgt := 36) C dJ0_indexOf_7cf53_20 (by decide) ?_
  exact r_iret C dJ0_indexOf_7cf53_36
set_option maxRecDepth 100000 in
set_option maxHeartbeats 4000000 in
theorem sc_ix (l : Launch) (g : WG) (hg : p_al g = false) (adK adV : Nat → Nat) (c : Int32) (h : PH) : CTX l g adK adV 4 yJ0_indexOf_0f7a4 cJ0_indexOf_0f7a4 2 (some .int) em_i [.ref (adK 0), .int c] h (some (sx_1 c, h)) := by
  refine CTX_of (own := RJ0) (nm := "indexOf") (by decide +kernel) (Nat.le_of_ble_eq_true rfl) rfl rfl rfl (fun K hK C hE => ?_)
  subst hK
  obtain ⟨hO, hco, hva, hT⟩ := hE.1 0 (by decide)
  have hT : va_T FieldType.byte (adV 0) 7 (fun j => Value.int ((sK.getD 0 []).getD j 0)) (p_A g) (a_s K) (a_s K).heap := hT
  show VX K g _ _ _ _ _ [(0, .ref (adK 0)), (1, .int c)] _ _ _
  refine VX.eq (show _ = h_bd (some (sx_1 c, h)) fun r h1 => some (r, h1) from rfl) ?_
  refine r_aloadA C dJ0_indexOf_0f7a4_0 0 rfl ?_
  refine r_iload_n C dJ0_indexOf_0f7a4_1 1 rfl ?_
  refine r_iconst C dJ0_indexOf_0f7a4_2 ks_i0 ?_
  refine r_cvX (As := [.int c, .int 0]) (st := []) C hE wks_J0_633 (sc_ix2 K.2.1 g hg adK adV c h) (Nat.le_of_ble_eq_true rfl) rfl rfl (Nat.le_of_ble_eq_true rfl) dJ0_indexOf_0f7a4_3 (fun r h1 => ?_)
  exact r_iret C dJ0_indexOf_0f7a4_6
theorem r_sidx {α : Type} {K : AC} {g : WG} {nL : Nat} {fin : α → PH → State → Prop} {lv : List (Nat × Value)} {st : List Value} {h : PH} {z : Option (α × PH)} {nm : String} {ret : Option FieldType} {d : Nat} (hg : p_al g = false) (C : Cx K g cX6_takesThing nL RX6 ret nm d 0 0) (hd : 5 ≤ d) (hcat : (st.map fun v => v.category).sum ≤ 7) (j : Nat) {x : Int32} (hj : lv[j]? = some (1, .int x)) (k : ∀ h1, h = h1 → VX K g nL 0 0 fin 102 lv (.int (sx_idx x) :: st) h1 z) : VX K g nL 0 0 fin 95 lv st h z := by
  obtain ⟨adK, adV, hE, hR⟩ := C.2.2.2.2.2.2.2.2.2.2.2.2.2.2
  refine r_ldcS C hR dX6_takesThing_95 ?_
  refine r_iload_n C dX6_takesThing_97 j hj ?_
  refine r_i2c C dX6_takesThing_98 ?_
  exact r_cvXs (As := [.int ((x.toUInt32 % 65536).toInt32)]) (st := st) C hE wks_X6_78 (sc_ix K.2.1 g hg adK adV _ h) hd rfl rfl (by omega) dX6_takesThing_99 (k _ rfl)
