/-! THE PURE HEAP. A cell is an array (its type, its length, its contents) or an object (its place in vwCl, its fields); a reference is a PLACE in the list. World g: D, the classes of arrays, base address, size, 'may make cells'. -/
abbrev PE : Type := (FieldType × vp_A) ⊕ (Nat × List Value)
abbrev PH : Type := List PE
abbrev WG : Type := va_G × (FieldType → ClassId) × Nat × Nat × Bool
def p_b (g : WG) : Nat := g.2.2.1
def p_al (g : WG) : Bool := g.2.2.2.2
def p_rf (g : WG) (i : Nat) : Value := .ref (p_b g + i)
def p_rn (g : WG) (v : Value) : Value := match v with
  | .ref i => p_rf g i
  | v => v
def p_cl (g : WG) (e : PE) : va_E := match e with
  | .inl q => .inl (g.2.1 q.1, q.2)
  | .inr q => .inr (q.1, q.2.map (p_rn g))
def p_ws (g : WG) (h : PH) : va_W := h.mapIdx (fun i e => (p_b g + i, p_cl g e))
def p_A (g : WG) : Nat → Prop := fun q => p_b g ≤ q ∧ (p_al g = true ∨ q < p_b g + g.2.2.2.1)
def p_tys (g : WG) : List (ClassId × FieldType) := [(g.2.1 .int, .int), (g.2.1 .long, .long), (g.2.1 .byte, .byte), (g.2.1 .char, .char), (g.2.1 .boolean, .boolean)]
def p_W (g : WG) (h : PH) (H : Heap) : Prop := va_P g.1 vwCl (p_ws g h) H ∧ (p_al g = true → H.size = p_b g + h.length) ∧ (p_al g = false → h.length ≤ g.2.2.2.1)
/-- what lies outside every world: the two statics of a throw, String's own switch, the text of takesThing -/
def sK : List (List Int32) := [[118, 116, 103, 101, 100, 115, 110]]
def p_X (g : WG) (U : State) (H : Heap) : Prop := vx_Zq Bundle.tN "UNASSIGNED_STACK" Bundle.steD (p_A g) U H ∧ vx_Zq Bundle.tN "SUPPRESSED_SENTINEL" Bundle.listD (p_A g) U H ∧ va_Z "java/lang/String" "COMPACT_STRINGS" "Z" (.int 1) (p_A g) U H ∧ ∃ adK adV : Nat → Nat, vk_S 1 [7] sK adK adV (p_A g) U H ∧ vk_R RX6 76 "vtgedsn" (adK 0) U
theorem p_X.kept {g : WG} {U : State} {H H1 : Heap} (h : p_X g U H) (hq : ∀ a : Nat, a < H.size → ¬ p_A g a → H1[a]? = H[a]?) : p_X g U H1 := by
  obtain ⟨h1, h2, h3, adK, adV, h4, h5⟩ := h
  exact ⟨h1.kept hq, h2.kept hq, h3.kept hq, adK, adV, h4.kept hq, h5⟩
theorem p_X.warm {g : WG} {s U : State} {H : Heap} (hW : s.WarmedH U.vm) (h : p_X g s H) : p_X g U H := by
  obtain ⟨h1, h2, h3, adK, adV, h4, h5⟩ := h
  exact ⟨h1.moved hW.alike, h2.moved hW.alike, h3.moved hW.alike, adK, adV, h4.moved hW.alike, h5.warm hW⟩
theorem p_X.same {g : WG} {s U : State} {H : Heap} (hv : U.vm = s.vm) (h : p_X g s H) : p_X g U H := by
  have hA : s.vm.Alike U.vm := by rw [hv]; exact Vm.Alike.refl _
  obtain ⟨h1, h2, h3, adK, adV, h4, h5⟩ := h
  exact ⟨h1.moved hA, h2.moved hA, h3.moved hA, adK, adV, h4.moved hA, h5.same hv⟩
def p_U (g : WG) (h : PH) (U : State) : Prop := p_W g h U.heap ∧ va_K g.1 vwCl (p_tys g) U ∧ p_X g U U.heap
def p_Q (g : WG) (rv : Option Value) (h : PH) : Array Value → State → Outcome → State → Prop := fun _ st o t => (o = .returned rv ∧ p_U g h t) ∧ va_F (p_A g) st t
/-- the words that every method is given -/
def p_okw : Cond → Bool
  | .methodLinkNest _ _ _ _ => true
  | .fieldLinkNest _ _ _ _ _ _ => true
  | .declares _ => true
  | .castable _ _ => true
  | w => goodWord w
def WL : List Cond := lw_tbl.filter p_okw
theorem p_mem {w : Cond} (h : w ∈ lw_tbl) (hw : p_okw w = true) : w ∈ WL := List.mem_filter.mpr ⟨h, hw⟩
theorem p_warm {w : Cond} (hw : p_okw w = true) {args : Array Value} {s : State} (h : w.before args s = true) : ∀ (a' : Array Value) (U : State), s.WarmedH U.vm → w.before a' U = true := by
  intro a' U hW
  unfold p_okw at hw
  split at hw
  · exact va_Nw.use rfl (va_Nw.warmM hW (va_Nw.of rfl h))
  · exact va_Nw.use rfl (va_Nw.warmF hW (va_Nw.of rfl h))
  · exact va_Nw.use rfl (va_Nw.warmD hW (va_Nw.of rfl h))
  · exact va_Nw.use rfl (va_Nw.warmC hW (va_Nw.of rfl h))
  · exact word_at hW (good_of_word hw) h
theorem p_pay {args : Array Value} {s : State} (hts : ∀ w ∈ WL, w.before args s = true) : ∀ w ∈ WL, ∀ (a' : Array Value) (U : State), s.WarmedH U.vm → w.before a' U = true :=
  fun w hw => p_warm (List.mem_filter.mp hw).2 (hts w hw)
def p_rm (d mc ms : Nat) : Room := { frames := d, cells := mc, slots := ms, locals := 64 * d }
def p_le (R : Room) (d mc ms : Nat) : Prop := d ≤ R.frames ∧ 64 * d ≤ R.locals ∧ mc ≤ R.cells ∧ ms ≤ R.slots
theorem p_le.rf {d mc ms : Nat} : p_le (p_rm d mc ms) d mc ms := ⟨Nat.le_refl _, Nat.le_refl _, Nat.le_refl _, Nat.le_refl _⟩
/-! an activation: program, launch, env, room, state, method, arguments, frames below, method, code -/
abbrev AC : Type := Program × Launch × Env × Room × State × MethodId × Array Value × List Frame × Method × Code
def a_W (K : AC) (H : Heap) (locs : List Loc) (kc ks : Nat) (Q : State → Prop) (g : JFrame) : Prop :=
  W K.1 K.2.1 K.2.2.1 K.2.2.2.1 K.2.2.2.2.1 K.2.2.2.2.2.1 K.2.2.2.2.2.2.1 K.2.2.2.2.2.2.2.1 K.2.2.2.2.2.2.2.2.1 K.2.2.2.2.2.2.2.2.2 H locs kc ks Q g
def a_s (K : AC) : State := K.2.2.2.2.1
def a_Q (K : AC) (g : WG) (mc ms : Nat) (rv : Option Value) (h : PH) : State → Prop := MQ K.2.2.2.2.2.2.2.1 (p_Q g rv h) K.2.2.2.2.2.2.1 (a_s K) mc ms (p_A g)
/-- what holds of an activation: the machine, the code, the locals' number, its class, the words, what is known of the classes, the answer's type, no lock, its name -/
def Cx (K : AC) (g : WG) (cc : ByteArray) (nL : Nat) (own : String) (ret : Option FieldType) (nm : String) (d mc ms : Nat) : Prop :=
  K.1.tables.exec = Jvm.exec ∧ K.2.2.2.2.2.2.2.2.2.code = cc ∧ K.2.2.2.2.2.2.2.2.2.maxLocals = nL ∧ (a_s K).vm.findClass own = some K.2.2.2.2.2.1.cls ∧ (∀ w ∈ WL, w.before K.2.2.2.2.2.2.1 (a_s K) = true) ∧ va_K g.1 vwCl (p_tys g) (a_s K) ∧ K.2.2.2.2.2.2.2.2.1.sig.returnType = ret ∧ K.2.2.2.2.2.2.2.2.1.locks = false ∧ K.2.2.2.2.2.2.2.2.1.name = nm ∧ p_le K.2.2.2.1 d mc ms ∧ (∀ q, (a_s K).heap.size ≤ q → p_al g = true → p_A g q) ∧ p_X g (a_s K) (a_s K).heap
/-- from pc, locals, stack and heap the machine comes to the end that the computation z tells -/
def VX {α : Type} (K : AC) (g : WG) (nL kc ks : Nat) (fin : α → PH → State → Prop) (pc : Nat) (lv : List (Nat × Value)) (st : List Value) (h : PH) (z : Option (α × PH)) : Prop :=
  ∀ (r : α) (h' : PH), z = some (r, h') → ∀ (H : Heap) (locs : List Loc) (ls : Array Slot), p_W g h H → va_S (p_A g) (a_s K).heap H locs → lv_has ls nL lv → a_W K H locs kc ks (fin r h') (F0 K.2.2.2.2.2.1 pc ls st)
/-- the end of a method that returns -/
def a_fin {α : Type} (K : AC) (g : WG) (mc ms : Nat) (em : α → Option Value) : α → PH → State → Prop := fun r h' => a_Q K g mc ms (em r) h'
/-- a method's contract: what z tells, it answers and leaves -/
def CT {α : Type} (l : Launch) (g : WG) (d mc ms : Nat) (y : MethodName) (cc : ByteArray) (nL : Nat) (ret : Option FieldType) (em : α → Option Value) (av : List Value) (h : PH) (z : Option (α × PH)) : Prop :=
  ∀ (r : α) (h' : PH), z = some (r, h') → Met l y (Cond.code y cc nL ret :: WL) (p_rm d mc ms) (va_Pc av (p_U g h)) (p_Q g (em r) h') mc ms (p_A g)
abbrev em_i : Int32 → Option Value := fun x => some (.int x)
abbrev em_l : Int64 → Option Value := fun x => some (.long x)
abbrev em_v : Unit → Option Value := fun _ => none
abbrev em_r (g : WG) : Nat → Option Value := fun i => some (p_rf g i)
theorem p_ws_get (g : WG) (h : PH) (k : Nat) : (p_ws g h)[k]? = (h[k]?).map (fun e => (p_b g + k, p_cl g e)) := by
  unfold p_ws
  rw [List.getElem?_mapIdx]
theorem p_ws_some {g : WG} {h : PH} {k : Nat} {e : PE} (he : h[k]? = some e) : (p_ws g h)[k]? = some (p_b g + k, p_cl g e) := by
  rw [p_ws_get, he]; rfl
theorem p_ws_set (g : WG) (h : PH) (k : Nat) (e : PE) : p_ws g (h.set k e) = (p_ws g h).set k (p_b g + k, p_cl g e) := by
  apply List.ext_getElem?
  intro i
  rw [p_ws_get, List.getElem?_set, List.getElem?_set, p_ws_get]
  have hlen : (p_ws g h).length = h.length := by unfold p_ws; exact List.length_mapIdx
  rw [hlen]
  by_cases hik : k = i
  · subst hik
    rw [if_pos rfl, if_pos rfl]
    by_cases hl : k < h.length
    · rw [if_pos hl, if_pos hl]; rfl
    · rw [if_neg hl, if_neg hl]; rfl
  · rw [if_neg hik, if_neg hik]
theorem p_D {g : WG} {h : PH} (hl : p_al g = false → h.length ≤ g.2.2.2.1) : va_D (p_A g) (p_ws g h) := by
  have key : ∀ (k : Nat) (q : Nat × va_E), (p_ws g h)[k]? = some q → q.1 = p_b g + k ∧ k < h.length := by
    intro k q hq
    rw [p_ws_get] at hq
    cases he : h[k]? with
    | none => rw [he] at hq; cases hq
    | some e =>
      rw [he] at hq
      cases hq
      exact ⟨rfl, (List.getElem?_eq_some_iff.mp he).1⟩
  refine ⟨fun i j p q hi hj hpq => ?_, fun k q hk => ?_⟩
  · have h1 := (key i p hi).1
    have h2 := (key j q hj).1
    omega
  · obtain ⟨h1, h2⟩ := key k q hk
    refine ⟨by omega, ?_⟩
    cases ha : p_al g with
    | true => exact Or.inl rfl
    | false => exact Or.inr (by have := hl ha; omega)
