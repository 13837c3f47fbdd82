set_option maxRecDepth 100000 in
theorem m_1328 : Cond.methodLink RL 7 yX11_ground ∈ WL := p_mt6 (i := 31) rfl rfl
set_option maxRecDepth 100000 in
theorem m_1329 : Cond.instanceMethod yX11_ground ∈ WL := p_mt6 (i := 32) rfl rfl
set_option maxRecDepth 100000 in
theorem m_1330 : Cond.selects RX11 yX11_ground yX11_ground ∈ WL := p_mt6 (i := 33) rfl rfl
set_option maxRecDepth 100000 in
theorem m_1331 : Cond.code yX11_ground cX11_ground 3 (some .int) ∈ WL := p_mt6 (i := 34) rfl rfl
set_option maxRecDepth 100000 in
theorem wv_L_7 : MV RL 7 10 yX11_ground cX11_ground 3 (some .int) 2 := ⟨⟨TX11, 11, rfl⟩, m_1328, m_1329, m_1330, m_98, m_1331, by decide +kernel, by decide +kernel, by decide⟩
set_option maxRecDepth 100000 in
theorem m_1402 : Cond.methodLink RL 15 yX11_person ∈ WL := p_mt6 (i := 105) rfl rfl
set_option maxRecDepth 100000 in
theorem m_1403 : Cond.instanceMethod yX11_person ∈ WL := p_mt6 (i := 106) rfl rfl
set_option maxRecDepth 100000 in
theorem m_1404 : Cond.selects RX11 yX11_person yX11_person ∈ WL := p_mt6 (i := 107) rfl rfl
set_option maxRecDepth 100000 in
theorem m_1405 : Cond.code yX11_person cX11_person 3 (some .int) ∈ WL := p_mt6 (i := 108) rfl rfl
set_option maxRecDepth 100000 in
theorem wv_L_15 : MV RL 15 10 yX11_person cX11_person 3 (some .int) 2 := ⟨⟨TX11, 11, rfl⟩, m_1402, m_1403, m_1404, m_98, m_1405, by decide +kernel, by decide +kernel, by decide⟩
set_option maxRecDepth 100000 in
theorem m_1411 : Cond.methodLink RL 18 yX11_row ∈ WL := p_mt6 (i := 114) rfl rfl
set_option maxRecDepth 100000 in
theorem m_1412 : Cond.instanceMethod yX11_row ∈ WL := p_mt6 (i := 115) rfl rfl
set_option maxRecDepth 100000 in
theorem m_1413 : Cond.selects RX11 yX11_row yX11_row ∈ WL := p_mt6 (i := 116) rfl rfl
set_option maxRecDepth 100000 in
theorem m_1414 : Cond.code yX11_row cX11_row 2 (some .long) ∈ WL := p_mt6 (i := 117) rfl rfl
set_option maxRecDepth 100000 in
theorem wv_L_18 : MV RL 18 10 yX11_row cX11_row 2 (some .long) 1 := ⟨⟨TX11, 11, rfl⟩, m_1411, m_1412, m_1413, m_98, m_1414, by decide +kernel, by decide +kernel, by decide⟩
def fL_ground (o0 : Nat) (i1 : Int32) (i2 : Int32) (o3 : Nat) (h : PH) : Option (Int32 × PH) := (h_ck 10 h o0).bind fun _ => h_bd (fX11_ground_T o0 i1 i2 h) fun r h1 => match r with
  | some x => (h_lst h1 o3 (0 : Int32) x.toInt64).bind fun h2 => some ((0 : Int32), h2)
  | none => some ((1 : Int32), h1)
set_option maxRecDepth 100000 in
set_option maxHeartbeats 4000000 in
theorem tcL_ground (l : Launch) (g : WG) (hg : p_al g = false) (htr : l.stackTraces = false) (o0 : Nat) (i1 : Int32) (i2 : Int32) (o3 : Nat) (h : PH) : CW l g 7 yL_ground cL_ground 5 (some .int) [(0, 10, 13, 13)] em_i [p_rf g o0, .int i1, .int i2, p_rf g o3] h (fL_ground o0 i1 i2 o3 h) := by
  refine CW_of (own := RL) (nm := "ground") (by decide +kernel) (Nat.le_of_ble_eq_true rfl) rfl rfl rfl (fun K hK C hTb => ?_)
  subst hK
  unfold fL_ground
  show VX K g _ _ _ _ _ [(0, p_rf g o0), (1, .int i1), (2, .int i2), (3, p_rf g o3)] _ _ _
  refine r_aload_n C dL_ground_0 3 rfl ?_
  refine r_iconst C dL_ground_1 k_i0 ?_
  refine r_aload_n C dL_ground_2 0 rfl ?_
  refine r_iload_n C dL_ground_3 1 rfl ?_
  refine r_iload_n C dL_ground_4 2 rfl ?_
  refine r_cvT (As := [.int i1, .int i2]) (st := [.int 0, p_rf g o3]) (hpc := 13) C hTb (by decide +kernel) (by decide) xm_3 rfl wv_L_7 (tcX11_ground_T K.2.1 g hg htr o0 i1 i2 h) (Nat.le_of_ble_eq_true rfl) rfl rfl (Nat.le_of_ble_eq_true rfl) dL_ground_5 ⟨Nat.le_of_ble_eq_true rfl, Nat.le_of_ble_eq_true rfl⟩ (fun r h1 => ?_) (fun q h1 => ?_)
  · show VX K g _ _ _ _ _ _ [.int r, .int 0, p_rf g o3] _ ((h_lst h1 o3 (0 : Int32) r.toInt64).bind fun h2 => some ((0 : Int32), h2))
    refine r_i2l C dL_ground_8 ?_
    refine r_last hg C dL_ground_9 (fun h2 => ?_)
    refine r_goto (tgt := 17) C dL_ground_10 (by decide) ?_
    refine r_iconst C dL_ground_17 k_i0 ?_
    exact r_iret C dL_ground_18
  · show VX K g _ _ _ _ _ _ _ _ (some ((1 : Int32), h1))
    refine r_astoreB (lv9 := [(4, .ref q), (0, p_rf g o0), (1, .int i1), (2, .int i2), (3, p_rf g o3)]) C dL_ground_13 (by decide) rfl ?_
    refine r_iconst C dL_ground_15 k_i1 ?_
    exact r_iret C dL_ground_16
def fL_person (o0 : Nat) (i1 : Int32) (i2 : Int32) (o3 : Nat) (h : PH) : Option (Int32 × PH) := (h_ck 10 h o0).bind fun _ => h_bd (fX11_person_T o0 i1 i2 h) fun r h1 => match r with
  | some x => (h_lst h1 o3 (0 : Int32) x.toInt64).bind fun h2 => some ((0 : Int32), h2)
  | none => some ((1 : Int32), h1)
set_option maxRecDepth 100000 in
set_option maxHeartbeats 4000000 in
theorem tcL_person (l : Launch) (g : WG) (hg : p_al g = false) (htr : l.stackTraces = false) (o0 : Nat) (i1 : Int32) (i2 : Int32) (o3 : Nat) (h : PH) : CW l g 7 yL_person cL_person 5 (some .int) [(0, 10, 13, 13)] em_i [p_rf g o0, .int i1, .int i2, p_rf g o3] h (fL_person o0 i1 i2 o3 h) := by
  refine CW_of (own := RL) (nm := "person") (by decide +kernel) (Nat.le_of_ble_eq_true rfl) rfl rfl rfl (fun K hK C hTb => ?_)
  subst hK
  unfold fL_person
  show VX K g _ _ _ _ _ [(0, p_rf g o0), (1, .int i1), (2, .int i2), (3, p_rf g o3)] _ _ _
  refine r_aload_n C dL_person_0 3 rfl ?_
  refine r_iconst C dL_person_1 k_i0 ?_
  refine r_aload_n C dL_person_2 0 rfl ?_
  refine r_iload_n C dL_person_3 1 rfl ?_
  refine r_iload_n C dL_person_4 2 rfl ?_
  refine r_cvT (As := [.int i1, .int i2]) (st := [.int 0, p_rf g o3]) (hpc := 13) C hTb (by decide +kernel) (by decide) xm_3 rfl wv_L_15 (tcX11_person_T K.2.1 g hg htr o0 i1 i2 h) (Nat.le_of_ble_eq_true rfl) rfl rfl (Nat.le_of_ble_eq_true rfl) dL_person_5 ⟨Nat.le_of_ble_eq_true rfl, Nat.le_of_ble_eq_true rfl⟩ (fun r h1 => ?_) (fun q h1 => ?_)
  · show VX K g _ _ _ _ _ _ [.int r, .int 0, p_rf g o3] _ ((h_lst h1 o3 (0 : Int32) r.toInt64).bind fun h2 => some ((0 : Int32), h2))
    refine r_i2l C dL_person_8 ?_
    refine r_last hg C dL_person_9 (fun h2 => ?_)
    refine r_goto (tgt := 17) C dL_person_10 (by decide) ?_
    refine r_iconst C dL_person_17 k_i0 ?_
    exact r_iret C dL_person_18
  · show VX K g _ _ _ _ _ _ _ _ (some ((1 : Int32), h1))
    refine r_astoreB (lv9 := [(4, .ref q), (0, p_rf g o0), (1, .int i1), (2, .int i2), (3, p_rf g o3)]) C dL_person_13 (by decide) rfl ?_
    refine r_iconst C dL_person_15 k_i1 ?_
    exact r_iret C dL_person_16
def fL_row (o0 : Nat) (i1 : Int32) (o2 : Nat) (h : PH) : Option (Int32 × PH) := (h_ck 10 h o0).bind fun _ => h_bd (fX11_row_T o0 i1 h) fun r h1 => match r with
  | some x => (h_lst h1 o2 (0 : Int32) x).bind fun h2 => some ((0 : Int32), h2)
  | none => some ((1 : Int32), h1)
set_option maxRecDepth 100000 in
set_option maxHeartbeats 4000000 in
theorem tcL_row (l : Launch) (g : WG) (hg : p_al g = false) (htr : l.stackTraces = false) (o0 : Nat) (i1 : Int32) (o2 : Nat) (h : PH) : CW l g 7 yL_row cL_row 4 (some .int) [(0, 8, 11, 13)] em_i [p_rf g o0, .int i1, p_rf g o2] h (fL_row o0 i1 o2 h) := by
  refine CW_of (own := RL) (nm := "row") (by decide +kernel) (Nat.le_of_ble_eq_true rfl) rfl rfl rfl (fun K hK C hTb => ?_)
  subst hK
  unfold fL_row
  show VX K g _ _ _ _ _ [(0, p_rf g o0), (1, .int i1), (2, p_rf g o2)] _ _ _
  refine r_aload_n C dL_row_0 2 rfl ?_
  refine r_iconst C dL_row_1 k_i0 ?_
  refine r_aload_n C dL_row_2 0 rfl ?_
  refine r_iload_n C dL_row_3 1 rfl ?_
  refine r_cvT (As := [.int i1]) (st := [.int 0, p_rf g o2]) (hpc := 11) C hTb (by decide +kernel) (by decide) xm_3 rfl wv_L_18 (tcX11_row_T K.2.1 g hg htr o0 i1 h) (Nat.le_of_ble_eq_true rfl) rfl rfl (Nat.le_of_ble_eq_true rfl) dL_row_4 ⟨Nat.le_of_ble_eq_true rfl, Nat.le_of_ble_eq_true rfl⟩ (fun r h1 => ?_) (fun q h1 => ?_)
  · show VX K g _ _ _ _ _ _ [.long r, .int 0, p_rf g o2] _ ((h_lst h1 o2 (0 : Int32) r).bind fun h2 => some ((0 : Int32), h2))
    refine r_last hg C dL_row_7 (fun h2 => ?_)
    refine r_goto (tgt := 14) C dL_row_8 (by decide) ?_
    refine r_iconst C dL_row_14 k_i0 ?_
    exact r_iret C dL_row_15
  · show VX K g _ _ _ _ _ _ _ _ (some ((1 : Int32), h1))
    refine r_astoreA (lv9 := [(3, .ref q), (0, p_rf g o0), (1, .int i1), (2, p_rf g o2)]) C dL_row_11 (by decide) rfl ?_
    refine r_iconst C dL_row_12 k_i1 ?_
    exact r_iret C dL_row_13
