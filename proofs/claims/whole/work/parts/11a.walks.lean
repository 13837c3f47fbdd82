set_option maxRecDepth 100000 in
set_option maxHeartbeats 4000000 in
theorem tcX1_init_X6 (l : Launch) (g : WG) (hg : p_al g = true) (o0 : Nat) (i1 : Int32) (h : PH) : CT l g 1 0 0 yX1_init cX1_init 2 none em_v [p_rf g o0, .int i1] h (fX1_init_X6 o0 i1 h) := by
  refine CT_of (own := RX1) (nm := "<init>") (by decide +kernel) (Nat.le_of_ble_eq_true rfl) rfl rfl rfl ⟨rfl, rfl⟩ (fun K hK C => ?_)
  subst hK
  unfold fX1_init_X6
  show VX K g _ _ _ _ _ [(0, p_rf g o0), (1, .int i1)] _ _ _
  refine r_aload_n C dX1_init_0 0 rfl ?_
  refine r_obj C wo_X1_3 (Nat.le_of_ble_eq_true rfl) (Nat.le_of_ble_eq_true rfl) dX1_init_1 ?_
  refine r_aload_n C dX1_init_4 0 rfl ?_
  refine r_iload_n C dX1_init_5 1 rfl ?_
  refine r_piF C wf_X1_9_5 dX1_init_6 (fun h1 => ?_)
  exact r_vret C dX1_init_9
set_option maxRecDepth 100000 in
set_option maxHeartbeats 4000000 in
theorem tcX6_init (l : Launch) (g : WG) (hg : p_al g = true) (o0 : Nat) (h : PH) : CT l g 2 3 120 yX6_init cX6_init 1 none em_v [p_rf g o0] h (fX6_init o0 h) := by
  refine CT_of (own := RX6) (nm := "<init>") (by decide +kernel) (Nat.le_of_ble_eq_true rfl) rfl rfl rfl ⟨rfl, rfl⟩ (fun K hK C => ?_)
  subst hK
  unfold fX6_init
  show VX K g _ _ _ _ _ [(0, p_rf g o0)] _ _ _
  refine r_aload_n C dX6_init_0 0 rfl ?_
  refine r_bipush C dX6_init_1 k_b40 ?_
  refine r_ciA (As := [.int (40 : Int32)]) (st := []) C wi_X6_5 (tcX1_init_X6 K.2.1 g hg o0 (40 : Int32) h) (Nat.le_of_ble_eq_true rfl) rfl rfl (Nat.le_of_ble_eq_true rfl) dX6_init_3 ⟨Nat.le_of_ble_eq_true rfl, Nat.le_of_ble_eq_true rfl⟩ (fun h1 => ?_)
  refine r_aload_n C dX6_init_6 0 rfl ?_
  refine r_bipush C dX6_init_7 k_b40 ?_
  refine r_newa (atype := .int) (ty := .int) (t0 := 0) hg C rfl rfl m_227 (N := 40) (a0 := (40, .inl (fun _ => 0))) (fun _ => rfl) (by decide) (by decide) (by decide) ⟨Nat.le_of_ble_eq_true rfl, Nat.le_of_ble_eq_true rfl⟩ dX6_init_9 (fun q2 h3 => ?_)
  refine r_prF C wf_X6_11_5 rfl rfl dX6_init_11 (fun h4 => ?_)
  refine r_aload_n C dX6_init_14 0 rfl ?_
  refine r_bipush C dX6_init_15 k_b40 ?_
  refine r_newa (atype := .int) (ty := .int) (t0 := 0) hg C rfl rfl m_227 (N := 40) (a0 := (40, .inl (fun _ => 0))) (fun _ => rfl) (by decide) (by decide) (by decide) ⟨Nat.le_of_ble_eq_true rfl, Nat.le_of_ble_eq_true rfl⟩ dX6_init_17 (fun q5 h6 => ?_)
  refine r_prF C wf_X6_15_5 rfl rfl dX6_init_19 (fun h7 => ?_)
  refine r_aload_n C dX6_init_22 0 rfl ?_
  refine r_bipush C dX6_init_23 k_b40 ?_
  refine r_newa (atype := .int) (ty := .int) (t0 := 0) hg C rfl rfl m_227 (N := 40) (a0 := (40, .inl (fun _ => 0))) (fun _ => rfl) (by decide) (by decide) (by decide) ⟨Nat.le_of_ble_eq_true rfl, Nat.le_of_ble_eq_true rfl⟩ dX6_init_25 (fun q8 h9 => ?_)
  refine r_prF C wf_X6_18_5 rfl rfl dX6_init_27 (fun h10 => ?_)
  exact r_vret C dX6_init_30
set_option maxRecDepth 100000 in
set_option maxHeartbeats 4000000 in
theorem tcX0_init (l : Launch) (g : WG) (hg : p_al g = true) (o0 : Nat) (h : PH) : CT l g 3 15 366 yX0_init cX0_init 1 none em_v [p_rf g o0] h (fX0_init o0 h) := by
  refine CT_of (own := RX0) (nm := "<init>") (by decide +kernel) (Nat.le_of_ble_eq_true rfl) rfl rfl rfl ⟨rfl, rfl⟩ (fun K hK C => ?_)
  subst hK
  unfold fX0_init
  show VX K g _ _ _ _ _ [(0, p_rf g o0)] _ _ _
  refine r_aload_n C dX0_init_0 0 rfl ?_
  refine r_obj C wo_X0_3 (Nat.le_of_ble_eq_true rfl) (Nat.le_of_ble_eq_true rfl) dX0_init_1 ?_
  refine r_aload_n C dX0_init_4 0 rfl ?_
  refine r_bipush C dX0_init_5 k_b8 ?_
  refine r_newa (atype := .int) (ty := .int) (t0 := 0) hg C rfl rfl m_227 (N := 8) (a0 := (8, .inl (fun _ => 0))) (fun _ => rfl) (by decide) (by decide) (by decide) ⟨Nat.le_of_ble_eq_true rfl, Nat.le_of_ble_eq_true rfl⟩ dX0_init_7 (fun q1 h2 => ?_)
  refine r_prF C wf_X0_9_0 rfl rfl dX0_init_9 (fun h3 => ?_)
  refine r_aload_n C dX0_init_12 0 rfl ?_
  refine r_bipush C dX0_init_13 k_b32 ?_
  refine r_newa (atype := .int) (ty := .int) (t0 := 0) hg C rfl rfl m_227 (N := 32) (a0 := (32, .inl (fun _ => 0))) (fun _ => rfl) (by decide) (by decide) (by decide) ⟨Nat.le_of_ble_eq_true rfl, Nat.le_of_ble_eq_true rfl⟩ dX0_init_15 (fun q4 h5 => ?_)
  refine r_prF C wf_X0_15_0 rfl rfl dX0_init_17 (fun h6 => ?_)
  refine r_aload_n C dX0_init_20 0 rfl ?_
  refine r_bipush C dX0_init_21 k_b6 ?_
  refine r_newa (atype := .int) (ty := .int) (t0 := 0) hg C rfl rfl m_227 (N := 6) (a0 := (6, .inl (fun _ => 0))) (fun _ => rfl) (by decide) (by decide) (by decide) ⟨Nat.le_of_ble_eq_true rfl, Nat.le_of_ble_eq_true rfl⟩ dX0_init_23 (fun q7 h8 => ?_)
  refine r_prF C wf_X0_18_0 rfl rfl dX0_init_25 (fun h9 => ?_)
  refine r_aload_n C dX0_init_28 0 rfl ?_
  refine r_bipush C dX0_init_29 k_b6 ?_
  refine r_newa (atype := .int) (ty := .int) (t0 := 0) hg C rfl rfl m_227 (N := 6) (a0 := (6, .inl (fun _ => 0))) (fun _ => rfl) (by decide) (by decide) (by decide) ⟨Nat.le_of_ble_eq_true rfl, Nat.le_of_ble_eq_true rfl⟩ dX0_init_31 (fun q10 h11 => ?_)
  refine r_prF C wf_X0_21_0 rfl rfl dX0_init_33 (fun h12 => ?_)
  refine r_aload_n C dX0_init_36 0 rfl ?_
  refine r_bipush C dX0_init_37 k_b18 ?_
  refine r_newa (atype := .int) (ty := .int) (t0 := 0) hg C rfl rfl m_227 (N := 18) (a0 := (18, .inl (fun _ => 0))) (fun _ => rfl) (by decide) (by decide) (by decide) ⟨Nat.le_of_ble_eq_true rfl, Nat.le_of_ble_eq_true rfl⟩ dX0_init_39 (fun q13 h14 => ?_)
  refine r_prF C wf_X0_24_0 rfl rfl dX0_init_41 (fun h15 => ?_)
  refine r_aload_n C dX0_init_44 0 rfl ?_
  refine r_bipush C dX0_init_45 k_b18 ?_
  refine r_newa (atype := .int) (ty := .int) (t0 := 0) hg C rfl rfl m_227 (N := 18) (a0 := (18, .inl (fun _ => 0))) (fun _ => rfl) (by decide) (by decide) (by decide) ⟨Nat.le_of_ble_eq_true rfl, Nat.le_of_ble_eq_true rfl⟩ dX0_init_47 (fun q16 h17 => ?_)
  refine r_prF C wf_X0_27_0 rfl rfl dX0_init_49 (fun h18 => ?_)
  refine r_aload_n C dX0_init_52 0 rfl ?_
  refine r_bipush C dX0_init_53 k_b18 ?_
  refine r_newa (atype := .int) (ty := .int) (t0 := 0) hg C rfl rfl m_227 (N := 18) (a0 := (18, .inl (fun _ => 0))) (fun _ => rfl) (by decide) (by decide) (by decide) ⟨Nat.le_of_ble_eq_true rfl, Nat.le_of_ble_eq_true rfl⟩ dX0_init_55 (fun q19 h20 => ?_)
  refine r_prF C wf_X0_30_0 rfl rfl dX0_init_57 (fun h21 => ?_)
  refine r_aload_n C dX0_init_60 0 rfl ?_
  refine r_newo hg C ww_X0_33 ⟨Nat.le_of_ble_eq_true rfl, Nat.le_of_ble_eq_true rfl⟩ dX0_init_61 (fun q22 h23 => ?_)
  refine r_dup C dX0_init_64 rfl ?_
  refine r_ciA (As := []) (st := [p_rf g q22, p_rf g o0]) C wi_X0_35 (tcX6_init K.2.1 g hg q22 h23) (Nat.le_of_ble_eq_true rfl) rfl rfl (Nat.le_of_ble_eq_true rfl) dX0_init_65 ⟨Nat.le_of_ble_eq_true rfl, Nat.le_of_ble_eq_true rfl⟩ (fun h24 => ?_)
  refine r_pr C wf_X0_36_0 rfl rfl dX0_init_68 (fun h25 => ?_)
  refine r_aload_n C dX0_init_71 0 rfl ?_
  refine r_newo hg C ww_X0_33 ⟨Nat.le_of_ble_eq_true rfl, Nat.le_of_ble_eq_true rfl⟩ dX0_init_72 (fun q26 h27 => ?_)
  refine r_dup C dX0_init_75 rfl ?_
  refine r_ciA (As := []) (st := [p_rf g q26, p_rf g o0]) C wi_X0_35 (tcX6_init K.2.1 g hg q26 h27) (Nat.le_of_ble_eq_true rfl) rfl rfl (Nat.le_of_ble_eq_true rfl) dX0_init_76 ⟨Nat.le_of_ble_eq_true rfl, Nat.le_of_ble_eq_true rfl⟩ (fun h28 => ?_)
  refine r_pr C wf_X0_40_0 rfl rfl dX0_init_79 (fun h29 => ?_)
  exact r_vret C dX0_init_82
set_option maxRecDepth 100000 in
set_option maxHeartbeats 4000000 in
theorem tcX0_groundSize (l : Launch) (g : WG) (hg : p_al g = false) (o0 : Nat) (h : PH) : CT l g 1 0 0 yX0_groundSize cX0_groundSize 1 (some .int) em_i [p_rf g o0] h (fX0_groundSize o0 h) := by
  refine CT_of (own := RX0) (nm := "groundSize") (by decide +kernel) (Nat.le_of_ble_eq_true rfl) rfl rfl rfl ⟨rfl, rfl⟩ (fun K hK C => ?_)
  subst hK
  unfold fX0_groundSize
  show VX K g _ _ _ _ _ [(0, p_rf g o0)] _ _ _
  refine r_aload_n C dX0_groundSize_0 0 rfl ?_
  refine r_gi C wf_X0_43_0 dX0_groundSize_1 (fun x1 => ?_)
  exact r_iret C dX0_groundSize_4
set_option maxRecDepth 100000 in
set_option maxHeartbeats 4000000 in
theorem tcX0_personSize (l : Launch) (g : WG) (hg : p_al g = false) (o0 : Nat) (h : PH) : CT l g 1 0 0 yX0_personSize cX0_personSize 1 (some .int) em_i [p_rf g o0] h (fX0_personSize o0 h) := by
  refine CT_of (own := RX0) (nm := "personSize") (by decide +kernel) (Nat.le_of_ble_eq_true rfl) rfl rfl rfl ⟨rfl, rfl⟩ (fun K hK C => ?_)
  subst hK
  unfold fX0_personSize
  show VX K g _ _ _ _ _ [(0, p_rf g o0)] _ _ _
  refine r_aload_n C dX0_personSize_0 0 rfl ?_
  refine r_gi C wf_X0_47_0 dX0_personSize_1 (fun x1 => ?_)
  exact r_iret C dX0_personSize_4
set_option maxRecDepth 100000 in
set_option maxHeartbeats 4000000 in
theorem tcX0_wantSize (l : Launch) (g : WG) (hg : p_al g = false) (o0 : Nat) (h : PH) : CT l g 1 0 0 yX0_wantSize cX0_wantSize 1 (some .int) em_i [p_rf g o0] h (fX0_wantSize o0 h) := by
  refine CT_of (own := RX0) (nm := "wantSize") (by decide +kernel) (Nat.le_of_ble_eq_true rfl) rfl rfl rfl ⟨rfl, rfl⟩ (fun K hK C => ?_)
  subst hK
  unfold fX0_wantSize
  show VX K g _ _ _ _ _ [(0, p_rf g o0)] _ _ _
  refine r_aload_n C dX0_wantSize_0 0 rfl ?_
  refine r_gi C wf_X0_50_0 dX0_wantSize_1 (fun x1 => ?_)
  exact r_iret C dX0_wantSize_4
set_option maxRecDepth 100000 in
set_option maxHeartbeats 4000000 in
theorem tcX0_hasGround (l : Launch) (g : WG) (hg : p_al g = false) (o0 : Nat) (i1 : Int32) (h : PH) : CT l g 1 0 0 yX0_hasGround cX0_hasGround 2 (some .boolean) em_i [p_rf g o0, .int i1] h (fX0_hasGround o0 i1 h) := by
  refine CT_of (own := RX0) (nm := "hasGround") (by decide +kernel) (Nat.le_of_ble_eq_true rfl) rfl rfl rfl ⟨rfl, rfl⟩ (fun K hK C => ?_)
  subst hK
  unfold fX0_hasGround
  show VX K g _ _ _ _ _ [(0, p_rf g o0), (1, .int i1)] _ _ _
  refine r_iload_n C dX0_hasGround_0 1 rfl ?_
  refine r_if_lt (tgt := 16) C dX0_hasGround_1 (by decide) ?_ ?_
  · refine r_iconst C dX0_hasGround_16 k_i0 ?_
    exact r_zret C dX0_hasGround_17
  · refine r_iload_n C dX0_hasGround_4 1 rfl ?_
    refine r_aload_n C dX0_hasGround_5 0 rfl ?_
    refine r_gi C wf_X0_43_0 dX0_hasGround_6 (fun x1 => ?_)
    refine r_icmp_ge (tgt := 16) C dX0_hasGround_9 (by decide) ?_ ?_
    · refine r_iconst C dX0_hasGround_16 k_i0 ?_
      exact r_zret C dX0_hasGround_17
    · refine r_iconst C dX0_hasGround_12 k_i1 ?_
      refine r_goto (tgt := 17) C dX0_hasGround_13 (by decide) ?_
      exact r_zret C dX0_hasGround_17
set_option maxRecDepth 100000 in
set_option maxHeartbeats 4000000 in
theorem tcX0_hasPerson (l : Launch) (g : WG) (hg : p_al g = false) (o0 : Nat) (i1 : Int32) (h : PH) : CT l g 1 0 0 yX0_hasPerson cX0_hasPerson 2 (some .boolean) em_i [p_rf g o0, .int i1] h (fX0_hasPerson o0 i1 h) := by
  refine CT_of (own := RX0) (nm := "hasPerson") (by decide +kernel) (Nat.le_of_ble_eq_true rfl) rfl rfl rfl ⟨rfl, rfl⟩ (fun K hK C => ?_)
  subst hK
  unfold fX0_hasPerson
  show VX K g _ _ _ _ _ [(0, p_rf g o0), (1, .int i1)] _ _ _
  refine r_iload_n C dX0_hasPerson_0 1 rfl ?_
  refine r_if_lt (tgt := 16) C dX0_hasPerson_1 (by decide) ?_ ?_
  · refine r_iconst C dX0_hasPerson_16 k_i0 ?_
    exact r_zret C dX0_hasPerson_17
  · refine r_iload_n C dX0_hasPerson_4 1 rfl ?_
    refine r_aload_n C dX0_hasPerson_5 0 rfl ?_
    refine r_gi C wf_X0_47_0 dX0_hasPerson_6 (fun x1 => ?_)
    refine r_icmp_ge (tgt := 16) C dX0_hasPerson_9 (by decide) ?_ ?_
    · refine r_iconst C dX0_hasPerson_16 k_i0 ?_
      exact r_zret C dX0_hasPerson_17
    · refine r_iconst C dX0_hasPerson_12 k_i1 ?_
      refine r_goto (tgt := 17) C dX0_hasPerson_13 (by decide) ?_
      exact r_zret C dX0_hasPerson_17
set_option maxRecDepth 100000 in
set_option maxHeartbeats 4000000 in
theorem tcX0_hasWant (l : Launch) (g : WG) (hg : p_al g = false) (o0 : Nat) (i1 : Int32) (h : PH) : CT l g 1 0 0 yX0_hasWant cX0_hasWant 2 (some .boolean) em_i [p_rf g o0, .int i1] h (fX0_hasWant o0 i1 h) := by
  refine CT_of (own := RX0) (nm := "hasWant") (by decide +kernel) (Nat.le_of_ble_eq_true rfl) rfl rfl rfl ⟨rfl, rfl⟩ (fun K hK C => ?_)
  subst hK
  unfold fX0_hasWant
  show VX K g _ _ _ _ _ [(0, p_rf g o0), (1, .int i1)] _ _ _
  refine r_iload_n C dX0_hasWant_0 1 rfl ?_
  refine r_if_lt (tgt := 16) C dX0_hasWant_1 (by decide) ?_ ?_
  · refine r_iconst C dX0_hasWant_16 k_i0 ?_
    exact r_zret C dX0_hasWant_17
  · refine r_iload_n C dX0_hasWant_4 1 rfl ?_
    refine r_aload_n C dX0_hasWant_5 0 rfl ?_
    refine r_gi C wf_X0_50_0 dX0_hasWant_6 (fun x1 => ?_)
    refine r_icmp_ge (tgt := 16) C dX0_hasWant_9 (by decide) ?_ ?_
    · refine r_iconst C dX0_hasWant_16 k_i0 ?_
      exact r_zret C dX0_hasWant_17
    · refine r_iconst C dX0_hasWant_12 k_i1 ?_
      refine r_goto (tgt := 17) C dX0_hasWant_13 (by decide) ?_
      exact r_zret C dX0_hasWant_17
set_option maxRecDepth 100000 in
set_option maxHeartbeats 4000000 in
theorem tcX0_allWants (l : Launch) (g : WG) (hg : p_al g = false) (o0 : Nat) (h : PH) : CT l g 1 0 0 yX0_allWants cX0_allWants 1 (some .int) em_i [p_rf g o0] h (fX0_allWants o0 h) := by
  refine CT_of (own := RX0) (nm := "allWants") (by decide +kernel) (Nat.le_of_ble_eq_true rfl) rfl rfl rfl ⟨rfl, rfl⟩ (fun K hK C => ?_)
  subst hK
  unfold fX0_allWants
  show VX K g _ _ _ _ _ [(0, p_rf g o0)] _ _ _
  refine r_iconst C dX0_allWants_0 k_i1 ?_
  refine r_aload_n C dX0_allWants_1 0 rfl ?_
  refine r_gi C wf_X0_50_0 dX0_allWants_2 (fun x1 => ?_)
  refine r_ishl C dX0_allWants_5 ?_
  refine r_iconst C dX0_allWants_6 k_i1 ?_
  refine r_isub C dX0_allWants_7 ?_
  exact r_iret C dX0_allWants_8
set_option maxRecDepth 100000 in
set_option maxHeartbeats 4000000 in
theorem tcX0_presentRule (l : Launch) (g : WG) (hg : p_al g = false) (o0 : Nat) (h : PH) : CT l g 1 0 0 yX0_presentRule cX0_presentRule 1 (some (.object "ReasonsSupplied$Rule")) (em_r g) [p_rf g o0] h (fX0_presentRule o0 h) := by
  refine CT_of (own := RX0) (nm := "presentRule") (by decide +kernel) (Nat.le_of_ble_eq_true rfl) rfl rfl rfl ⟨rfl, rfl⟩ (fun K hK C => ?_)
  subst hK
  unfold fX0_presentRule
  show VX K g _ _ _ _ _ [(0, p_rf g o0)] _ _ _
  refine r_aload_n C dX0_presentRule_0 0 rfl ?_
  refine r_gr C wf_X0_36_0 dX0_presentRule_1 (fun q1 => ?_)
  exact r_aret C dX0_presentRule_4
set_option maxRecDepth 100000 in
set_option maxHeartbeats 4000000 in
theorem tcX0_otherRule (l : Launch) (g : WG) (hg : p_al g = false) (o0 : Nat) (h : PH) : CT l g 1 0 0 yX0_otherRule cX0_otherRule 1 (some (.object "ReasonsSupplied$Rule")) (em_r g) [p_rf g o0] h (fX0_otherRule o0 h) := by
  refine CT_of (own := RX0) (nm := "otherRule") (by decide +kernel) (Nat.le_of_ble_eq_true rfl) rfl rfl rfl ⟨rfl, rfl⟩ (fun K hK C => ?_)
  subst hK
  unfold fX0_otherRule
  show VX K g _ _ _ _ _ [(0, p_rf g o0)] _ _ _
  refine r_aload_n C dX0_otherRule_0 0 rfl ?_
  refine r_gr C wf_X0_40_0 dX0_otherRule_1 (fun q1 => ?_)
  exact r_aret C dX0_otherRule_4
set_option maxRecDepth 100000 in
set_option maxHeartbeats 4000000 in
theorem tcX0_takeOtherRule (l : Launch) (g : WG) (hg : p_al g = false) (o0 : Nat) (h : PH) : CT l g 1 0 0 yX0_takeOtherRule cX0_takeOtherRule 2 none em_v [p_rf g o0] h (fX0_takeOtherRule o0 h) := by
  refine CT_of (own := RX0) (nm := "takeOtherRule") (by decide +kernel) (Nat.le_of_ble_eq_true rfl) rfl rfl rfl ⟨rfl, rfl⟩ (fun K hK C => ?_)
  subst hK
  unfold fX0_takeOtherRule
  show VX K g _ _ _ _ _ [(0, p_rf g o0)] _ _ _
  refine r_aload_n C dX0_takeOtherRule_0 0 rfl ?_
  refine r_gr C wf_X0_36_0 dX0_takeOtherRule_1 (fun q1 => ?_)
  refine r_astore_n (lv9 := [(1, p_rf g q1), (0, p_rf g o0)]) C dX0_takeOtherRule_4 (by decide) rfl ?_
  refine r_aload_n C dX0_takeOtherRule_5 1 rfl ?_
  refine r_aload_n C dX0_takeOtherRule_6 1 rfl ?_
  refine r_gr C wf_X0_40_0 dX0_takeOtherRule_7 (fun q2 => ?_)
  refine r_pr C wf_X0_36_0 rfl rfl dX0_takeOtherRule_10 (fun h3 => ?_)
  refine r_aload_n C dX0_takeOtherRule_13 1 rfl ?_
  refine r_aload_n C dX0_takeOtherRule_14 0 rfl ?_
  refine r_pr C wf_X0_40_0 rfl rfl dX0_takeOtherRule_15 (fun h4 => ?_)
  exact r_vret C dX0_takeOtherRule_18
set_option maxRecDepth 100000 in
set_option maxHeartbeats 4000000 in
theorem tcX11_within (l : Launch) (g : WG) (hg : p_al g = false) (i0 : Int32) (i1 : Int32) (i2 : Int32) (h : PH) : CT l g 1 0 0 yX11_within cX11_within 3 (some .boolean) em_i [.int i0, .int i1, .int i2] h (fX11_within i0 i1 i2 h) := by
  refine CT_of (own := RX11) (nm := "within") (by decide +kernel) (Nat.le_of_ble_eq_true rfl) rfl rfl rfl ⟨rfl, rfl⟩ (fun K hK C => ?_)
  subst hK
  unfold fX11_within
  show VX K g _ _ _ _ _ [(0, .int i0), (1, .int i1), (2, .int i2)] _ _ _
  refine r_iload_n C dX11_within_0 0 rfl ?_
  refine r_iload_n C dX11_within_1 1 rfl ?_
  refine r_icmp_lt (tgt := 14) C dX11_within_2 (by decide) ?_ ?_
  · refine r_iconst C dX11_within_14 k_i0 ?_
    exact r_zret C dX11_within_15
  · refine r_iload_n C dX11_within_5 0 rfl ?_
    refine r_iload_n C dX11_within_6 2 rfl ?_
    refine r_icmp_gt (tgt := 14) C dX11_within_7 (by decide) ?_ ?_
    · refine r_iconst C dX11_within_14 k_i0 ?_
      exact r_zret C dX11_within_15
    · refine r_iconst C dX11_within_10 k_i1 ?_
      refine r_goto (tgt := 15) C dX11_within_11 (by decide) ?_
      exact r_zret C dX11_within_15
set_option maxRecDepth 100000 in
set_option maxHeartbeats 4000000 in
theorem tcX7_at (l : Launch) (g : WG) (hg : p_al g = false) (o0 : Nat) (i1 : Int32) (h : PH) : CT l g 2 0 0 yX7_at cX7_at 2 (some .int) em_i [p_rf g o0, .int i1] h (fX7_at o0 i1 h) := by
  refine CT_of (own := RX7) (nm := "at") (by decide +kernel) (Nat.le_of_ble_eq_true rfl) rfl rfl rfl ⟨rfl, rfl⟩ (fun K hK C => ?_)
  subst hK
  unfold fX7_at
  show VX K g _ _ _ _ _ [(0, p_rf g o0), (1, .int i1)] _ _ _
  refine r_iload_n C dX7_at_0 1 rfl ?_
  refine r_iconst C dX7_at_1 k_i0 ?_
  refine r_aload_n C dX7_at_2 0 rfl ?_
  refine r_gi C wf_X7_15_6 dX7_at_3 (fun x1 => ?_)
  refine r_iconst C dX7_at_6 k_i1 ?_
  refine r_isub C dX7_at_7 ?_
  refine r_cni (As := [.int i1, .int (0 : Int32), .int (x1 - (1 : Int32))]) (st := []) C wn_X7_19 (tcX11_within K.2.1 g hg i1 (0 : Int32) (x1 - (1 : Int32)) h) (Nat.le_of_ble_eq_true rfl) rfl rfl (Nat.le_of_ble_eq_true rfl) dX7_at_8 ⟨Nat.le_of_ble_eq_true rfl, Nat.le_of_ble_eq_true rfl⟩ (fun x2 h3 => ?_)
  refine r_if_eq (tgt := 23) C dX7_at_11 (by decide) ?_ ?_
  · refine r_iconst C dX7_at_23 k_im1 ?_
    exact r_iret C dX7_at_24
  · refine r_aload_n C dX7_at_14 0 rfl ?_
    refine r_gr C wf_X7_9_6 dX7_at_15 (fun q4 => ?_)
    refine r_iload_n C dX7_at_18 1 rfl ?_
    refine r_cald C dX7_at_19 (fun x5 => ?_)
    refine r_goto (tgt := 24) C dX7_at_20 (by decide) ?_
    exact r_iret C dX7_at_24
set_option maxRecDepth 100000 in
set_option maxHeartbeats 4000000 in
theorem tcX7_digitAt (l : Launch) (g : WG) (hg : p_al g = false) (o0 : Nat) (i1 : Int32) (h : PH) : CT l g 3 0 0 yX7_digitAt cX7_digitAt 2 (some .int) em_i [p_rf g o0, .int i1] h (fX7_digitAt o0 i1 h) := by
  refine CT_of (own := RX7) (nm := "digitAt") (by decide +kernel) (Nat.le_of_ble_eq_true rfl) rfl rfl rfl ⟨rfl, rfl⟩ (fun K hK C => ?_)
  subst hK
  unfold fX7_digitAt
  show VX K g _ _ _ _ _ [(0, p_rf g o0), (1, .int i1)] _ _ _
  refine r_aload_n C dX7_digitAt_0 0 rfl ?_
  refine r_iload_n C dX7_digitAt_1 1 rfl ?_
  refine r_cvi (As := [.int i1]) (st := []) C wv_X7_23 (tcX7_at K.2.1 g hg o0 i1 h) (Nat.le_of_ble_eq_true rfl) rfl rfl (Nat.le_of_ble_eq_true rfl) dX7_digitAt_2 ⟨Nat.le_of_ble_eq_true rfl, Nat.le_of_ble_eq_true rfl⟩ (fun x1 h2 => ?_)
  refine r_bipush C dX7_digitAt_5 k_b48 ?_
  refine r_isub C dX7_digitAt_7 ?_
  exact r_iret C dX7_digitAt_8
set_option maxRecDepth 100000 in
set_option maxHeartbeats 4000000 in
theorem tX0_addGround_J70_26 {K : AC} {g : WG} (hg : p_al g = false)  (C : Cx K g cX0_addGround 5 RX0 none "addGround" 4 0 0) (o0 : Nat) (o1 : Nat) (i2 : Int32) (i3 : Int32) (s0 : Int32) (s1 : Int32) (s2 : Nat)    {rc : Int32 → PH → Option (Unit × PH)} {kx : PH → Option (Unit × PH)} (hr : ∀ (i3' : Int32) (h : PH), VX K g 5 0 0 (a_fin K g 0 0 em_v) 26 [(0, p_rf g o0), (1, p_rf g o1), (2, .int i2), (3, .int i3')] [] h (rc i3' h)) (hk : ∀  (h : PH), VX K g 5 0 0 (a_fin K g 0 0 em_v) 77 [(0, p_rf g o0)] [] h (kx  h)) (h : PH) : VX K g 5 0 0 (a_fin K g 0 0 em_v) 70 [(0, p_rf g o0), (1, p_rf g o1), (2, .int i2), (3, .int i3)] [.int s0, .int s1, p_rf g s2] h (fX0_addGround_J70_26 rc kx o0 o1 i2 i3 s0 s1 s2 h) := by
  unfold fX0_addGround_J70_26
  refine r_iast C dX0_addGround_70 (fun h1 => ?_)
  refine r_iinc (lv' := [(0, p_rf g o0), (1, p_rf g o1), (2, .int i2)]) C dX0_addGround_71 3 rfl k_i1 (by decide) (fun _ => rfl) (fun x2 => ?_)
  refine r_goto (tgt := 26) C dX0_addGround_74 (by decide) ?_
  refine r_perm (lv' := [(0, p_rf g o0), (1, p_rf g o1), (2, .int i2), (3, .int x2)]) [1, 2, 3, 0] rfl ?_
  exact hr x2 h1
set_option maxRecDepth 100000 in
set_option maxHeartbeats 4000000 in
theorem tX0_addGround_L26 {K : AC} {g : WG} (hg : p_al g = false)  (C : Cx K g cX0_addGround 5 RX0 none "addGround" 4 0 0) (o0 : Nat) (o1 : Nat) (i2 : Int32) {kx : PH → Option (Unit × PH)} (hk : ∀  (h : PH), VX K g 5 0 0 (a_fin K g 0 0 em_v) 77 [(0, p_rf g o0)] [] h (kx h)) : ∀ (n : Nat) (i3 : Int32) (h : PH), VX K g 5 0 0 (a_fin K g 0 0 em_v) 26 [(0, p_rf g o0), (1, p_rf g o1), (2, .int i2), (3, .int i3)] [] h (fX0_addGround_L26 o0 o1 i2 kx n i3 h) := by
  intro n
  induction n with
  | zero =>
    intros
    exact r_none
  | succ n ih =>
    intro i3 h
    rw [fX0_addGround_L26]
    refine r_iload_n C dX0_addGround_26 3 rfl ?_
    refine r_iconst C dX0_addGround_27 k_i4 ?_
    refine r_icmp_ge (tgt := 77) C dX0_addGround_28 (by decide) ?_ ?_
    · refine r_perm (lv' := [(0, p_rf g o0)]) [0] rfl ?_
      exact hk h
    · refine r_aload_n C dX0_addGround_31 1 rfl ?_
      refine r_iload_n C dX0_addGround_32 2 rfl ?_
      refine r_iconst C dX0_addGround_33 k_i2 ?_
      refine r_iadd C dX0_addGround_34 ?_
      refine r_iload_n C dX0_addGround_35 3 rfl ?_
      refine r_iadd C dX0_addGround_36 ?_
      refine r_cvi (As := [.int ((i2 + (2 : Int32)) + i3)]) (st := []) C wv_X0_59 (tcX7_at K.2.1 g hg o1 ((i2 + (2 : Int32)) + i3) h) (Nat.le_of_ble_eq_true rfl) rfl rfl (Nat.le_of_ble_eq_true rfl) dX0_addGround_37 ⟨Nat.le_of_ble_eq_true rfl, Nat.le_of_ble_eq_true rfl⟩ (fun x1 h2 => ?_)
      refine r_istore (lv9 := [(4, .int x1), (0, p_rf g o0), (1, p_rf g o1), (2, .int i2), (3, .int i3)]) C dX0_addGround_40 (by decide) rfl ?_
      refine r_aload_n C dX0_addGround_42 1 rfl ?_
      refine r_gr C wf_X0_15_0 dX0_addGround_43 (fun q3 => ?_)
      refine r_aload_n C dX0_addGround_46 1 rfl ?_
      refine r_gi C wf_X0_43_0 dX0_addGround_47 (fun x4 => ?_)
      refine r_iconst C dX0_addGround_50 k_i4 ?_
      refine r_imul C dX0_addGround_51 ?_
      refine r_iload_n C dX0_addGround_52 4 rfl ?_
      refine r_iadd C dX0_addGround_53 ?_
      refine r_iload C dX0_addGround_54 0 rfl ?_
      refine r_bipush C dX0_addGround_56 k_b45 ?_
      refine r_icmp_ne (tgt := 65) C dX0_addGround_58 (by decide) ?_ ?_
      · refine r_iload C dX0_addGround_65 0 rfl ?_
        refine r_bipush C dX0_addGround_67 k_b48 ?_
        refine r_isub C dX0_addGround_69 ?_
        refine r_perm (lv' := [(0, p_rf g o0), (1, p_rf g o1), (2, .int i2), (3, .int i3)]) [1, 2, 3, 4] rfl ?_
        exact tX0_addGround_J70_26 hg C o0 o1 i2 i3 (x1 - (48 : Int32)) ((x4 * (4 : Int32)) + i3) q3 ih hk h2
      · refine r_iconst C dX0_addGround_61 k_im1 ?_
        refine r_goto (tgt := 70) C dX0_addGround_62 (by decide) ?_
        refine r_perm (lv' := [(0, p_rf g o0), (1, p_rf g o1), (2, .int i2), (3, .int i3)]) [1, 2, 3, 4] rfl ?_
        exact tX0_addGround_J70_26 hg C o0 o1 i2 i3 (-1 : Int32) ((x4 * (4 : Int32)) + i3) q3 ih hk h2
set_option maxRecDepth 100000 in
set_option maxHeartbeats 4000000 in
theorem tcX0_addGround (l : Launch) (g : WG) (hg : p_al g = false) (o0 : Nat) (o1 : Nat) (i2 : Int32) (h : PH) : CT l g 4 0 0 yX0_addGround cX0_addGround 5 none em_v [p_rf g o0, p_rf g o1, .int i2] h (fX0_addGround o0 o1 i2 h) := by
  refine CT_of (own := RX0) (nm := "addGround") (by decide +kernel) (Nat.le_of_ble_eq_true rfl) rfl rfl rfl ⟨rfl, rfl⟩ (fun K hK C => ?_)
  subst hK
  unfold fX0_addGround
  show VX K g _ _ _ _ _ [(0, p_rf g o0), (1, p_rf g o1), (2, .int i2)] _ _ _
  refine r_aload_n C dX0_addGround_0 0 rfl ?_
  refine r_gi C wf_X0_43_0 dX0_addGround_1 (fun x1 => ?_)
  refine r_bipush C dX0_addGround_4 k_b8 ?_
  refine r_icmp_lt (tgt := 10) C dX0_addGround_6 (by decide) ?_ ?_
  · refine r_aload_n C dX0_addGround_10 0 rfl ?_
    refine r_gr C wf_X0_9_0 dX0_addGround_11 (fun q2 => ?_)
    refine r_aload_n C dX0_addGround_14 0 rfl ?_
    refine r_gi C wf_X0_43_0 dX0_addGround_15 (fun x3 => ?_)
    refine r_aload_n C dX0_addGround_18 1 rfl ?_
    refine r_iload_n C dX0_addGround_19 2 rfl ?_
    refine r_cvi (As := [.int i2]) (st := [.int x3, p_rf g q2]) C wv_X0_53 (tcX7_digitAt K.2.1 g hg o1 i2 h) (Nat.le_of_ble_eq_true rfl) rfl rfl (Nat.le_of_ble_eq_true rfl) dX0_addGround_20 ⟨Nat.le_of_ble_eq_true rfl, Nat.le_of_ble_eq_true rfl⟩ (fun x4 h5 => ?_)
    refine r_iast C dX0_addGround_23 (fun h6 => ?_)
    refine r_iconst C dX0_addGround_24 k_i0 ?_
    refine r_istore_n (lv9 := [(3, .int (0 : Int32)), (0, p_rf g o0), (1, p_rf g o1), (2, .int i2)]) C dX0_addGround_25 (by decide) rfl ?_
    refine r_perm (lv' := [(0, p_rf g o0), (1, p_rf g o1), (2, .int i2), (3, .int (0 : Int32))]) [1, 2, 3, 0] rfl ?_
    refine tX0_addGround_L26 hg C o0 o1 i2 (fun h7 => ?_) FU (0 : Int32) h6
    refine r_aload_n C dX0_addGround_77 0 rfl ?_
    refine r_dup C dX0_addGround_78 rfl ?_
    refine r_gi C wf_X0_43_0 dX0_addGround_79 (fun x8 => ?_)
    refine r_iconst C dX0_addGround_82 k_i1 ?_
    refine r_iadd C dX0_addGround_83 ?_
    refine r_pi C wf_X0_43_0 dX0_addGround_84 (fun h9 => ?_)
    exact r_vret C dX0_addGround_87
  · exact r_vret C dX0_addGround_9
set_option maxRecDepth 100000 in
set_option maxHeartbeats 4000000 in
theorem tcX0_addPerson (l : Launch) (g : WG) (hg : p_al g = false) (o0 : Nat) (i1 : Int32) (h : PH) : CT l g 1 0 0 yX0_addPerson cX0_addPerson 2 none em_v [p_rf g o0, .int i1] h (fX0_addPerson o0 i1 h) := by
  refine CT_of (own := RX0) (nm := "addPerson") (by decide +kernel) (Nat.le_of_ble_eq_true rfl) rfl rfl rfl ⟨rfl, rfl⟩ (fun K hK C => ?_)
  subst hK
  unfold fX0_addPerson
  show VX K g _ _ _ _ _ [(0, p_rf g o0), (1, .int i1)] _ _ _
  refine r_aload_n C dX0_addPerson_0 0 rfl ?_
  refine r_gi C wf_X0_47_0 dX0_addPerson_1 (fun x1 => ?_)
  refine r_bipush C dX0_addPerson_4 k_b6 ?_
  refine r_icmp_ge (tgt := 29) C dX0_addPerson_6 (by decide) ?_ ?_
  · exact r_vret C dX0_addPerson_29
  · refine r_aload_n C dX0_addPerson_9 0 rfl ?_
    refine r_gr C wf_X0_18_0 dX0_addPerson_10 (fun q2 => ?_)
    refine r_aload_n C dX0_addPerson_13 0 rfl ?_
    refine r_gi C wf_X0_47_0 dX0_addPerson_14 (fun x3 => ?_)
    refine r_iload_n C dX0_addPerson_17 1 rfl ?_
    refine r_iast C dX0_addPerson_18 (fun h4 => ?_)
    refine r_aload_n C dX0_addPerson_19 0 rfl ?_
    refine r_dup C dX0_addPerson_20 rfl ?_
    refine r_gi C wf_X0_47_0 dX0_addPerson_21 (fun x5 => ?_)
    refine r_iconst C dX0_addPerson_24 k_i1 ?_
    refine r_iadd C dX0_addPerson_25 ?_
    refine r_pi C wf_X0_47_0 dX0_addPerson_26 (fun h6 => ?_)
    exact r_vret C dX0_addPerson_29
set_option maxRecDepth 100000 in
set_option maxHeartbeats 4000000 in
theorem tcX7_size (l : Launch) (g : WG) (hg : p_al g = false) (o0 : Nat) (h : PH) : CT l g 1 0 0 yX7_size cX7_size 1 (some .int) em_i [p_rf g o0] h (fX7_size o0 h) := by
  refine CT_of (own := RX7) (nm := "size") (by decide +kernel) (Nat.le_of_ble_eq_true rfl) rfl rfl rfl ⟨rfl, rfl⟩ (fun K hK C => ?_)
  subst hK
  unfold fX7_size
  show VX K g _ _ _ _ _ [(0, p_rf g o0)] _ _ _
  refine r_aload_n C dX7_size_0 0 rfl ?_
  refine r_gi C wf_X7_15_6 dX7_size_1 (fun x1 => ?_)
  exact r_iret C dX7_size_4
set_option maxRecDepth 100000 in
set_option maxHeartbeats 4000000 in
theorem tX0_addTerms_L5 {K : AC} {g : WG} (hg : p_al g = false)  (C : Cx K g cX0_addTerms 6 RX0 (some .int) "addTerms" 4 0 0) (o0 : Nat) (o1 : Nat) {kx : Int32 → Int32 → PH → Option (Int32 × PH)} (hk : ∀ (i3 : Int32) (i4 : Int32) (h : PH), VX K g 6 0 0 (a_fin K g 0 0 em_i) 89 [(0, p_rf g o0), (3, .int i3), (4, .int i4)] [] h (kx i3 i4 h)) : ∀ (n : Nat) (i3 : Int32) (i4 : Int32) (h : PH), VX K g 6 0 0 (a_fin K g 0 0 em_i) 5 [(0, p_rf g o0), (1, p_rf g o1), (3, .int i3), (4, .int i4)] [] h (fX0_addTerms_L5 o0 o1 kx n i3 i4 h) := by
  intro n
  induction n with
  | zero =>
    intros
    exact r_none
  | succ n ih =>
    intro i3 i4 h
    rw [fX0_addTerms_L5]
    refine r_iload C dX0_addTerms_5 3 rfl ?_
    refine r_iconst C dX0_addTerms_7 k_i3 ?_
    refine r_icmp_ge (tgt := 89) C dX0_addTerms_8 (by decide) ?_ ?_
    · refine r_perm (lv' := [(0, p_rf g o0), (3, .int i3), (4, .int i4)]) [0, 2, 3] rfl ?_
      exact hk i3 i4 h
    · refine r_aload_n C dX0_addTerms_11 1 rfl ?_
      refine r_iload_n C dX0_addTerms_12 2 rfl ?_
      refine r_cvi (As := [.int i3]) (st := []) C wv_X0_59 (tcX7_at K.2.1 g hg o1 i3 h) (Nat.le_of_ble_eq_true rfl) rfl rfl (Nat.le_of_ble_eq_true rfl) dX0_addTerms_13 ⟨Nat.le_of_ble_eq_true rfl, Nat.le_of_ble_eq_true rfl⟩ (fun x1 h2 => ?_)
      refine r_bipush C dX0_addTerms_16 k_b97 ?_
      refine r_bipush C dX0_addTerms_18 k_b100 ?_
      refine r_cni (As := [.int x1, .int (97 : Int32), .int (100 : Int32)]) (st := []) C wn_X0_70 (tcX11_within K.2.1 g hg x1 (97 : Int32) (100 : Int32) h2) (Nat.le_of_ble_eq_true rfl) rfl rfl (Nat.le_of_ble_eq_true rfl) dX0_addTerms_20 ⟨Nat.le_of_ble_eq_true rfl, Nat.le_of_ble_eq_true rfl⟩ (fun x3 h4 => ?_)
      refine r_if_eq (tgt := 89) C dX0_addTerms_23 (by decide) ?_ ?_
      · refine r_perm (lv' := [(0, p_rf g o0), (3, .int i3), (4, .int i4)]) [0, 2, 3] rfl ?_
        exact hk i3 i4 h4
      · refine r_aload_n C dX0_addTerms_26 0 rfl ?_
        refine r_gi C wf_X0_50_0 dX0_addTerms_27 (fun x5 => ?_)
        refine r_iconst C dX0_addTerms_30 k_i3 ?_
        refine r_imul C dX0_addTerms_31 ?_
        refine r_iload C dX0_addTerms_32 3 rfl ?_
        refine r_iadd C dX0_addTerms_34 ?_
        refine r_topi (fun x6 => ?_)
        refine r_istore (lv9 := [(5, .int x6), (0, p_rf g o0), (1, p_rf g o1), (3, .int i3), (4, .int i4)]) C dX0_addTerms_35 (by decide) rfl ?_
        refine r_aload_n C dX0_addTerms_37 1 rfl ?_
        refine r_gr C wf_X0_24_0 dX0_addTerms_38 (fun q7 => ?_)
        refine r_iload C dX0_addTerms_41 0 rfl ?_
        refine r_aload_n C dX0_addTerms_43 2 rfl ?_
        refine r_iload_n C dX0_addTerms_44 3 rfl ?_
        refine r_cvi (As := [.int i3]) (st := [.int x6, p_rf g q7]) C wv_X0_59 (tcX7_at K.2.1 g hg o1 i3 h4) (Nat.le_of_ble_eq_true rfl) rfl rfl (Nat.le_of_ble_eq_true rfl) dX0_addTerms_45 ⟨Nat.le_of_ble_eq_true rfl, Nat.le_of_ble_eq_true rfl⟩ (fun x8 h9 => ?_)
        refine r_bipush C dX0_addTerms_48 k_b97 ?_
        refine r_isub C dX0_addTerms_50 ?_
        refine r_iast C dX0_addTerms_51 (fun h10 => ?_)
        refine r_aload_n C dX0_addTerms_52 1 rfl ?_
        refine r_gr C wf_X0_27_0 dX0_addTerms_53 (fun q11 => ?_)
        refine r_iload C dX0_addTerms_56 0 rfl ?_
        refine r_aload_n C dX0_addTerms_58 2 rfl ?_
        refine r_iload_n C dX0_addTerms_59 3 rfl ?_
        refine r_iconst C dX0_addTerms_60 k_i1 ?_
        refine r_iadd C dX0_addTerms_61 ?_
        refine r_cvi (As := [.int (i3 + (1 : Int32))]) (st := [.int x6, p_rf g q11]) C wv_X0_59 (tcX7_at K.2.1 g hg o1 (i3 + (1 : Int32)) h10) (Nat.le_of_ble_eq_true rfl) rfl rfl (Nat.le_of_ble_eq_true rfl) dX0_addTerms_62 ⟨Nat.le_of_ble_eq_true rfl, Nat.le_of_ble_eq_true rfl⟩ (fun x12 h13 => ?_)
        refine r_iast C dX0_addTerms_65 (fun h14 => ?_)
        refine r_aload_n C dX0_addTerms_66 1 rfl ?_
        refine r_gr C wf_X0_30_0 dX0_addTerms_67 (fun q15 => ?_)
        refine r_iload C dX0_addTerms_70 0 rfl ?_
        refine r_aload_n C dX0_addTerms_72 2 rfl ?_
        refine r_iload_n C dX0_addTerms_73 3 rfl ?_
        refine r_iconst C dX0_addTerms_74 k_i2 ?_
        refine r_iadd C dX0_addTerms_75 ?_
        refine r_cvi (As := [.int (i3 + (2 : Int32))]) (st := [.int x6, p_rf g q15]) C wv_X0_53 (tcX7_digitAt K.2.1 g hg o1 (i3 + (2 : Int32)) h14) (Nat.le_of_ble_eq_true rfl) rfl rfl (Nat.le_of_ble_eq_true rfl) dX0_addTerms_76 ⟨Nat.le_of_ble_eq_true rfl, Nat.le_of_ble_eq_true rfl⟩ (fun x16 h17 => ?_)
        refine r_iast C dX0_addTerms_79 (fun h18 => ?_)
        refine r_iinc (lv' := [(5, .int x6), (0, p_rf g o0), (1, p_rf g o1), (4, .int i4)]) C dX0_addTerms_80 3 rfl k_i3 (by decide) (fun _ => rfl) (fun x19 => ?_)
        refine r_iinc (lv' := [(3, .int x19), (5, .int x6), (0, p_rf g o0), (1, p_rf g o1)]) C dX0_addTerms_83 4 rfl k_i1 (by decide) (fun _ => rfl) (fun x20 => ?_)
        refine r_goto (tgt := 5) C dX0_addTerms_86 (by decide) ?_
        refine r_perm (lv' := [(0, p_rf g o0), (1, p_rf g o1), (3, .int x19), (4, .int x20)]) [3, 4, 1, 0] rfl ?_
        exact ih x19 x20 h18
set_option maxRecDepth 100000 in
set_option maxHeartbeats 4000000 in
theorem tcX0_addTerms (l : Launch) (g : WG) (hg : p_al g = false) (o0 : Nat) (o1 : Nat) (i2 : Int32) (h : PH) : CT l g 4 0 0 yX0_addTerms cX0_addTerms 6 (some .int) em_i [p_rf g o0, p_rf g o1, .int i2] h (fX0_addTerms o0 o1 i2 h) := by
  refine CT_of (own := RX0) (nm := "addTerms") (by decide +kernel) (Nat.le_of_ble_eq_true rfl) rfl rfl rfl ⟨rfl, rfl⟩ (fun K hK C => ?_)
  subst hK
  unfold fX0_addTerms
  show VX K g _ _ _ _ _ [(0, p_rf g o0), (1, p_rf g o1), (2, .int i2)] _ _ _
  refine r_iload_n C dX0_addTerms_0 2 rfl ?_
  refine r_istore_n (lv9 := [(3, .int i2), (0, p_rf g o0), (1, p_rf g o1), (2, .int i2)]) C dX0_addTerms_1 (by decide) rfl ?_
  refine r_iconst C dX0_addTerms_2 k_i0 ?_
  refine r_istore (lv9 := [(4, .int (0 : Int32)), (3, .int i2), (0, p_rf g o0), (1, p_rf g o1), (2, .int i2)]) C dX0_addTerms_3 (by decide) rfl ?_
  refine r_perm (lv' := [(0, p_rf g o0), (1, p_rf g o1), (3, .int i2), (4, .int (0 : Int32))]) [2, 3, 1, 0] rfl ?_
  refine tX0_addTerms_L5 hg C o0 o1 (fun x1 x2 h3 => ?_) FU i2 (0 : Int32) h
  refine r_aload_n C dX0_addTerms_89 0 rfl ?_
  refine r_gr C wf_X0_21_0 dX0_addTerms_90 (fun q4 => ?_)
  refine r_aload_n C dX0_addTerms_93 0 rfl ?_
  refine r_gi C wf_X0_50_0 dX0_addTerms_94 (fun x5 => ?_)
  refine r_iload C dX0_addTerms_97 2 rfl ?_
  refine r_iast C dX0_addTerms_99 (fun h6 => ?_)
  refine r_iload_n C dX0_addTerms_100 1 rfl ?_
  refine r_iconst C dX0_addTerms_101 k_i1 ?_
  refine r_iadd C dX0_addTerms_102 ?_
  exact r_iret C dX0_addTerms_103
set_option maxRecDepth 100000 in
set_option maxHeartbeats 4000000 in
theorem tX0_addWants_L2 {K : AC} {g : WG} (hg : p_al g = false)  (C : Cx K g cX0_addWants 3 RX0 none "addWants" 5 0 0) (o0 : Nat) (o1 : Nat) {kx : PH → Option (Unit × PH)} (hk : ∀  (h : PH), VX K g 3 0 0 (a_fin K g 0 0 em_v) 39 [] [] h (kx h)) : ∀ (n : Nat) (i2 : Int32) (h : PH), VX K g 3 0 0 (a_fin K g 0 0 em_v) 2 [(0, p_rf g o0), (1, p_rf g o1), (2, .int i2)] [] h (fX0_addWants_L2 o0 o1 kx n i2 h) := by
  intro n
  induction n with
  | zero =>
    intros
    exact r_none
  | succ n ih =>
    intro i2 h
    rw [fX0_addWants_L2]
    refine r_iload_n C dX0_addWants_2 2 rfl ?_
    refine r_aload_n C dX0_addWants_3 1 rfl ?_
    refine r_cvi (As := []) (st := [.int i2]) C wv_X0_62 (tcX7_size K.2.1 g hg o1 h) (Nat.le_of_ble_eq_true rfl) rfl rfl (Nat.le_of_ble_eq_true rfl) dX0_addWants_4 ⟨Nat.le_of_ble_eq_true rfl, Nat.le_of_ble_eq_true rfl⟩ (fun x1 h2 => ?_)
    refine r_icmp_ge (tgt := 39) C dX0_addWants_7 (by decide) ?_ ?_
    · refine r_perm (lv' := []) [] rfl ?_
      exact hk h2
    · refine r_aload_n C dX0_addWants_10 0 rfl ?_
      refine r_gi C wf_X0_50_0 dX0_addWants_11 (fun x3 => ?_)
      refine r_bipush C dX0_addWants_14 k_b6 ?_
      refine r_icmp_ge (tgt := 39) C dX0_addWants_16 (by decide) ?_ ?_
      · refine r_perm (lv' := []) [] rfl ?_
        exact hk h2
      · refine r_aload_n C dX0_addWants_19 0 rfl ?_
        refine r_aload_n C dX0_addWants_20 1 rfl ?_
        refine r_iload_n C dX0_addWants_21 2 rfl ?_
        refine r_cvi (As := [p_rf g o1, .int i2]) (st := []) C wv_X0_66 (tcX0_addTerms K.2.1 g hg o0 o1 i2 h2) (Nat.le_of_ble_eq_true rfl) rfl rfl (Nat.le_of_ble_eq_true rfl) dX0_addWants_22 ⟨Nat.le_of_ble_eq_true rfl, Nat.le_of_ble_eq_true rfl⟩ (fun x4 h5 => ?_)
        refine r_istore_n (lv9 := [(2, .int x4), (0, p_rf g o0), (1, p_rf g o1)]) C dX0_addWants_25 (by decide) rfl ?_
        refine r_aload_n C dX0_addWants_26 1 rfl ?_
        refine r_dup C dX0_addWants_27 rfl ?_
        refine r_gi C wf_X0_50_0 dX0_addWants_28 (fun x6 => ?_)
        refine r_iconst C dX0_addWants_31 k_i1 ?_
        refine r_iadd C dX0_addWants_32 ?_
        refine r_pi C wf_X0_50_0 dX0_addWants_33 (fun h7 => ?_)
        refine r_goto (tgt := 2) C dX0_addWants_36 (by decide) ?_
        refine r_perm (lv' := [(0, p_rf g o0), (1, p_rf g o1), (2, .int x4)]) [1, 2, 0] rfl ?_
        exact ih x4 h7
set_option maxRecDepth 100000 in
set_option maxHeartbeats 4000000 in
theorem tcX0_addWants (l : Launch) (g : WG) (hg : p_al g = false) (o0 : Nat) (o1 : Nat) (h : PH) : CT l g 5 0 0 yX0_addWants cX0_addWants 3 none em_v [p_rf g o0, p_rf g o1] h (fX0_addWants o0 o1 h) := by
  refine CT_of (own := RX0) (nm := "addWants") (by decide +kernel) (Nat.le_of_ble_eq_true rfl) rfl rfl rfl ⟨rfl, rfl⟩ (fun K hK C => ?_)
  subst hK
  unfold fX0_addWants
  show VX K g _ _ _ _ _ [(0, p_rf g o0), (1, p_rf g o1)] _ _ _
  refine r_iconst C dX0_addWants_0 k_i0 ?_
  refine r_istore_n (lv9 := [(2, .int (0 : Int32)), (0, p_rf g o0), (1, p_rf g o1)]) C dX0_addWants_1 (by decide) rfl ?_
  refine r_perm (lv' := [(0, p_rf g o0), (1, p_rf g o1), (2, .int (0 : Int32))]) [1, 2, 0] rfl ?_
  refine tX0_addWants_L2 hg C o0 o1 (fun h1 => ?_) FU (0 : Int32) h
  exact r_vret C dX0_addWants_39
set_option maxRecDepth 100000 in
set_option maxHeartbeats 4000000 in
theorem tcX0_gradeOf (l : Launch) (g : WG) (hg : p_al g = false) (o0 : Nat) (i1 : Int32) (h : PH) : CT l g 2 0 0 yX0_gradeOf cX0_gradeOf 2 (some .int) em_i [p_rf g o0, .int i1] h (fX0_gradeOf o0 i1 h) := by
  refine CT_of (own := RX0) (nm := "gradeOf") (by decide +kernel) (Nat.le_of_ble_eq_true rfl) rfl rfl rfl ⟨rfl, rfl⟩ (fun K hK C => ?_)
  subst hK
  unfold fX0_gradeOf
  show VX K g _ _ _ _ _ [(0, p_rf g o0), (1, .int i1)] _ _ _
  refine r_aload_n C dX0_gradeOf_0 0 rfl ?_
  refine r_iload_n C dX0_gradeOf_1 1 rfl ?_
  refine r_cvi (As := [.int i1]) (st := []) C wv_X0_74 (tcX0_hasGround K.2.1 g hg o0 i1 h) (Nat.le_of_ble_eq_true rfl) rfl rfl (Nat.le_of_ble_eq_true rfl) dX0_gradeOf_2 ⟨Nat.le_of_ble_eq_true rfl, Nat.le_of_ble_eq_true rfl⟩ (fun x1 h2 => ?_)
  refine r_if_eq (tgt := 17) C dX0_gradeOf_5 (by decide) ?_ ?_
  · refine r_iconst C dX0_gradeOf_17 k_i0 ?_
    exact r_iret C dX0_gradeOf_18
  · refine r_aload_n C dX0_gradeOf_8 0 rfl ?_
    refine r_gr C wf_X0_9_0 dX0_gradeOf_9 (fun q3 => ?_)
    refine r_iload_n C dX0_gradeOf_12 1 rfl ?_
    refine r_iald C dX0_gradeOf_13 (fun x4 => ?_)
    refine r_goto (tgt := 18) C dX0_gradeOf_14 (by decide) ?_
    exact r_iret C dX0_gradeOf_18
set_option maxRecDepth 100000 in
set_option maxHeartbeats 4000000 in
theorem tcX0_pullOf (l : Launch) (g : WG) (hg : p_al g = false) (o0 : Nat) (i1 : Int32) (i2 : Int32) (h : PH) : CT l g 2 0 0 yX0_pullOf cX0_pullOf 3 (some .int) em_i [p_rf g o0, .int i1, .int i2] h (fX0_pullOf o0 i1 i2 h) := by
  refine CT_of (own := RX0) (nm := "pullOf") (by decide +kernel) (Nat.le_of_ble_eq_true rfl) rfl rfl rfl ⟨rfl, rfl⟩ (fun K hK C => ?_)
  subst hK
  unfold fX0_pullOf
  show VX K g _ _ _ _ _ [(0, p_rf g o0), (1, .int i1), (2, .int i2)] _ _ _
  refine r_aload_n C dX0_pullOf_0 0 rfl ?_
  refine r_iload_n C dX0_pullOf_1 1 rfl ?_
  refine r_cvi (As := [.int i1]) (st := []) C wv_X0_74 (tcX0_hasGround K.2.1 g hg o0 i1 h) (Nat.le_of_ble_eq_true rfl) rfl rfl (Nat.le_of_ble_eq_true rfl) dX0_pullOf_2 ⟨Nat.le_of_ble_eq_true rfl, Nat.le_of_ble_eq_true rfl⟩ (fun x1 h2 => ?_)
  refine r_if_eq (tgt := 30) C dX0_pullOf_5 (by decide) ?_ ?_
  · refine r_iconst C dX0_pullOf_30 k_im1 ?_
    exact r_iret C dX0_pullOf_31
  · refine r_iload_n C dX0_pullOf_8 2 rfl ?_
    refine r_if_lt (tgt := 30) C dX0_pullOf_9 (by decide) ?_ ?_
    · refine r_iconst C dX0_pullOf_30 k_im1 ?_
      exact r_iret C dX0_pullOf_31
    · refine r_iload_n C dX0_pullOf_12 2 rfl ?_
      refine r_iconst C dX0_pullOf_13 k_i4 ?_
      refine r_icmp_ge (tgt := 30) C dX0_pullOf_14 (by decide) ?_ ?_
      · refine r_iconst C dX0_pullOf_30 k_im1 ?_
        exact r_iret C dX0_pullOf_31
      · refine r_aload_n C dX0_pullOf_17 0 rfl ?_
        refine r_gr C wf_X0_15_0 dX0_pullOf_18 (fun q3 => ?_)
        refine r_iload_n C dX0_pullOf_21 1 rfl ?_
        refine r_iconst C dX0_pullOf_22 k_i4 ?_
        refine r_imul C dX0_pullOf_23 ?_
        refine r_iload_n C dX0_pullOf_24 2 rfl ?_
        refine r_iadd C dX0_pullOf_25 ?_
        refine r_iald C dX0_pullOf_26 (fun x4 => ?_)
        refine r_goto (tgt := 31) C dX0_pullOf_27 (by decide) ?_
        exact r_iret C dX0_pullOf_31
set_option maxRecDepth 100000 in
set_option maxHeartbeats 4000000 in
theorem tcX0_strengthOf (l : Launch) (g : WG) (hg : p_al g = false) (o0 : Nat) (i1 : Int32) (h : PH) : CT l g 2 0 0 yX0_strengthOf cX0_strengthOf 2 (some .int) em_i [p_rf g o0, .int i1] h (fX0_strengthOf o0 i1 h) := by
  refine CT_of (own := RX0) (nm := "strengthOf") (by decide +kernel) (Nat.le_of_ble_eq_true rfl) rfl rfl rfl ⟨rfl, rfl⟩ (fun K hK C => ?_)
  subst hK
  unfold fX0_strengthOf
  show VX K g _ _ _ _ _ [(0, p_rf g o0), (1, .int i1)] _ _ _
  refine r_aload_n C dX0_strengthOf_0 0 rfl ?_
  refine r_iload_n C dX0_strengthOf_1 1 rfl ?_
  refine r_cvi (As := [.int i1]) (st := []) C wv_X0_78 (tcX0_hasPerson K.2.1 g hg o0 i1 h) (Nat.le_of_ble_eq_true rfl) rfl rfl (Nat.le_of_ble_eq_true rfl) dX0_strengthOf_2 ⟨Nat.le_of_ble_eq_true rfl, Nat.le_of_ble_eq_true rfl⟩ (fun x1 h2 => ?_)
  refine r_if_eq (tgt := 17) C dX0_strengthOf_5 (by decide) ?_ ?_
  · refine r_iconst C dX0_strengthOf_17 k_i0 ?_
    exact r_iret C dX0_strengthOf_18
  · refine r_aload_n C dX0_strengthOf_8 0 rfl ?_
    refine r_gr C wf_X0_18_0 dX0_strengthOf_9 (fun q3 => ?_)
    refine r_iload_n C dX0_strengthOf_12 1 rfl ?_
    refine r_iald C dX0_strengthOf_13 (fun x4 => ?_)
    refine r_goto (tgt := 18) C dX0_strengthOf_14 (by decide) ?_
    exact r_iret C dX0_strengthOf_18
set_option maxRecDepth 100000 in
set_option maxHeartbeats 4000000 in
theorem tcX0_termsOf (l : Launch) (g : WG) (hg : p_al g = false) (o0 : Nat) (i1 : Int32) (h : PH) : CT l g 2 0 0 yX0_termsOf cX0_termsOf 2 (some .int) em_i [p_rf g o0, .int i1] h (fX0_termsOf o0 i1 h) := by
  refine CT_of (own := RX0) (nm := "termsOf") (by decide +kernel) (Nat.le_of_ble_eq_true rfl) rfl rfl rfl ⟨rfl, rfl⟩ (fun K hK C => ?_)
  subst hK
  unfold fX0_termsOf
  show VX K g _ _ _ _ _ [(0, p_rf g o0), (1, .int i1)] _ _ _
  refine r_aload_n C dX0_termsOf_0 0 rfl ?_
  refine r_iload_n C dX0_termsOf_1 1 rfl ?_
  refine r_cvi (As := [.int i1]) (st := []) C wv_X0_81 (tcX0_hasWant K.2.1 g hg o0 i1 h) (Nat.le_of_ble_eq_true rfl) rfl rfl (Nat.le_of_ble_eq_true rfl) dX0_termsOf_2 ⟨Nat.le_of_ble_eq_true rfl, Nat.le_of_ble_eq_true rfl⟩ (fun x1 h2 => ?_)
  refine r_if_eq (tgt := 17) C dX0_termsOf_5 (by decide) ?_ ?_
  · refine r_iconst C dX0_termsOf_17 k_i0 ?_
    exact r_iret C dX0_termsOf_18
  · refine r_aload_n C dX0_termsOf_8 0 rfl ?_
    refine r_gr C wf_X0_21_0 dX0_termsOf_9 (fun q3 => ?_)
    refine r_iload_n C dX0_termsOf_12 1 rfl ?_
    refine r_iald C dX0_termsOf_13 (fun x4 => ?_)
    refine r_goto (tgt := 18) C dX0_termsOf_14 (by decide) ?_
    exact r_iret C dX0_termsOf_18
set_option maxRecDepth 100000 in
set_option maxHeartbeats 4000000 in
theorem tcX0_humourOfTerm (l : Launch) (g : WG) (hg : p_al g = false) (o0 : Nat) (i1 : Int32) (i2 : Int32) (h : PH) : CT l g 2 0 0 yX0_humourOfTerm cX0_humourOfTerm 3 (some .int) em_i [p_rf g o0, .int i1, .int i2] h (fX0_humourOfTerm o0 i1 i2 h) := by
  refine CT_of (own := RX0) (nm := "humourOfTerm") (by decide +kernel) (Nat.le_of_ble_eq_true rfl) rfl rfl rfl ⟨rfl, rfl⟩ (fun K hK C => ?_)
  subst hK
  unfold fX0_humourOfTerm
  show VX K g _ _ _ _ _ [(0, p_rf g o0), (1, .int i1), (2, .int i2)] _ _ _
  refine r_aload_n C dX0_humourOfTerm_0 0 rfl ?_
  refine r_iload_n C dX0_humourOfTerm_1 1 rfl ?_
  refine r_cvi (As := [.int i1]) (st := []) C wv_X0_81 (tcX0_hasWant K.2.1 g hg o0 i1 h) (Nat.le_of_ble_eq_true rfl) rfl rfl (Nat.le_of_ble_eq_true rfl) dX0_humourOfTerm_2 ⟨Nat.le_of_ble_eq_true rfl, Nat.le_of_ble_eq_true rfl⟩ (fun x1 h2 => ?_)
  refine r_if_eq (tgt := 30) C dX0_humourOfTerm_5 (by decide) ?_ ?_
  · refine r_iconst C dX0_humourOfTerm_30 k_i0 ?_
    exact r_iret C dX0_humourOfTerm_31
  · refine r_iload_n C dX0_humourOfTerm_8 2 rfl ?_
    refine r_if_lt (tgt := 30) C dX0_humourOfTerm_9 (by decide) ?_ ?_
    · refine r_iconst C dX0_humourOfTerm_30 k_i0 ?_
      exact r_iret C dX0_humourOfTerm_31
    · refine r_iload_n C dX0_humourOfTerm_12 2 rfl ?_
      refine r_iconst C dX0_humourOfTerm_13 k_i3 ?_
      refine r_icmp_ge (tgt := 30) C dX0_humourOfTerm_14 (by decide) ?_ ?_
      · refine r_iconst C dX0_humourOfTerm_30 k_i0 ?_
        exact r_iret C dX0_humourOfTerm_31
      · refine r_aload_n C dX0_humourOfTerm_17 0 rfl ?_
        refine r_gr C wf_X0_24_0 dX0_humourOfTerm_18 (fun q3 => ?_)
        refine r_iload_n C dX0_humourOfTerm_21 1 rfl ?_
        refine r_iconst C dX0_humourOfTerm_22 k_i3 ?_
        refine r_imul C dX0_humourOfTerm_23 ?_
        refine r_iload_n C dX0_humourOfTerm_24 2 rfl ?_
        refine r_iadd C dX0_humourOfTerm_25 ?_
        refine r_iald C dX0_humourOfTerm_26 (fun x4 => ?_)
        refine r_goto (tgt := 31) C dX0_humourOfTerm_27 (by decide) ?_
        exact r_iret C dX0_humourOfTerm_31
set_option maxRecDepth 100000 in
set_option maxHeartbeats 4000000 in
theorem tX0_offBy_J61 {K : AC} {g : WG} (hg : p_al g = false)  (C : Cx K g cX0_offBy 6 RX0 (some .int) "offBy" 2 0 0) (s0 : Int32) (s1 : Int32)  (h : PH) : VX K g 6 0 0 (a_fin K g 0 0 em_i) 61 [] [.int s0, .int s1] h (fX0_offBy_J61 s0 s1 h) := by
  unfold fX0_offBy_J61
  refine r_max C wm_X0_84 (Nat.le_of_ble_eq_true rfl) (Nat.le_of_ble_eq_true rfl) ⟨Nat.le_of_ble_eq_true rfl, Nat.le_of_ble_eq_true rfl⟩ dX0_offBy_61 ?_
  exact r_iret C dX0_offBy_64
set_option maxRecDepth 100000 in
set_option maxHeartbeats 4000000 in
theorem tcX0_offBy (l : Launch) (g : WG) (hg : p_al g = false) (o0 : Nat) (i1 : Int32) (i2 : Int32) (i3 : Int32) (h : PH) : CT l g 2 0 0 yX0_offBy cX0_offBy 6 (some .int) em_i [p_rf g o0, .int i1, .int i2, .int i3] h (fX0_offBy o0 i1 i2 i3 h) := by
  refine CT_of (own := RX0) (nm := "offBy") (by decide +kernel) (Nat.le_of_ble_eq_true rfl) rfl rfl rfl ⟨rfl, rfl⟩ (fun K hK C => ?_)
  subst hK
  unfold fX0_offBy
  show VX K g _ _ _ _ _ [(0, p_rf g o0), (1, .int i1), (2, .int i2), (3, .int i3)] _ _ _
  refine r_aload_n C dX0_offBy_0 0 rfl ?_
  refine r_iload_n C dX0_offBy_1 1 rfl ?_
  refine r_cvi (As := [.int i1]) (st := []) C wv_X0_81 (tcX0_hasWant K.2.1 g hg o0 i1 h) (Nat.le_of_ble_eq_true rfl) rfl rfl (Nat.le_of_ble_eq_true rfl) dX0_offBy_2 ⟨Nat.le_of_ble_eq_true rfl, Nat.le_of_ble_eq_true rfl⟩ (fun x1 h2 => ?_)
  refine r_if_eq (tgt := 17) C dX0_offBy_5 (by decide) ?_ ?_
  · refine r_iconst C dX0_offBy_17 k_i0 ?_
    exact r_iret C dX0_offBy_18
  · refine r_iload_n C dX0_offBy_8 2 rfl ?_
    refine r_if_lt (tgt := 17) C dX0_offBy_9 (by decide) ?_ ?_
    · refine r_iconst C dX0_offBy_17 k_i0 ?_
      exact r_iret C dX0_offBy_18
    · refine r_iload_n C dX0_offBy_12 2 rfl ?_
      refine r_iconst C dX0_offBy_13 k_i3 ?_
      refine r_icmp_lt (tgt := 19) C dX0_offBy_14 (by decide) ?_ ?_
      · refine r_iload_n C dX0_offBy_19 1 rfl ?_
        refine r_iconst C dX0_offBy_20 k_i3 ?_
        refine r_imul C dX0_offBy_21 ?_
        refine r_iload_n C dX0_offBy_22 2 rfl ?_
        refine r_iadd C dX0_offBy_23 ?_
        refine r_topi (fun x3 => ?_)
        refine r_istore (lv9 := [(4, .int x3), (0, p_rf g o0), (1, .int i1), (2, .int i2), (3, .int i3)]) C dX0_offBy_24 (by decide) rfl ?_
        refine r_iload_n C dX0_offBy_26 4 rfl ?_
        refine r_aload_n C dX0_offBy_27 1 rfl ?_
        refine r_gr C wf_X0_30_0 dX0_offBy_28 (fun q4 => ?_)
        refine r_iload C dX0_offBy_31 0 rfl ?_
        refine r_iald C dX0_offBy_33 (fun x5 => ?_)
        refine r_isub C dX0_offBy_34 ?_
        refine r_topi (fun x6 => ?_)
        refine r_istore (lv9 := [(5, .int x6), (4, .int x3), (0, p_rf g o0), (1, .int i1), (2, .int i2), (3, .int i3)]) C dX0_offBy_35 (by decide) rfl ?_
        refine r_iconst C dX0_offBy_37 k_i0 ?_
        refine r_aload_n C dX0_offBy_38 2 rfl ?_
        refine r_gr C wf_X0_27_0 dX0_offBy_39 (fun q7 => ?_)
        refine r_iload C dX0_offBy_42 1 rfl ?_
        refine r_iald C dX0_offBy_44 (fun x8 => ?_)
        refine r_bipush C dX0_offBy_45 k_b60 ?_
        refine r_icmp_ne (tgt := 57) C dX0_offBy_47 (by decide) ?_ ?_
        · refine r_iconst C dX0_offBy_57 k_i1 ?_
          refine r_iload C dX0_offBy_58 0 rfl ?_
          refine r_isub C dX0_offBy_60 ?_
          refine r_perm (lv' := []) [] rfl ?_
          exact tX0_offBy_J61 hg C ((1 : Int32) - x6) (0 : Int32) h2
        · refine r_iload C dX0_offBy_50 0 rfl ?_
          refine r_iconst C dX0_offBy_52 k_i1 ?_
          refine r_iadd C dX0_offBy_53 ?_
          refine r_goto (tgt := 61) C dX0_offBy_54 (by decide) ?_
          refine r_perm (lv' := []) [] rfl ?_
          exact tX0_offBy_J61 hg C (x6 + (1 : Int32)) (0 : Int32) h2
      · refine r_iconst C dX0_offBy_17 k_i0 ?_
        exact r_iret C dX0_offBy_18
set_option maxRecDepth 100000 in
set_option maxHeartbeats 4000000 in
theorem tX0_areAtOdds_J53_3 {K : AC} {g : WG} (hg : p_al g = false)  (C : Cx K g cX0_areAtOdds 7 RX0 (some .boolean) "areAtOdds" 3 0 0) (o0 : Nat) (i1 : Int32) (i2 : Int32) (i3 : Int32) (i4 : Int32)    {rc : Int32 → PH → Option (Int32 × PH)} {kx : PH → Option (Int32 × PH)} (hr : ∀ (i4' : Int32) (h : PH), VX K g 7 0 0 (a_fin K g 0 0 em_i) 3 [(0, p_rf g o0), (1, .int i1), (2, .int i2), (3, .int i3), (4, .int i4')] [] h (rc i4' h)) (hk : ∀  (h : PH), VX K g 7 0 0 (a_fin K g 0 0 em_i) 59 [] [] h (kx  h)) (h : PH) : VX K g 7 0 0 (a_fin K g 0 0 em_i) 53 [(0, p_rf g o0), (1, .int i1), (2, .int i2), (3, .int i3), (4, .int i4)] [] h (fX0_areAtOdds_J53_3 rc kx o0 i1 i2 i3 i4 h) := by
  unfold fX0_areAtOdds_J53_3
  refine r_iinc (lv' := [(0, p_rf g o0), (1, .int i1), (2, .int i2), (3, .int i3)]) C dX0_areAtOdds_53 4 rfl k_i1 (by decide) (fun _ => rfl) (fun x1 => ?_)
  refine r_goto (tgt := 3) C dX0_areAtOdds_56 (by decide) ?_
  refine r_perm (lv' := [(0, p_rf g o0), (1, .int i1), (2, .int i2), (3, .int i3), (4, .int x1)]) [1, 2, 3, 4, 0] rfl ?_
  exact hr x1 h
set_option maxRecDepth 100000 in
set_option maxHeartbeats 4000000 in
theorem tX0_areAtOdds_L3 {K : AC} {g : WG} (hg : p_al g = false)  (C : Cx K g cX0_areAtOdds 7 RX0 (some .boolean) "areAtOdds" 3 0 0) (o0 : Nat) (i1 : Int32) (i2 : Int32) (i3 : Int32) {kx : PH → Option (Int32 × PH)} (hk : ∀  (h : PH), VX K g 7 0 0 (a_fin K g 0 0 em_i) 59 [] [] h (kx h)) : ∀ (n : Nat) (i4 : Int32) (h : PH), VX K g 7 0 0 (a_fin K g 0 0 em_i) 3 [(0, p_rf g o0), (1, .int i1), (2, .int i2), (3, .int i3), (4, .int i4)] [] h (fX0_areAtOdds_L3 o0 i1 i2 i3 kx n i4 h) := by
  intro n
  induction n with
  | zero =>
    intros
    exact r_none
  | succ n ih =>
    intro i4 h
    rw [fX0_areAtOdds_L3]
    refine r_iload C dX0_areAtOdds_3 4 rfl ?_
    refine r_iconst C dX0_areAtOdds_5 k_i4 ?_
    refine r_icmp_ge (tgt := 59) C dX0_areAtOdds_6 (by decide) ?_ ?_
    · refine r_perm (lv' := []) [] rfl ?_
      exact hk h
    · refine r_aload_n C dX0_areAtOdds_9 0 rfl ?_
      refine r_iload_n C dX0_areAtOdds_10 1 rfl ?_
      refine r_iload C dX0_areAtOdds_11 4 rfl ?_
      refine r_cvi (As := [.int i1, .int i4]) (st := []) C wv_X0_90 (tcX0_pullOf K.2.1 g hg o0 i1 i4 h) (Nat.le_of_ble_eq_true rfl) rfl rfl (Nat.le_of_ble_eq_true rfl) dX0_areAtOdds_13 ⟨Nat.le_of_ble_eq_true rfl, Nat.le_of_ble_eq_true rfl⟩ (fun x1 h2 => ?_)
      refine r_istore (lv9 := [(5, .int x1), (0, p_rf g o0), (1, .int i1), (2, .int i2), (3, .int i3), (4, .int i4)]) C dX0_areAtOdds_16 (by decide) rfl ?_
      refine r_aload_n C dX0_areAtOdds_18 1 rfl ?_
      refine r_iload_n C dX0_areAtOdds_19 3 rfl ?_
      refine r_iload C dX0_areAtOdds_20 5 rfl ?_
      refine r_cvi (As := [.int i2, .int i4]) (st := []) C wv_X0_90 (tcX0_pullOf K.2.1 g hg o0 i2 i4 h2) (Nat.le_of_ble_eq_true rfl) rfl rfl (Nat.le_of_ble_eq_true rfl) dX0_areAtOdds_22 ⟨Nat.le_of_ble_eq_true rfl, Nat.le_of_ble_eq_true rfl⟩ (fun x3 h4 => ?_)
      refine r_istore (lv9 := [(6, .int x3), (5, .int x1), (0, p_rf g o0), (1, .int i1), (2, .int i2), (3, .int i3), (4, .int i4)]) C dX0_areAtOdds_25 (by decide) rfl ?_
      refine r_iload C dX0_areAtOdds_27 1 rfl ?_
      refine r_iconst C dX0_areAtOdds_29 k_im1 ?_
      refine r_icmp_eq (tgt := 53) C dX0_areAtOdds_30 (by decide) ?_ ?_
      · refine r_perm (lv' := [(0, p_rf g o0), (1, .int i1), (2, .int i2), (3, .int i3), (4, .int i4)]) [2, 3, 4, 5, 6] rfl ?_
        exact tX0_areAtOdds_J53_3 hg C o0 i1 i2 i3 i4 ih hk h4
      · refine r_iload C dX0_areAtOdds_33 0 rfl ?_
        refine r_iconst C dX0_areAtOdds_35 k_im1 ?_
        refine r_icmp_eq (tgt := 53) C dX0_areAtOdds_36 (by decide) ?_ ?_
        · refine r_perm (lv' := [(0, p_rf g o0), (1, .int i1), (2, .int i2), (3, .int i3), (4, .int i4)]) [2, 3, 4, 5, 6] rfl ?_
          exact tX0_areAtOdds_J53_3 hg C o0 i1 i2 i3 i4 ih hk h4
        · refine r_iload C dX0_areAtOdds_39 1 rfl ?_
          refine r_iload C dX0_areAtOdds_41 0 rfl ?_
          refine r_isub C dX0_areAtOdds_43 ?_
          refine r_topi (fun x5 => ?_)
          refine r_abs C wm_X0_93 (Nat.le_of_ble_eq_true rfl) (Nat.le_of_ble_eq_true rfl) ⟨Nat.le_of_ble_eq_true rfl, Nat.le_of_ble_eq_true rfl⟩ dX0_areAtOdds_44 ?_
          refine r_iload_n C dX0_areAtOdds_47 5 rfl ?_
          refine r_icmp_le (tgt := 53) C dX0_areAtOdds_48 (by decide) ?_ ?_
          · refine r_perm (lv' := [(0, p_rf g o0), (1, .int i1), (2, .int i2), (3, .int i3), (4, .int i4)]) [2, 3, 4, 5, 6] rfl ?_
            exact tX0_areAtOdds_J53_3 hg C o0 i1 i2 i3 i4 ih hk h4
          · refine r_iconst C dX0_areAtOdds_51 k_i1 ?_
            exact r_zret C dX0_areAtOdds_52
set_option maxRecDepth 100000 in
set_option maxHeartbeats 4000000 in
theorem tcX0_areAtOdds (l : Launch) (g : WG) (hg : p_al g = false) (o0 : Nat) (i1 : Int32) (i2 : Int32) (i3 : Int32) (h : PH) : CT l g 3 0 0 yX0_areAtOdds cX0_areAtOdds 7 (some .boolean) em_i [p_rf g o0, .int i1, .int i2, .int i3] h (fX0_areAtOdds o0 i1 i2 i3 h) := by
  refine CT_of (own := RX0) (nm := "areAtOdds") (by decide +kernel) (Nat.le_of_ble_eq_true rfl) rfl rfl rfl ⟨rfl, rfl⟩ (fun K hK C => ?_)
  subst hK
  unfold fX0_areAtOdds
  show VX K g _ _ _ _ _ [(0, p_rf g o0), (1, .int i1), (2, .int i2), (3, .int i3)] _ _ _
  refine r_iconst C dX0_areAtOdds_0 k_i0 ?_
  refine r_istore (lv9 := [(4, .int (0 : Int32)), (0, p_rf g o0), (1, .int i1), (2, .int i2), (3, .int i3)]) C dX0_areAtOdds_1 (by decide) rfl ?_
  refine r_perm (lv' := [(0, p_rf g o0), (1, .int i1), (2, .int i2), (3, .int i3), (4, .int (0 : Int32))]) [1, 2, 3, 4, 0] rfl ?_
  refine tX0_areAtOdds_L3 hg C o0 i1 i2 i3 (fun h1 => ?_) FU (0 : Int32) h
  refine r_iconst C dX0_areAtOdds_59 k_i0 ?_
  exact r_zret C dX0_areAtOdds_60
set_option maxRecDepth 100000 in
set_option maxHeartbeats 4000000 in
theorem tcX11_isIn (l : Launch) (g : WG) (hg : p_al g = false) (i0 : Int32) (i1 : Int32) (h : PH) : CT l g 1 0 0 yX11_isIn cX11_isIn 2 (some .boolean) em_i [.int i0, .int i1] h (fX11_isIn i0 i1 h) := by
  refine CT_of (own := RX11) (nm := "isIn") (by decide +kernel) (Nat.le_of_ble_eq_true rfl) rfl rfl rfl ⟨rfl, rfl⟩ (fun K hK C => ?_)
  subst hK
  unfold fX11_isIn
  show VX K g _ _ _ _ _ [(0, .int i0), (1, .int i1)] _ _ _
  refine r_iload_n C dX11_isIn_0 1 rfl ?_
  refine r_iload_n C dX11_isIn_1 0 rfl ?_
  refine r_ishr C dX11_isIn_2 ?_
  refine r_iconst C dX11_isIn_3 k_i1 ?_
  refine r_iand C dX11_isIn_4 ?_
  refine r_iconst C dX11_isIn_5 k_i1 ?_
  refine r_icmp_ne (tgt := 13) C dX11_isIn_6 (by decide) ?_ ?_
  · refine r_iconst C dX11_isIn_13 k_i0 ?_
    exact r_zret C dX11_isIn_14
  · refine r_iconst C dX11_isIn_9 k_i1 ?_
    refine r_goto (tgt := 14) C dX11_isIn_10 (by decide) ?_
    exact r_zret C dX11_isIn_14
set_option maxRecDepth 100000 in
set_option maxHeartbeats 4000000 in
theorem tX0_areAtPeace_J54_15 {K : AC} {g : WG} (hg : p_al g = false)  (C : Cx K g cX0_areAtPeace 5 RX0 (some .boolean) "areAtPeace" 4 0 0) (o0 : Nat) (i1 : Int32) (i2 : Int32) (i3 : Int32) (i4 : Int32)    {rc : Int32 → PH → Option (Int32 × PH)} {kx : PH → Option (Int32 × PH)} (hr : ∀ (i4' : Int32) (h : PH), VX K g 5 0 0 (a_fin K g 0 0 em_i) 15 [(0, p_rf g o0), (1, .int i1), (2, .int i2), (3, .int i3), (4, .int i4')] [] h (rc i4' h)) (hk : ∀  (h : PH), VX K g 5 0 0 (a_fin K g 0 0 em_i) 60 [(0, p_rf g o0), (1, .int i1), (2, .int i2), (3, .int i3)] [] h (kx  h)) (h : PH) : VX K g 5 0 0 (a_fin K g 0 0 em_i) 54 [(0, p_rf g o0), (1, .int i1), (2, .int i2), (3, .int i3), (4, .int i4)] [] h (fX0_areAtPeace_J54_15 rc kx o0 i1 i2 i3 i4 h) := by
  unfold fX0_areAtPeace_J54_15
  refine r_iinc (lv' := [(0, p_rf g o0), (1, .int i1), (2, .int i2), (3, .int i3)]) C dX0_areAtPeace_54 4 rfl k_i1 (by decide) (fun _ => rfl) (fun x1 => ?_)
  refine r_goto (tgt := 15) C dX0_areAtPeace_57 (by decide) ?_
  refine r_perm (lv' := [(0, p_rf g o0), (1, .int i1), (2, .int i2), (3, .int i3), (4, .int x1)]) [1, 2, 3, 4, 0] rfl ?_
  exact hr x1 h
set_option maxRecDepth 100000 in
set_option maxHeartbeats 4000000 in
theorem tX0_areAtPeace_L15 {K : AC} {g : WG} (hg : p_al g = false)  (C : Cx K g cX0_areAtPeace 5 RX0 (some .boolean) "areAtPeace" 4 0 0) (o0 : Nat) (i1 : Int32) (i2 : Int32) (i3 : Int32) {kx : PH → Option (Int32 × PH)} (hk : ∀  (h : PH), VX K g 5 0 0 (a_fin K g 0 0 em_i) 60 [(0, p_rf g o0), (1, .int i1), (2, .int i2), (3, .int i3)] [] h (kx h)) : ∀ (n : Nat) (i4 : Int32) (h : PH), VX K g 5 0 0 (a_fin K g 0 0 em_i) 15 [(0, p_rf g o0), (1, .int i1), (2, .int i2), (3, .int i3), (4, .int i4)] [] h (fX0_areAtPeace_L15 o0 i1 i2 i3 kx n i4 h) := by
  intro n
  induction n with
  | zero =>
    intros
    exact r_none
  | succ n ih =>
    intro i4 h
    rw [fX0_areAtPeace_L15]
    refine r_iload C dX0_areAtPeace_15 4 rfl ?_
    refine r_aload_n C dX0_areAtPeace_17 0 rfl ?_
    refine r_gi C wf_X0_43_0 dX0_areAtPeace_18 (fun x1 => ?_)
    refine r_icmp_ge (tgt := 60) C dX0_areAtPeace_21 (by decide) ?_ ?_
    · refine r_perm (lv' := [(0, p_rf g o0), (1, .int i1), (2, .int i2), (3, .int i3)]) [0, 1, 2, 3] rfl ?_
      exact hk h
    · refine r_iload_n C dX0_areAtPeace_24 3 rfl ?_
      refine r_iload_n C dX0_areAtPeace_25 1 rfl ?_
      refine r_cni (As := [.int i3, .int i1]) (st := []) C wn_X0_96 (tcX11_isIn K.2.1 g hg i3 i1 h) (Nat.le_of_ble_eq_true rfl) rfl rfl (Nat.le_of_ble_eq_true rfl) dX0_areAtPeace_26 ⟨Nat.le_of_ble_eq_true rfl, Nat.le_of_ble_eq_true rfl⟩ (fun x2 h3 => ?_)
      refine r_if_eq (tgt := 54) C dX0_areAtPeace_29 (by decide) ?_ ?_
      · exact tX0_areAtPeace_J54_15 hg C o0 i1 i2 i3 i4 ih hk h3
      · refine r_iload C dX0_areAtPeace_32 4 rfl ?_
        refine r_iload_n C dX0_areAtPeace_34 1 rfl ?_
        refine r_cni (As := [.int i4, .int i1]) (st := []) C wn_X0_96 (tcX11_isIn K.2.1 g hg i4 i1 h3) (Nat.le_of_ble_eq_true rfl) rfl rfl (Nat.le_of_ble_eq_true rfl) dX0_areAtPeace_35 ⟨Nat.le_of_ble_eq_true rfl, Nat.le_of_ble_eq_true rfl⟩ (fun x4 h5 => ?_)
        refine r_if_eq (tgt := 54) C dX0_areAtPeace_38 (by decide) ?_ ?_
        · exact tX0_areAtPeace_J54_15 hg C o0 i1 i2 i3 i4 ih hk h5
        · refine r_aload_n C dX0_areAtPeace_41 0 rfl ?_
          refine r_iload_n C dX0_areAtPeace_42 3 rfl ?_
          refine r_iload C dX0_areAtPeace_43 4 rfl ?_
          refine r_iload_n C dX0_areAtPeace_45 2 rfl ?_
          refine r_cvi (As := [.int i3, .int i4, .int i2]) (st := []) C wv_X0_100 (tcX0_areAtOdds K.2.1 g hg o0 i3 i4 i2 h5) (Nat.le_of_ble_eq_true rfl) rfl rfl (Nat.le_of_ble_eq_true rfl) dX0_areAtPeace_46 ⟨Nat.le_of_ble_eq_true rfl, Nat.le_of_ble_eq_true rfl⟩ (fun x6 h7 => ?_)
          refine r_if_eq (tgt := 54) C dX0_areAtPeace_49 (by decide) ?_ ?_
          · exact tX0_areAtPeace_J54_15 hg C o0 i1 i2 i3 i4 ih hk h7
          · refine r_iconst C dX0_areAtPeace_52 k_i0 ?_
            exact r_zret C dX0_areAtPeace_53
set_option maxRecDepth 100000 in
set_option maxHeartbeats 4000000 in
theorem tX0_areAtPeace_L2 {K : AC} {g : WG} (hg : p_al g = false)  (C : Cx K g cX0_areAtPeace 5 RX0 (some .boolean) "areAtPeace" 4 0 0) (o0 : Nat) (i1 : Int32) (i2 : Int32) {kx : PH → Option (Int32 × PH)} (hk : ∀  (h : PH), VX K g 5 0 0 (a_fin K g 0 0 em_i) 66 [] [] h (kx h)) : ∀ (n : Nat) (i3 : Int32) (h : PH), VX K g 5 0 0 (a_fin K g 0 0 em_i) 2 [(0, p_rf g o0), (1, .int i1), (2, .int i2), (3, .int i3)] [] h (fX0_areAtPeace_L2 o0 i1 i2 kx n i3 h) := by
  intro n
  induction n with
  | zero =>
    intros
    exact r_none
  | succ n ih =>
    intro i3 h
    rw [fX0_areAtPeace_L2]
    refine r_iload_n C dX0_areAtPeace_2 3 rfl ?_
    refine r_aload_n C dX0_areAtPeace_3 0 rfl ?_
    refine r_gi C wf_X0_43_0 dX0_areAtPeace_4 (fun x1 => ?_)
    refine r_icmp_ge (tgt := 66) C dX0_areAtPeace_7 (by decide) ?_ ?_
    · refine r_perm (lv' := []) [] rfl ?_
      exact hk h
    · refine r_iload_n C dX0_areAtPeace_10 3 rfl ?_
      refine r_iconst C dX0_areAtPeace_11 k_i1 ?_
      refine r_iadd C dX0_areAtPeace_12 ?_
      refine r_topi (fun x2 => ?_)
      refine r_istore (lv9 := [(4, .int x2), (0, p_rf g o0), (1, .int i1), (2, .int i2), (3, .int i3)]) C dX0_areAtPeace_13 (by decide) rfl ?_
      refine r_perm (lv' := [(0, p_rf g o0), (1, .int i1), (2, .int i2), (3, .int i3), (4, .int x2)]) [1, 2, 3, 4, 0] rfl ?_
      refine tX0_areAtPeace_L15 hg C o0 i1 i2 i3 (fun h3 => ?_) FU x2 h
      refine r_iinc (lv' := [(0, p_rf g o0), (1, .int i1), (2, .int i2)]) C dX0_areAtPeace_60 3 rfl k_i1 (by decide) (fun _ => rfl) (fun x4 => ?_)
      refine r_goto (tgt := 2) C dX0_areAtPeace_63 (by decide) ?_
      refine r_perm (lv' := [(0, p_rf g o0), (1, .int i1), (2, .int i2), (3, .int x4)]) [1, 2, 3, 0] rfl ?_
      exact ih x4 h3
set_option maxRecDepth 100000 in
set_option maxHeartbeats 4000000 in
theorem tcX0_areAtPeace (l : Launch) (g : WG) (hg : p_al g = false) (o0 : Nat) (i1 : Int32) (i2 : Int32) (h : PH) : CT l g 4 0 0 yX0_areAtPeace cX0_areAtPeace 5 (some .boolean) em_i [p_rf g o0, .int i1, .int i2] h (fX0_areAtPeace o0 i1 i2 h) := by
  refine CT_of (own := RX0) (nm := "areAtPeace") (by decide +kernel) (Nat.le_of_ble_eq_true rfl) rfl rfl rfl ⟨rfl, rfl⟩ (fun K hK C => ?_)
  subst hK
  unfold fX0_areAtPeace
  show VX K g _ _ _ _ _ [(0, p_rf g o0), (1, .int i1), (2, .int i2)] _ _ _
  refine r_iconst C dX0_areAtPeace_0 k_i0 ?_
  refine r_istore_n (lv9 := [(3, .int (0 : Int32)), (0, p_rf g o0), (1, .int i1), (2, .int i2)]) C dX0_areAtPeace_1 (by decide) rfl ?_
  refine r_perm (lv' := [(0, p_rf g o0), (1, .int i1), (2, .int i2), (3, .int (0 : Int32))]) [1, 2, 3, 0] rfl ?_
  refine tX0_areAtPeace_L2 hg C o0 i1 i2 (fun h1 => ?_) FU (0 : Int32) h
  refine r_iconst C dX0_areAtPeace_66 k_i1 ?_
  exact r_zret C dX0_areAtPeace_67
set_option maxRecDepth 100000 in
set_option maxHeartbeats 4000000 in
theorem tX0_meanPull_J50_8 {K : AC} {g : WG} (hg : p_al g = false)  (C : Cx K g cX0_meanPull 6 RX0 (some .int) "meanPull" 3 0 0) (o0 : Nat) (i1 : Int32) (i2 : Int32) (i3 : Int32) (i4 : Int32) (i5 : Int32)    {rc : Int32 → Int32 → Int32 → PH → Option (Int32 × PH)} {kx : Int32 → Int32 → PH → Option (Int32 × PH)} (hr : ∀ (i3' : Int32) (i4' : Int32) (i5' : Int32) (h : PH), VX K g 6 0 0 (a_fin K g 0 0 em_i) 8 [(0, p_rf g o0), (1, .int i1), (2, .int i2), (3, .int i3'), (4, .int i4'), (5, .int i5')] [] h (rc i3' i4' i5' h)) (hk : ∀ (i3' : Int32) (i4' : Int32) (h : PH), VX K g 6 0 0 (a_fin K g 0 0 em_i) 56 [(3, .int i3'), (4, .int i4')] [] h (kx i3' i4' h)) (h : PH) : VX K g 6 0 0 (a_fin K g 0 0 em_i) 50 [(0, p_rf g o0), (1, .int i1), (2, .int i2), (3, .int i3), (4, .int i4), (5, .int i5)] [] h (fX0_meanPull_J50_8 rc kx o0 i1 i2 i3 i4 i5 h) := by
  unfold fX0_meanPull_J50_8
  refine r_iinc (lv' := [(0, p_rf g o0), (1, .int i1), (2, .int i2), (3, .int i3), (4, .int i4)]) C dX0_meanPull_50 5 rfl k_i1 (by decide) (fun _ => rfl) (fun x1 => ?_)
  refine r_goto (tgt := 8) C dX0_meanPull_53 (by decide) ?_
  refine r_perm (lv' := [(0, p_rf g o0), (1, .int i1), (2, .int i2), (3, .int i3), (4, .int i4), (5, .int x1)]) [1, 2, 3, 4, 5, 0] rfl ?_
  exact hr i3 i4 x1 h
set_option maxRecDepth 100000 in
set_option maxHeartbeats 4000000 in
theorem tX0_meanPull_L8 {K : AC} {g : WG} (hg : p_al g = false)  (C : Cx K g cX0_meanPull 6 RX0 (some .int) "meanPull" 3 0 0) (o0 : Nat) (i1 : Int32) (i2 : Int32) {kx : Int32 → Int32 → PH → Option (Int32 × PH)} (hk : ∀ (i3 : Int32) (i4 : Int32) (h : PH), VX K g 6 0 0 (a_fin K g 0 0 em_i) 56 [(3, .int i3), (4, .int i4)] [] h (kx i3 i4 h)) : ∀ (n : Nat) (i3 : Int32) (i4 : Int32) (i5 : Int32) (h : PH), VX K g 6 0 0 (a_fin K g 0 0 em_i) 8 [(0, p_rf g o0), (1, .int i1), (2, .int i2), (3, .int i3), (4, .int i4), (5, .int i5)] [] h (fX0_meanPull_L8 o0 i1 i2 kx n i3 i4 i5 h) := by
  intro n
  induction n with
  | zero =>
    intros
    exact r_none
  | succ n ih =>
    intro i3 i4 i5 h
    rw [fX0_meanPull_L8]
    refine r_iload C dX0_meanPull_8 5 rfl ?_
    refine r_aload_n C dX0_meanPull_10 0 rfl ?_
    refine r_gi C wf_X0_43_0 dX0_meanPull_11 (fun x1 => ?_)
    refine r_icmp_ge (tgt := 56) C dX0_meanPull_14 (by decide) ?_ ?_
    · refine r_perm (lv' := [(3, .int i3), (4, .int i4)]) [3, 4] rfl ?_
      exact hk i3 i4 h
    · refine r_iload C dX0_meanPull_17 5 rfl ?_
      refine r_iload_n C dX0_meanPull_19 1 rfl ?_
      refine r_cni (As := [.int i5, .int i1]) (st := []) C wn_X0_96 (tcX11_isIn K.2.1 g hg i5 i1 h) (Nat.le_of_ble_eq_true rfl) rfl rfl (Nat.le_of_ble_eq_true rfl) dX0_meanPull_20 ⟨Nat.le_of_ble_eq_true rfl, Nat.le_of_ble_eq_true rfl⟩ (fun x2 h3 => ?_)
      refine r_if_eq (tgt := 50) C dX0_meanPull_23 (by decide) ?_ ?_
      · exact tX0_meanPull_J50_8 hg C o0 i1 i2 i3 i4 i5 ih hk h3
      · refine r_aload_n C dX0_meanPull_26 0 rfl ?_
        refine r_iload C dX0_meanPull_27 5 rfl ?_
        refine r_iload_n C dX0_meanPull_29 2 rfl ?_
        refine r_cvi (As := [.int i5, .int i2]) (st := []) C wv_X0_90 (tcX0_pullOf K.2.1 g hg o0 i5 i2 h3) (Nat.le_of_ble_eq_true rfl) rfl rfl (Nat.le_of_ble_eq_true rfl) dX0_meanPull_30 ⟨Nat.le_of_ble_eq_true rfl, Nat.le_of_ble_eq_true rfl⟩ (fun x4 h5 => ?_)
        refine r_iconst C dX0_meanPull_33 k_im1 ?_
        refine r_icmp_eq (tgt := 50) C dX0_meanPull_34 (by decide) ?_ ?_
        · exact tX0_meanPull_J50_8 hg C o0 i1 i2 i3 i4 i5 ih hk h5
        · refine r_iload_n C dX0_meanPull_37 3 rfl ?_
          refine r_aload_n C dX0_meanPull_38 0 rfl ?_
          refine r_iload C dX0_meanPull_39 5 rfl ?_
          refine r_iload_n C dX0_meanPull_41 2 rfl ?_
          refine r_cvi (As := [.int i5, .int i2]) (st := [.int i3]) C wv_X0_90 (tcX0_pullOf K.2.1 g hg o0 i5 i2 h5) (Nat.le_of_ble_eq_true rfl) rfl rfl (Nat.le_of_ble_eq_true rfl) dX0_meanPull_42 ⟨Nat.le_of_ble_eq_true rfl, Nat.le_of_ble_eq_true rfl⟩ (fun x6 h7 => ?_)
          refine r_iadd C dX0_meanPull_45 ?_
          refine r_topi (fun x8 => ?_)
          refine r_istore_n (lv9 := [(3, .int x8), (0, p_rf g o0), (1, .int i1), (2, .int i2), (4, .int i4), (5, .int i5)]) C dX0_meanPull_46 (by decide) rfl ?_
          refine r_iinc (lv' := [(3, .int x8), (0, p_rf g o0), (1, .int i1), (2, .int i2), (5, .int i5)]) C dX0_meanPull_47 4 rfl k_i1 (by decide) (fun _ => rfl) (fun x9 => ?_)
          refine r_perm (lv' := [(0, p_rf g o0), (1, .int i1), (2, .int i2), (3, .int x8), (4, .int x9), (5, .int i5)]) [2, 3, 4, 1, 0, 5] rfl ?_
          exact tX0_meanPull_J50_8 hg C o0 i1 i2 x8 x9 i5 ih hk h7
set_option maxRecDepth 100000 in
set_option maxHeartbeats 4000000 in
theorem tcX0_meanPull (l : Launch) (g : WG) (hg : p_al g = false) (o0 : Nat) (i1 : Int32) (i2 : Int32) (h : PH) : CT l g 3 0 0 yX0_meanPull cX0_meanPull 6 (some .int) em_i [p_rf g o0, .int i1, .int i2] h (fX0_meanPull o0 i1 i2 h) := by
  refine CT_of (own := RX0) (nm := "meanPull") (by decide +kernel) (Nat.le_of_ble_eq_true rfl) rfl rfl rfl ⟨rfl, rfl⟩ (fun K hK C => ?_)
  subst hK
  unfold fX0_meanPull
  show VX K g _ _ _ _ _ [(0, p_rf g o0), (1, .int i1), (2, .int i2)] _ _ _
  refine r_iconst C dX0_meanPull_0 k_i0 ?_
  refine r_istore_n (lv9 := [(3, .int (0 : Int32)), (0, p_rf g o0), (1, .int i1), (2, .int i2)]) C dX0_meanPull_1 (by decide) rfl ?_
  refine r_iconst C dX0_meanPull_2 k_i0 ?_
  refine r_istore (lv9 := [(4, .int (0 : Int32)), (3, .int (0 : Int32)), (0, p_rf g o0), (1, .int i1), (2, .int i2)]) C dX0_meanPull_3 (by decide) rfl ?_
  refine r_iconst C dX0_meanPull_5 k_i0 ?_
  refine r_istore (lv9 := [(5, .int (0 : Int32)), (4, .int (0 : Int32)), (3, .int (0 : Int32)), (0, p_rf g o0), (1, .int i1), (2, .int i2)]) C dX0_meanPull_6 (by decide) rfl ?_
  refine r_perm (lv' := [(0, p_rf g o0), (1, .int i1), (2, .int i2), (3, .int (0 : Int32)), (4, .int (0 : Int32)), (5, .int (0 : Int32))]) [3, 4, 5, 2, 1, 0] rfl ?_
  refine tX0_meanPull_L8 hg C o0 i1 i2 (fun x1 x2 h3 => ?_) FU (0 : Int32) (0 : Int32) (0 : Int32) h
  refine r_iload C dX0_meanPull_56 1 rfl ?_
  refine r_if_le (tgt := 68) C dX0_meanPull_58 (by decide) ?_ ?_
  · refine r_iconst C dX0_meanPull_68 k_im1 ?_
    exact r_iret C dX0_meanPull_69
  · refine r_iload_n C dX0_meanPull_61 0 rfl ?_
    refine r_iload C dX0_meanPull_62 1 rfl ?_
    refine r_idiv C dX0_meanPull_64 ?_
    refine r_goto (tgt := 69) C dX0_meanPull_65 (by decide) ?_
    exact r_iret C dX0_meanPull_69
set_option maxRecDepth 100000 in
set_option maxHeartbeats 4000000 in
theorem tcX1_init_X2 (l : Launch) (g : WG) (hg : p_al g = true) (o0 : Nat) (i1 : Int32) (h : PH) : CT l g 1 0 0 yX1_init cX1_init 2 none em_v [p_rf g o0, .int i1] h (fX1_init_X2 o0 i1 h) := by
  refine CT_of (own := RX1) (nm := "<init>") (by decide +kernel) (Nat.le_of_ble_eq_true rfl) rfl rfl rfl ⟨rfl, rfl⟩ (fun K hK C => ?_)
  subst hK
  unfold fX1_init_X2
  show VX K g _ _ _ _ _ [(0, p_rf g o0), (1, .int i1)] _ _ _
  refine r_aload_n C dX1_init_0 0 rfl ?_
  refine r_obj C wo_X1_3 (Nat.le_of_ble_eq_true rfl) (Nat.le_of_ble_eq_true rfl) dX1_init_1 ?_
  refine r_aload_n C dX1_init_4 0 rfl ?_
  refine r_iload_n C dX1_init_5 1 rfl ?_
  refine r_piF C wf_X1_9_1 dX1_init_6 (fun h1 => ?_)
  exact r_vret C dX1_init_9
set_option maxRecDepth 100000 in
set_option maxHeartbeats 4000000 in
theorem tcX1_init_X9 (l : Launch) (g : WG) (hg : p_al g = true) (o0 : Nat) (i1 : Int32) (h : PH) : CT l g 1 0 0 yX1_init cX1_init 2 none em_v [p_rf g o0, .int i1] h (fX1_init_X9 o0 i1 h) := by
  refine CT_of (own := RX1) (nm := "<init>") (by decide +kernel) (Nat.le_of_ble_eq_true rfl) rfl rfl rfl ⟨rfl, rfl⟩ (fun K hK C => ?_)
  subst hK
  unfold fX1_init_X9
  show VX K g _ _ _ _ _ [(0, p_rf g o0), (1, .int i1)] _ _ _
  refine r_aload_n C dX1_init_0 0 rfl ?_
  refine r_obj C wo_X1_3 (Nat.le_of_ble_eq_true rfl) (Nat.le_of_ble_eq_true rfl) dX1_init_1 ?_
  refine r_aload_n C dX1_init_4 0 rfl ?_
  refine r_iload_n C dX1_init_5 1 rfl ?_
  refine r_piF C wf_X1_9_8 dX1_init_6 (fun h1 => ?_)
  exact r_vret C dX1_init_9
set_option maxRecDepth 100000 in
set_option maxHeartbeats 4000000 in
theorem tcX1_init_X10 (l : Launch) (g : WG) (hg : p_al g = true) (o0 : Nat) (i1 : Int32) (h : PH) : CT l g 1 0 0 yX1_init cX1_init 2 none em_v [p_rf g o0, .int i1] h (fX1_init_X10 o0 i1 h) := by
  refine CT_of (own := RX1) (nm := "<init>") (by decide +kernel) (Nat.le_of_ble_eq_true rfl) rfl rfl rfl ⟨rfl, rfl⟩ (fun K hK C => ?_)
  subst hK
  unfold fX1_init_X10
  show VX K g _ _ _ _ _ [(0, p_rf g o0), (1, .int i1)] _ _ _
  refine r_aload_n C dX1_init_0 0 rfl ?_
  refine r_obj C wo_X1_3 (Nat.le_of_ble_eq_true rfl) (Nat.le_of_ble_eq_true rfl) dX1_init_1 ?_
  refine r_aload_n C dX1_init_4 0 rfl ?_
  refine r_iload_n C dX1_init_5 1 rfl ?_
  refine r_piF C wf_X1_9_9 dX1_init_6 (fun h1 => ?_)
  exact r_vret C dX1_init_9
set_option maxRecDepth 100000 in
set_option maxHeartbeats 4000000 in
theorem tcX2_begin (l : Launch) (g : WG) (hg : p_al g = false) (o0 : Nat) (i1 : Int32) (h : PH) : CT l g 1 0 0 yX2_begin cX2_begin 2 none em_v [p_rf g o0, .int i1] h (fX2_begin o0 i1 h) := by
  refine CT_of (own := RX2) (nm := "begin") (by decide +kernel) (Nat.le_of_ble_eq_true rfl) rfl rfl rfl ⟨rfl, rfl⟩ (fun K hK C => ?_)
  subst hK
  unfold fX2_begin
  show VX K g _ _ _ _ _ [(0, p_rf g o0), (1, .int i1)] _ _ _
  refine r_aload_n C dX2_begin_0 0 rfl ?_
  refine r_iload_n C dX2_begin_1 1 rfl ?_
  refine r_pi C wf_X2_16_1 dX2_begin_2 (fun h1 => ?_)
  refine r_aload_n C dX2_begin_5 0 rfl ?_
  refine r_iconst C dX2_begin_6 k_i0 ?_
  refine r_pi C wf_X2_19_1 dX2_begin_7 (fun h2 => ?_)
  refine r_aload_n C dX2_begin_10 0 rfl ?_
  refine r_iconst C dX2_begin_11 k_i0 ?_
  refine r_pi C wf_X2_22_1 dX2_begin_12 (fun h3 => ?_)
  exact r_vret C dX2_begin_15
set_option maxRecDepth 100000 in
set_option maxHeartbeats 4000000 in
theorem tcX11_isDigit (l : Launch) (g : WG) (hg : p_al g = false) (i0 : Int32) (h : PH) : CT l g 2 0 0 yX11_isDigit cX11_isDigit 1 (some .boolean) em_i [.int i0] h (fX11_isDigit i0 h) := by
  refine CT_of (own := RX11) (nm := "isDigit") (by decide +kernel) (Nat.le_of_ble_eq_true rfl) rfl rfl rfl ⟨rfl, rfl⟩ (fun K hK C => ?_)
  subst hK
  unfold fX11_isDigit
  show VX K g _ _ _ _ _ [(0, .int i0)] _ _ _
  refine r_iload_n C dX11_isDigit_0 0 rfl ?_
  refine r_bipush C dX11_isDigit_1 k_b48 ?_
  refine r_bipush C dX11_isDigit_3 k_b57 ?_
  refine r_csi (As := [.int i0, .int (48 : Int32), .int (57 : Int32)]) (st := []) C ws_X11_164 (tcX11_within K.2.1 g hg i0 (48 : Int32) (57 : Int32) h) (Nat.le_of_ble_eq_true rfl) rfl rfl (Nat.le_of_ble_eq_true rfl) dX11_isDigit_5 ⟨Nat.le_of_ble_eq_true rfl, Nat.le_of_ble_eq_true rfl⟩ (fun x1 h2 => ?_)
  exact r_zret C dX11_isDigit_8
set_option maxRecDepth 100000 in
set_option maxHeartbeats 4000000 in
theorem tX2_takes_J110 {K : AC} {g : WG} (hg : p_al g = false)  (C : Cx K g cX2_takes 2 RX2 (some .boolean) "takes" 3 0 0)   (h : PH) : VX K g 2 0 0 (a_fin K g 0 0 em_i) 110 [] [] h (fX2_takes_J110  h) := by
  unfold fX2_takes_J110
  refine r_iconst C dX2_takes_110 k_i1 ?_
  refine r_goto (tgt := 115) C dX2_takes_111 (by decide) ?_
  exact r_zret C dX2_takes_115
set_option maxRecDepth 100000 in
set_option maxHeartbeats 4000000 in
theorem tcX2_takes (l : Launch) (g : WG) (hg : p_al g = false) (o0 : Nat) (i1 : Int32) (h : PH) : CT l g 3 0 0 yX2_takes cX2_takes 2 (some .boolean) em_i [p_rf g o0, .int i1] h (fX2_takes o0 i1 h) := by
  refine CT_of (own := RX2) (nm := "takes") (by decide +kernel) (Nat.le_of_ble_eq_true rfl) rfl rfl rfl ⟨rfl, rfl⟩ (fun K hK C => ?_)
  subst hK
  unfold fX2_takes
  show VX K g _ _ _ _ _ [(0, p_rf g o0), (1, .int i1)] _ _ _
  refine r_aload_n C dX2_takes_0 0 rfl ?_
  refine r_gi C wf_X2_22_1 dX2_takes_1 (fun x1 => ?_)
  refine r_aload_n C dX2_takes_4 0 rfl ?_
  refine r_gi C wf_X2_7_1 dX2_takes_5 (fun x2 => ?_)
  refine r_icmp_ne (tgt := 28) C dX2_takes_8 (by decide) ?_ ?_
  · refine r_aload_n C dX2_takes_28 0 rfl ?_
    refine r_dup C dX2_takes_29 rfl ?_
    refine r_gi C wf_X2_22_1 dX2_takes_30 (fun x3 => ?_)
    refine r_iconst C dX2_takes_33 k_i1 ?_
    refine r_iadd C dX2_takes_34 ?_
    refine r_pi C wf_X2_22_1 dX2_takes_35 (fun h4 => ?_)
    refine r_aload_n C dX2_takes_38 0 rfl ?_
    refine r_gi C wf_X2_22_1 dX2_takes_39 (fun x5 => ?_)
    refine r_iconst C dX2_takes_42 k_i1 ?_
    refine r_icmp_ne (tgt := 86) C dX2_takes_43 (by decide) ?_ ?_
    · refine r_iload_n C dX2_takes_86 1 rfl ?_
      refine r_cni (As := [.int i1]) (st := []) C wn_X2_25 (tcX11_isDigit K.2.1 g hg i1 h4) (Nat.le_of_ble_eq_true rfl) rfl rfl (Nat.le_of_ble_eq_true rfl) dX2_takes_87 ⟨Nat.le_of_ble_eq_true rfl, Nat.le_of_ble_eq_true rfl⟩ (fun x6 h7 => ?_)
      refine r_if_ne (tgt := 110) C dX2_takes_90 (by decide) ?_ ?_
      · refine r_perm (lv' := []) [] rfl ?_
        exact tX2_takes_J110 hg C  h7
      · refine r_aload_n C dX2_takes_93 0 rfl ?_
        refine r_gi C wf_X2_22_1 dX2_takes_94 (fun x8 => ?_)
        refine r_aload_n C dX2_takes_97 0 rfl ?_
        refine r_gi C wf_X2_13_1 dX2_takes_98 (fun x9 => ?_)
        refine r_icmp_le (tgt := 114) C dX2_takes_101 (by decide) ?_ ?_
        · refine r_iconst C dX2_takes_114 k_i0 ?_
          exact r_zret C dX2_takes_115
        · refine r_iload_n C dX2_takes_104 1 rfl ?_
          refine r_bipush C dX2_takes_105 k_b45 ?_
          refine r_icmp_ne (tgt := 114) C dX2_takes_107 (by decide) ?_ ?_
          · refine r_iconst C dX2_takes_114 k_i0 ?_
            exact r_zret C dX2_takes_115
          · refine r_perm (lv' := []) [] rfl ?_
            exact tX2_takes_J110 hg C  h7
    · refine r_aload_n C dX2_takes_46 0 rfl ?_
      refine r_dup C dX2_takes_47 rfl ?_
      refine r_gi C wf_X2_19_1 dX2_takes_48 (fun x10 => ?_)
      refine r_iconst C dX2_takes_51 k_i1 ?_
      refine r_iadd C dX2_takes_52 ?_
      refine r_pi C wf_X2_19_1 dX2_takes_53 (fun h11 => ?_)
      refine r_aload_n C dX2_takes_56 0 rfl ?_
      refine r_gi C wf_X2_19_1 dX2_takes_57 (fun x12 => ?_)
      refine r_aload_n C dX2_takes_60 0 rfl ?_
      refine r_gi C wf_X2_16_1 dX2_takes_61 (fun x13 => ?_)
      refine r_icmp_gt (tgt := 84) C dX2_takes_64 (by decide) ?_ ?_
      · refine r_iconst C dX2_takes_84 k_i0 ?_
        exact r_zret C dX2_takes_85
      · refine r_iload_n C dX2_takes_67 1 rfl ?_
        refine r_cni (As := [.int i1]) (st := []) C wn_X2_25 (tcX11_isDigit K.2.1 g hg i1 h11) (Nat.le_of_ble_eq_true rfl) rfl rfl (Nat.le_of_ble_eq_true rfl) dX2_takes_68 ⟨Nat.le_of_ble_eq_true rfl, Nat.le_of_ble_eq_true rfl⟩ (fun x14 h15 => ?_)
        refine r_if_eq (tgt := 84) C dX2_takes_71 (by decide) ?_ ?_
        · refine r_iconst C dX2_takes_84 k_i0 ?_
          exact r_zret C dX2_takes_85
        · refine r_iload_n C dX2_takes_74 1 rfl ?_
          refine r_bipush C dX2_takes_75 k_b48 ?_
          refine r_icmp_eq (tgt := 84) C dX2_takes_77 (by decide) ?_ ?_
          · refine r_iconst C dX2_takes_84 k_i0 ?_
            exact r_zret C dX2_takes_85
          · refine r_iconst C dX2_takes_80 k_i1 ?_
            refine r_goto (tgt := 85) C dX2_takes_81 (by decide) ?_
            exact r_zret C dX2_takes_85
  · refine r_aload_n C dX2_takes_11 0 rfl ?_
    refine r_iconst C dX2_takes_12 k_i0 ?_
    refine r_pi C wf_X2_22_1 dX2_takes_13 (fun h16 => ?_)
    refine r_iload_n C dX2_takes_16 1 rfl ?_
    refine r_bipush C dX2_takes_17 k_b59 ?_
    refine r_icmp_ne (tgt := 26) C dX2_takes_19 (by decide) ?_ ?_
    · refine r_iconst C dX2_takes_26 k_i0 ?_
      exact r_zret C dX2_takes_27
    · refine r_iconst C dX2_takes_22 k_i1 ?_
      refine r_goto (tgt := 27) C dX2_takes_23 (by decide) ?_
      exact r_zret C dX2_takes_27
set_option maxRecDepth 100000 in
set_option maxHeartbeats 4000000 in
theorem tcX2_mayEnd (l : Launch) (g : WG) (hg : p_al g = false) (o0 : Nat) (h : PH) : CT l g 1 0 0 yX2_mayEnd cX2_mayEnd 1 (some .boolean) em_i [p_rf g o0] h (fX2_mayEnd o0 h) := by
  refine CT_of (own := RX2) (nm := "mayEnd") (by decide +kernel) (Nat.le_of_ble_eq_true rfl) rfl rfl rfl ⟨rfl, rfl⟩ (fun K hK C => ?_)
  subst hK
  unfold fX2_mayEnd
  show VX K g _ _ _ _ _ [(0, p_rf g o0)] _ _ _
  refine r_aload_n C dX2_mayEnd_0 0 rfl ?_
  refine r_gi C wf_X2_22_1 dX2_mayEnd_1 (fun x1 => ?_)
  refine r_aload_n C dX2_mayEnd_4 0 rfl ?_
  refine r_gi C wf_X2_7_1 dX2_mayEnd_5 (fun x2 => ?_)
  refine r_icmp_ne (tgt := 15) C dX2_mayEnd_8 (by decide) ?_ ?_
  · refine r_iconst C dX2_mayEnd_15 k_i0 ?_
    exact r_zret C dX2_mayEnd_16
  · refine r_iconst C dX2_mayEnd_11 k_i1 ?_
    refine r_goto (tgt := 16) C dX2_mayEnd_12 (by decide) ?_
    exact r_zret C dX2_mayEnd_16
set_option maxRecDepth 100000 in
set_option maxHeartbeats 4000000 in
theorem tX1_slip_X2_L13 {K : AC} {g : WG} (hg : p_al g = false)  (C : Cx K g cX1_slip 5 RX1 (some .int) "slip" 4 0 0) (o0 : Nat) (o1 : Nat) (i3 : Int32) {kx : PH → Option (Int32 × PH)} (hk : ∀  (h : PH), VX K g 5 0 0 (a_fin K g 0 0 em_i) 50 [(0, p_rf g o0), (3, .int i3)] [] h (kx h)) : ∀ (n : Nat) (i4 : Int32) (h : PH), VX K g 5 0 0 (a_fin K g 0 0 em_i) 13 [(0, p_rf g o0), (1, p_rf g o1), (3, .int i3), (4, .int i4)] [] h (fX1_slip_X2_L13 o0 o1 i3 kx n i4 h) := by
  intro n
  induction n with
  | zero =>
    intros
    exact r_none
  | succ n ih =>
    intro i4 h
    rw [fX1_slip_X2_L13]
    refine r_iload C dX1_slip_13 3 rfl ?_
    refine r_iload_n C dX1_slip_15 2 rfl ?_
    refine r_icmp_ge (tgt := 50) C dX1_slip_16 (by decide) ?_ ?_
    · refine r_perm (lv' := [(0, p_rf g o0), (3, .int i3)]) [0, 2] rfl ?_
      exact hk h
    · refine r_iload C dX1_slip_19 3 rfl ?_
      refine r_aload_n C dX1_slip_21 0 rfl ?_
      refine r_gi C wf_X1_9_1 dX1_slip_22 (fun x1 => ?_)
      refine r_icmp_ge (tgt := 50) C dX1_slip_25 (by decide) ?_ ?_
      · refine r_perm (lv' := [(0, p_rf g o0), (3, .int i3)]) [0, 2] rfl ?_
        exact hk h
      · refine r_aload_n C dX1_slip_28 0 rfl ?_
        refine r_aload_n C dX1_slip_29 1 rfl ?_
        refine r_iload C dX1_slip_30 3 rfl ?_
        refine r_cvi (As := [.int i4]) (st := [p_rf g o0]) C wv_X1_25 (tcX7_at K.2.1 g hg o1 i4 h) (Nat.le_of_ble_eq_true rfl) rfl rfl (Nat.le_of_ble_eq_true rfl) dX1_slip_32 ⟨Nat.le_of_ble_eq_true rfl, Nat.le_of_ble_eq_true rfl⟩ (fun x2 h3 => ?_)
        refine r_cui (As := [.int x2]) (st := []) C wu_X1_29_X2 (tcX2_takes K.2.1 g hg o0 x2 h3) (Nat.le_of_ble_eq_true rfl) rfl rfl (Nat.le_of_ble_eq_true rfl) dX1_slip_35 ⟨Nat.le_of_ble_eq_true rfl, Nat.le_of_ble_eq_true rfl⟩ (fun x4 h5 => ?_)
        refine r_if_ne (tgt := 44) C dX1_slip_38 (by decide) ?_ ?_
        · refine r_iinc (lv' := [(0, p_rf g o0), (1, p_rf g o1), (3, .int i3)]) C dX1_slip_44 3 rfl k_i1 (by decide) (fun _ => rfl) (fun x6 => ?_)
          refine r_goto (tgt := 13) C dX1_slip_47 (by decide) ?_
          refine r_perm (lv' := [(0, p_rf g o0), (1, p_rf g o1), (3, .int i3), (4, .int x6)]) [1, 2, 3, 0] rfl ?_
          exact ih x6 h5
        · refine r_iload C dX1_slip_41 3 rfl ?_
          exact r_iret C dX1_slip_43
set_option maxRecDepth 100000 in
set_option maxHeartbeats 4000000 in
theorem tcX1_slip_X2 (l : Launch) (g : WG) (hg : p_al g = false) (o0 : Nat) (o1 : Nat) (i2 : Int32) (h : PH) : CT l g 4 0 0 yX1_slip cX1_slip 5 (some .int) em_i [p_rf g o0, p_rf g o1, .int i2] h (fX1_slip_X2 o0 o1 i2 h) := by
  refine CT_of (own := RX1) (nm := "slip") (by decide +kernel) (Nat.le_of_ble_eq_true rfl) rfl rfl rfl ⟨rfl, rfl⟩ (fun K hK C => ?_)
  subst hK
  unfold fX1_slip_X2
  show VX K g _ _ _ _ _ [(0, p_rf g o0), (1, p_rf g o1), (2, .int i2)] _ _ _
  refine r_aload_n C dX1_slip_0 0 rfl ?_
  refine r_iload_n C dX1_slip_1 2 rfl ?_
  refine r_cuv (As := [.int i2]) (st := []) C wu_X1_15_X2 (tcX2_begin K.2.1 g hg o0 i2 h) (Nat.le_of_ble_eq_true rfl) rfl rfl (Nat.le_of_ble_eq_true rfl) dX1_slip_2 ⟨Nat.le_of_ble_eq_true rfl, Nat.le_of_ble_eq_true rfl⟩ (fun h1 => ?_)
  refine r_aload_n C dX1_slip_5 1 rfl ?_
  refine r_cvi (As := []) (st := []) C wv_X1_19 (tcX7_size K.2.1 g hg o1 h1) (Nat.le_of_ble_eq_true rfl) rfl rfl (Nat.le_of_ble_eq_true rfl) dX1_slip_6 ⟨Nat.le_of_ble_eq_true rfl, Nat.le_of_ble_eq_true rfl⟩ (fun x2 h3 => ?_)
  refine r_istore_n (lv9 := [(3, .int x2), (0, p_rf g o0), (1, p_rf g o1), (2, .int i2)]) C dX1_slip_9 (by decide) rfl ?_
  refine r_iconst C dX1_slip_10 k_i0 ?_
  refine r_istore (lv9 := [(4, .int (0 : Int32)), (3, .int x2), (0, p_rf g o0), (1, p_rf g o1), (2, .int i2)]) C dX1_slip_11 (by decide) rfl ?_
  refine r_perm (lv' := [(0, p_rf g o0), (1, p_rf g o1), (3, .int x2), (4, .int (0 : Int32))]) [2, 3, 1, 0] rfl ?_
  refine tX1_slip_X2_L13 hg C o0 o1 x2 (fun h4 => ?_) FU (0 : Int32) h3
  refine r_iload_n C dX1_slip_50 1 rfl ?_
  refine r_aload_n C dX1_slip_51 0 rfl ?_
  refine r_gi C wf_X1_9_1 dX1_slip_52 (fun x5 => ?_)
  refine r_icmp_le (tgt := 63) C dX1_slip_55 (by decide) ?_ ?_
  · refine r_aload_n C dX1_slip_63 0 rfl ?_
    refine r_cui (As := []) (st := []) C wu_X1_33_X2 (tcX2_mayEnd K.2.1 g hg o0 h4) (Nat.le_of_ble_eq_true rfl) rfl rfl (Nat.le_of_ble_eq_true rfl) dX1_slip_64 ⟨Nat.le_of_ble_eq_true rfl, Nat.le_of_ble_eq_true rfl⟩ (fun x6 h7 => ?_)
    refine r_if_eq (tgt := 74) C dX1_slip_67 (by decide) ?_ ?_
    · refine r_iload_n C dX1_slip_74 1 rfl ?_
      exact r_iret C dX1_slip_75
    · refine r_iconst C dX1_slip_70 k_im1 ?_
      refine r_goto (tgt := 75) C dX1_slip_71 (by decide) ?_
      exact r_iret C dX1_slip_75
  · refine r_aload_n C dX1_slip_58 0 rfl ?_
    refine r_gi C wf_X1_9_1 dX1_slip_59 (fun x8 => ?_)
    exact r_iret C dX1_slip_62
set_option maxRecDepth 100000 in
set_option maxHeartbeats 4000000 in
theorem tcX9_begin (l : Launch) (g : WG) (hg : p_al g = false) (o0 : Nat) (i1 : Int32) (h : PH) : CT l g 1 0 0 yX9_begin cX9_begin 2 none em_v [p_rf g o0, .int i1] h (fX9_begin o0 i1 h) := by
  refine CT_of (own := RX9) (nm := "begin") (by decide +kernel) (Nat.le_of_ble_eq_true rfl) rfl rfl rfl ⟨rfl, rfl⟩ (fun K hK C => ?_)
  subst hK
  unfold fX9_begin
  show VX K g _ _ _ _ _ [(0, p_rf g o0), (1, .int i1)] _ _ _
  refine r_aload_n C dX9_begin_0 0 rfl ?_
  refine r_iload_n C dX9_begin_1 1 rfl ?_
  refine r_pi C wf_X9_9_8 dX9_begin_2 (fun h1 => ?_)
  refine r_aload_n C dX9_begin_5 0 rfl ?_
  refine r_iconst C dX9_begin_6 k_i0 ?_
  refine r_pi C wf_X9_15_8 dX9_begin_7 (fun h2 => ?_)
  refine r_aload_n C dX9_begin_10 0 rfl ?_
  refine r_iconst C dX9_begin_11 k_i0 ?_
  refine r_pi C wf_X9_18_8 dX9_begin_12 (fun h3 => ?_)
  refine r_aload_n C dX9_begin_15 0 rfl ?_
  refine r_iconst C dX9_begin_16 k_i0 ?_
  refine r_pi C wf_X9_21_8 dX9_begin_17 (fun h4 => ?_)
  exact r_vret C dX9_begin_20
set_option maxRecDepth 100000 in
set_option maxHeartbeats 4000000 in
theorem tX9_takesFirst_J37 {K : AC} {g : WG} (hg : p_al g = false)  (C : Cx K g cX9_takesFirst 2 RX9 (some .boolean) "takesFirst" 2 0 0) (o0 : Nat) (i1 : Int32) (s0 : Int32) (s1 : Int32) (s2 : Nat)  (h : PH) : VX K g 2 0 0 (a_fin K g 0 0 em_i) 37 [(0, p_rf g o0), (1, .int i1)] [.int s0, .int s1, p_rf g s2] h (fX9_takesFirst_J37 o0 i1 s0 s1 s2 h) := by
  unfold fX9_takesFirst_J37
  refine r_iadd C dX9_takesFirst_37 ?_
  refine r_pi C wf_X9_15_8 dX9_takesFirst_38 (fun h1 => ?_)
  refine r_aload_n C dX9_takesFirst_41 0 rfl ?_
  refine r_dup C dX9_takesFirst_42 rfl ?_
  refine r_gi C wf_X9_18_8 dX9_takesFirst_43 (fun x2 => ?_)
  refine r_iconst C dX9_takesFirst_46 k_i1 ?_
  refine r_iadd C dX9_takesFirst_47 ?_
  refine r_pi C wf_X9_18_8 dX9_takesFirst_48 (fun h3 => ?_)
  refine r_aload_n C dX9_takesFirst_51 0 rfl ?_
  refine r_iconst C dX9_takesFirst_52 k_i1 ?_
  refine r_pi C wf_X9_21_8 dX9_takesFirst_53 (fun h4 => ?_)
  refine r_aload_n C dX9_takesFirst_56 0 rfl ?_
  refine r_gi C wf_X9_15_8 dX9_takesFirst_57 (fun x5 => ?_)
  refine r_aload_n C dX9_takesFirst_60 0 rfl ?_
  refine r_gi C wf_X9_9_8 dX9_takesFirst_61 (fun x6 => ?_)
  refine r_icmp_gt (tgt := 90) C dX9_takesFirst_64 (by decide) ?_ ?_
  · refine r_iconst C dX9_takesFirst_90 k_i0 ?_
    exact r_zret C dX9_takesFirst_91
  · refine r_aload_n C dX9_takesFirst_67 0 rfl ?_
    refine r_gi C wf_X9_18_8 dX9_takesFirst_68 (fun x7 => ?_)
    refine r_iconst C dX9_takesFirst_71 k_i3 ?_
    refine r_icmp_gt (tgt := 90) C dX9_takesFirst_72 (by decide) ?_ ?_
    · refine r_iconst C dX9_takesFirst_90 k_i0 ?_
      exact r_zret C dX9_takesFirst_91
    · refine r_iload_n C dX9_takesFirst_75 1 rfl ?_
      refine r_bipush C dX9_takesFirst_76 k_b97 ?_
      refine r_bipush C dX9_takesFirst_78 k_b100 ?_
      refine r_cni (As := [.int i1, .int (97 : Int32), .int (100 : Int32)]) (st := []) C wn_X9_31 (tcX11_within K.2.1 g hg i1 (97 : Int32) (100 : Int32) h4) (Nat.le_of_ble_eq_true rfl) rfl rfl (Nat.le_of_ble_eq_true rfl) dX9_takesFirst_80 ⟨Nat.le_of_ble_eq_true rfl, Nat.le_of_ble_eq_true rfl⟩ (fun x8 h9 => ?_)
      refine r_if_eq (tgt := 90) C dX9_takesFirst_83 (by decide) ?_ ?_
      · refine r_iconst C dX9_takesFirst_90 k_i0 ?_
        exact r_zret C dX9_takesFirst_91
      · refine r_iconst C dX9_takesFirst_86 k_i1 ?_
        refine r_goto (tgt := 91) C dX9_takesFirst_87 (by decide) ?_
        exact r_zret C dX9_takesFirst_91
set_option maxRecDepth 100000 in
set_option maxHeartbeats 4000000 in
theorem tX9_takesFirst_J20 {K : AC} {g : WG} (hg : p_al g = false)  (C : Cx K g cX9_takesFirst 2 RX9 (some .boolean) "takesFirst" 2 0 0) (o0 : Nat) (i1 : Int32)  (h : PH) : VX K g 2 0 0 (a_fin K g 0 0 em_i) 20 [(0, p_rf g o0), (1, .int i1)] [] h (fX9_takesFirst_J20 o0 i1 h) := by
  unfold fX9_takesFirst_J20
  refine r_aload_n C dX9_takesFirst_20 0 rfl ?_
  refine r_dup C dX9_takesFirst_21 rfl ?_
  refine r_gi C wf_X9_15_8 dX9_takesFirst_22 (fun x1 => ?_)
  refine r_aload_n C dX9_takesFirst_25 0 rfl ?_
  refine r_gi C wf_X9_18_8 dX9_takesFirst_26 (fun x2 => ?_)
  refine r_if_ne (tgt := 36) C dX9_takesFirst_29 (by decide) ?_ ?_
  · refine r_iconst C dX9_takesFirst_36 k_i0 ?_
    exact tX9_takesFirst_J37 hg C o0 i1 (0 : Int32) x1 o0 h
  · refine r_iconst C dX9_takesFirst_32 k_i1 ?_
    refine r_goto (tgt := 37) C dX9_takesFirst_33 (by decide) ?_
    exact tX9_takesFirst_J37 hg C o0 i1 (1 : Int32) x1 o0 h
set_option maxRecDepth 100000 in
set_option maxHeartbeats 4000000 in
theorem tcX9_takesFirst (l : Launch) (g : WG) (hg : p_al g = false) (o0 : Nat) (i1 : Int32) (h : PH) : CT l g 2 0 0 yX9_takesFirst cX9_takesFirst 2 (some .boolean) em_i [p_rf g o0, .int i1] h (fX9_takesFirst o0 i1 h) := by
  refine CT_of (own := RX9) (nm := "takesFirst") (by decide +kernel) (Nat.le_of_ble_eq_true rfl) rfl rfl rfl ⟨rfl, rfl⟩ (fun K hK C => ?_)
  subst hK
  unfold fX9_takesFirst
  show VX K g _ _ _ _ _ [(0, p_rf g o0), (1, .int i1)] _ _ _
  refine r_aload_n C dX9_takesFirst_0 0 rfl ?_
  refine r_gi C wf_X9_18_8 dX9_takesFirst_1 (fun x1 => ?_)
  refine r_if_le (tgt := 20) C dX9_takesFirst_4 (by decide) ?_ ?_
  · exact tX9_takesFirst_J20 hg C o0 i1 h
  · refine r_iload_n C dX9_takesFirst_7 1 rfl ?_
    refine r_bipush C dX9_takesFirst_8 k_b59 ?_
    refine r_icmp_ne (tgt := 20) C dX9_takesFirst_10 (by decide) ?_ ?_
    · exact tX9_takesFirst_J20 hg C o0 i1 h
    · refine r_aload_n C dX9_takesFirst_13 0 rfl ?_
      refine r_iconst C dX9_takesFirst_14 k_i0 ?_
      refine r_pi C wf_X9_18_8 dX9_takesFirst_15 (fun h2 => ?_)
      refine r_iconst C dX9_takesFirst_18 k_i1 ?_
      exact r_zret C dX9_takesFirst_19
set_option maxRecDepth 100000 in
set_option maxHeartbeats 4000000 in
theorem tX9_takes_J38 {K : AC} {g : WG} (hg : p_al g = false)  (C : Cx K g cX9_takes 2 RX9 (some .boolean) "takes" 3 0 0)   (h : PH) : VX K g 2 0 0 (a_fin K g 0 0 em_i) 38 [] [] h (fX9_takes_J38  h) := by
  unfold fX9_takes_J38
  refine r_iconst C dX9_takes_38 k_i1 ?_
  refine r_goto (tgt := 43) C dX9_takes_39 (by decide) ?_
  exact r_zret C dX9_takes_43
set_option maxRecDepth 100000 in
set_option maxHeartbeats 4000000 in
theorem tcX9_takes (l : Launch) (g : WG) (hg : p_al g = false) (o0 : Nat) (i1 : Int32) (h : PH) : CT l g 3 0 0 yX9_takes cX9_takes 2 (some .boolean) em_i [p_rf g o0, .int i1] h (fX9_takes o0 i1 h) := by
  refine CT_of (own := RX9) (nm := "takes") (by decide +kernel) (Nat.le_of_ble_eq_true rfl) rfl rfl rfl ⟨rfl, rfl⟩ (fun K hK C => ?_)
  subst hK
  unfold fX9_takes
  show VX K g _ _ _ _ _ [(0, p_rf g o0), (1, .int i1)] _ _ _
  refine r_aload_n C dX9_takes_0 0 rfl ?_
  refine r_gi C wf_X9_21_8 dX9_takes_1 (fun x1 => ?_)
  refine r_if_ne (tgt := 13) C dX9_takes_4 (by decide) ?_ ?_
  · refine r_aload_n C dX9_takes_13 0 rfl ?_
    refine r_gi C wf_X9_21_8 dX9_takes_14 (fun x2 => ?_)
    refine r_iconst C dX9_takes_17 k_i1 ?_
    refine r_icmp_ne (tgt := 44) C dX9_takes_18 (by decide) ?_ ?_
    · refine r_aload_n C dX9_takes_44 0 rfl ?_
      refine r_iconst C dX9_takes_45 k_i0 ?_
      refine r_pi C wf_X9_21_8 dX9_takes_46 (fun h3 => ?_)
      refine r_iload_n C dX9_takes_49 1 rfl ?_
      refine r_cni (As := [.int i1]) (st := []) C wn_X9_28 (tcX11_isDigit K.2.1 g hg i1 h3) (Nat.le_of_ble_eq_true rfl) rfl rfl (Nat.le_of_ble_eq_true rfl) dX9_takes_50 ⟨Nat.le_of_ble_eq_true rfl, Nat.le_of_ble_eq_true rfl⟩ (fun x4 h5 => ?_)
      exact r_zret C dX9_takes_53
    · refine r_aload_n C dX9_takes_21 0 rfl ?_
      refine r_iconst C dX9_takes_22 k_i2 ?_
      refine r_pi C wf_X9_21_8 dX9_takes_23 (fun h6 => ?_)
      refine r_iload_n C dX9_takes_26 1 rfl ?_
      refine r_bipush C dX9_takes_27 k_b60 ?_
      refine r_icmp_eq (tgt := 38) C dX9_takes_29 (by decide) ?_ ?_
      · refine r_perm (lv' := []) [] rfl ?_
        exact tX9_takes_J38 hg C  h6
      · refine r_iload_n C dX9_takes_32 1 rfl ?_
        refine r_bipush C dX9_takes_33 k_b62 ?_
        refine r_icmp_ne (tgt := 42) C dX9_takes_35 (by decide) ?_ ?_
        · refine r_iconst C dX9_takes_42 k_i0 ?_
          exact r_zret C dX9_takes_43
        · refine r_perm (lv' := []) [] rfl ?_
          exact tX9_takes_J38 hg C  h6
  · refine r_aload_n C dX9_takes_7 0 rfl ?_
    refine r_iload_n C dX9_takes_8 1 rfl ?_
    refine r_cvi (As := [.int i1]) (st := []) C wv_X9_24 (tcX9_takesFirst K.2.1 g hg o0 i1 h) (Nat.le_of_ble_eq_true rfl) rfl rfl (Nat.le_of_ble_eq_true rfl) dX9_takes_9 ⟨Nat.le_of_ble_eq_true rfl, Nat.le_of_ble_eq_true rfl⟩ (fun x7 h8 => ?_)
    exact r_zret C dX9_takes_12
set_option maxRecDepth 100000 in
set_option maxHeartbeats 4000000 in
theorem tcX9_mayEnd (l : Launch) (g : WG) (hg : p_al g = false) (o0 : Nat) (h : PH) : CT l g 1 0 0 yX9_mayEnd cX9_mayEnd 1 (some .boolean) em_i [p_rf g o0] h (fX9_mayEnd o0 h) := by
  refine CT_of (own := RX9) (nm := "mayEnd") (by decide +kernel) (Nat.le_of_ble_eq_true rfl) rfl rfl rfl ⟨rfl, rfl⟩ (fun K hK C => ?_)
  subst hK
  unfold fX9_mayEnd
  show VX K g _ _ _ _ _ [(0, p_rf g o0)] _ _ _
  refine r_aload_n C dX9_mayEnd_0 0 rfl ?_
  refine r_gi C wf_X9_21_8 dX9_mayEnd_1 (fun x1 => ?_)
  refine r_if_ne (tgt := 18) C dX9_mayEnd_4 (by decide) ?_ ?_
  · refine r_iconst C dX9_mayEnd_18 k_i0 ?_
    exact r_zret C dX9_mayEnd_19
  · refine r_aload_n C dX9_mayEnd_7 0 rfl ?_
    refine r_gi C wf_X9_18_8 dX9_mayEnd_8 (fun x2 => ?_)
    refine r_if_le (tgt := 18) C dX9_mayEnd_11 (by decide) ?_ ?_
    · refine r_iconst C dX9_mayEnd_18 k_i0 ?_
      exact r_zret C dX9_mayEnd_19
    · refine r_iconst C dX9_mayEnd_14 k_i1 ?_
      refine r_goto (tgt := 19) C dX9_mayEnd_15 (by decide) ?_
      exact r_zret C dX9_mayEnd_19
set_option maxRecDepth 100000 in
set_option maxHeartbeats 4000000 in
theorem tX1_slip_X9_L13 {K : AC} {g : WG} (hg : p_al g = false)  (C : Cx K g cX1_slip 5 RX1 (some .int) "slip" 4 0 0) (o0 : Nat) (o1 : Nat) (i3 : Int32) {kx : PH → Option (Int32 × PH)} (hk : ∀  (h : PH), VX K g 5 0 0 (a_fin K g 0 0 em_i) 50 [(0, p_rf g o0), (3, .int i3)] [] h (kx h)) : ∀ (n : Nat) (i4 : Int32) (h : PH), VX K g 5 0 0 (a_fin K g 0 0 em_i) 13 [(0, p_rf g o0), (1, p_rf g o1), (3, .int i3), (4, .int i4)] [] h (fX1_slip_X9_L13 o0 o1 i3 kx n i4 h) := by
  intro n
  induction n with
  | zero =>
    intros
    exact r_none
  | succ n ih =>
    intro i4 h
    rw [fX1_slip_X9_L13]
    refine r_iload C dX1_slip_13 3 rfl ?_
    refine r_iload_n C dX1_slip_15 2 rfl ?_
    refine r_icmp_ge (tgt := 50) C dX1_slip_16 (by decide) ?_ ?_
    · refine r_perm (lv' := [(0, p_rf g o0), (3, .int i3)]) [0, 2] rfl ?_
      exact hk h
    · refine r_iload C dX1_slip_19 3 rfl ?_
      refine r_aload_n C dX1_slip_21 0 rfl ?_
      refine r_gi C wf_X1_9_8 dX1_slip_22 (fun x1 => ?_)
      refine r_icmp_ge (tgt := 50) C dX1_slip_25 (by decide) ?_ ?_
      · refine r_perm (lv' := [(0, p_rf g o0), (3, .int i3)]) [0, 2] rfl ?_
        exact hk h
      · refine r_aload_n C dX1_slip_28 0 rfl ?_
        refine r_aload_n C dX1_slip_29 1 rfl ?_
        refine r_iload C dX1_slip_30 3 rfl ?_
        refine r_cvi (As := [.int i4]) (st := [p_rf g o0]) C wv_X1_25 (tcX7_at K.2.1 g hg o1 i4 h) (Nat.le_of_ble_eq_true rfl) rfl rfl (Nat.le_of_ble_eq_true rfl) dX1_slip_32 ⟨Nat.le_of_ble_eq_true rfl, Nat.le_of_ble_eq_true rfl⟩ (fun x2 h3 => ?_)
        refine r_cui (As := [.int x2]) (st := []) C wu_X1_29_X9 (tcX9_takes K.2.1 g hg o0 x2 h3) (Nat.le_of_ble_eq_true rfl) rfl rfl (Nat.le_of_ble_eq_true rfl) dX1_slip_35 ⟨Nat.le_of_ble_eq_true rfl, Nat.le_of_ble_eq_true rfl⟩ (fun x4 h5 => ?_)
        refine r_if_ne (tgt := 44) C dX1_slip_38 (by decide) ?_ ?_
        · refine r_iinc (lv' := [(0, p_rf g o0), (1, p_rf g o1), (3, .int i3)]) C dX1_slip_44 3 rfl k_i1 (by decide) (fun _ => rfl) (fun x6 => ?_)
          refine r_goto (tgt := 13) C dX1_slip_47 (by decide) ?_
          refine r_perm (lv' := [(0, p_rf g o0), (1, p_rf g o1), (3, .int i3), (4, .int x6)]) [1, 2, 3, 0] rfl ?_
          exact ih x6 h5
        · refine r_iload C dX1_slip_41 3 rfl ?_
          exact r_iret C dX1_slip_43
set_option maxRecDepth 100000 in
set_option maxHeartbeats 4000000 in
theorem tcX1_slip_X9 (l : Launch) (g : WG) (hg : p_al g = false) (o0 : Nat) (o1 : Nat) (i2 : Int32) (h : PH) : CT l g 4 0 0 yX1_slip cX1_slip 5 (some .int) em_i [p_rf g o0, p_rf g o1, .int i2] h (fX1_slip_X9 o0 o1 i2 h) := by
  refine CT_of (own := RX1) (nm := "slip") (by decide +kernel) (Nat.le_of_ble_eq_true rfl) rfl rfl rfl ⟨rfl, rfl⟩ (fun K hK C => ?_)
  subst hK
  unfold fX1_slip_X9
  show VX K g _ _ _ _ _ [(0, p_rf g o0), (1, p_rf g o1), (2, .int i2)] _ _ _
  refine r_aload_n C dX1_slip_0 0 rfl ?_
  refine r_iload_n C dX1_slip_1 2 rfl ?_
  refine r_cuv (As := [.int i2]) (st := []) C wu_X1_15_X9 (tcX9_begin K.2.1 g hg o0 i2 h) (Nat.le_of_ble_eq_true rfl) rfl rfl (Nat.le_of_ble_eq_true rfl) dX1_slip_2 ⟨Nat.le_of_ble_eq_true rfl, Nat.le_of_ble_eq_true rfl⟩ (fun h1 => ?_)
  refine r_aload_n C dX1_slip_5 1 rfl ?_
  refine r_cvi (As := []) (st := []) C wv_X1_19 (tcX7_size K.2.1 g hg o1 h1) (Nat.le_of_ble_eq_true rfl) rfl rfl (Nat.le_of_ble_eq_true rfl) dX1_slip_6 ⟨Nat.le_of_ble_eq_true rfl, Nat.le_of_ble_eq_true rfl⟩ (fun x2 h3 => ?_)
  refine r_istore_n (lv9 := [(3, .int x2), (0, p_rf g o0), (1, p_rf g o1), (2, .int i2)]) C dX1_slip_9 (by decide) rfl ?_
  refine r_iconst C dX1_slip_10 k_i0 ?_
  refine r_istore (lv9 := [(4, .int (0 : Int32)), (3, .int x2), (0, p_rf g o0), (1, p_rf g o1), (2, .int i2)]) C dX1_slip_11 (by decide) rfl ?_
  refine r_perm (lv' := [(0, p_rf g o0), (1, p_rf g o1), (3, .int x2), (4, .int (0 : Int32))]) [2, 3, 1, 0] rfl ?_
  refine tX1_slip_X9_L13 hg C o0 o1 x2 (fun h4 => ?_) FU (0 : Int32) h3
  refine r_iload_n C dX1_slip_50 1 rfl ?_
  refine r_aload_n C dX1_slip_51 0 rfl ?_
  refine r_gi C wf_X1_9_8 dX1_slip_52 (fun x5 => ?_)
  refine r_icmp_le (tgt := 63) C dX1_slip_55 (by decide) ?_ ?_
  · refine r_aload_n C dX1_slip_63 0 rfl ?_
    refine r_cui (As := []) (st := []) C wu_X1_33_X9 (tcX9_mayEnd K.2.1 g hg o0 h4) (Nat.le_of_ble_eq_true rfl) rfl rfl (Nat.le_of_ble_eq_true rfl) dX1_slip_64 ⟨Nat.le_of_ble_eq_true rfl, Nat.le_of_ble_eq_true rfl⟩ (fun x6 h7 => ?_)
    refine r_if_eq (tgt := 74) C dX1_slip_67 (by decide) ?_ ?_
    · refine r_iload_n C dX1_slip_74 1 rfl ?_
      exact r_iret C dX1_slip_75
    · refine r_iconst C dX1_slip_70 k_im1 ?_
      refine r_goto (tgt := 75) C dX1_slip_71 (by decide) ?_
      exact r_iret C dX1_slip_75
  · refine r_aload_n C dX1_slip_58 0 rfl ?_
    refine r_gi C wf_X1_9_8 dX1_slip_59 (fun x8 => ?_)
    exact r_iret C dX1_slip_62
set_option maxRecDepth 100000 in
set_option maxHeartbeats 4000000 in
theorem tcX10_begin (l : Launch) (g : WG) (hg : p_al g = false) (o0 : Nat) (i1 : Int32) (h : PH) : CT l g 1 0 0 yX10_begin cX10_begin 2 none em_v [p_rf g o0, .int i1] h (fX10_begin o0 i1 h) := by
  refine CT_of (own := RX10) (nm := "begin") (by decide +kernel) (Nat.le_of_ble_eq_true rfl) rfl rfl rfl ⟨rfl, rfl⟩ (fun K hK C => ?_)
  subst hK
  unfold fX10_begin
  show VX K g _ _ _ _ _ [(0, p_rf g o0), (1, .int i1)] _ _ _
  refine r_aload_n C dX10_begin_0 0 rfl ?_
  refine r_iconst C dX10_begin_1 k_i0 ?_
  refine r_pi C wf_X10_7_9 dX10_begin_2 (fun h1 => ?_)
  refine r_aload_n C dX10_begin_5 0 rfl ?_
  refine r_iconst C dX10_begin_6 k_i0 ?_
  refine r_pz C wf_X10_13_9 dX10_begin_7 (fun h2 => ?_)
  exact r_vret C dX10_begin_10
set_option maxRecDepth 100000 in
set_option maxHeartbeats 4000000 in
theorem tX10_digitsBehind_J26 {K : AC} {g : WG} (hg : p_al g = false)  (C : Cx K g cX10_digitsBehind 1 RX10 (some .int) "digitsBehind" 1 0 0)   (h : PH) : VX K g 1 0 0 (a_fin K g 0 0 em_i) 26 [] [] h (fX10_digitsBehind_J26  h) := by
  unfold fX10_digitsBehind_J26
  refine r_iconst C dX10_digitsBehind_26 k_i2 ?_
  refine r_goto (tgt := 31) C dX10_digitsBehind_27 (by decide) ?_
  exact r_iret C dX10_digitsBehind_31
set_option maxRecDepth 100000 in
set_option maxHeartbeats 4000000 in
theorem tcX10_digitsBehind (l : Launch) (g : WG) (hg : p_al g = false) (i0 : Int32) (h : PH) : CT l g 1 0 0 yX10_digitsBehind cX10_digitsBehind 1 (some .int) em_i [.int i0] h (fX10_digitsBehind i0 h) := by
  refine CT_of (own := RX10) (nm := "digitsBehind") (by decide +kernel) (Nat.le_of_ble_eq_true rfl) rfl rfl rfl ⟨rfl, rfl⟩ (fun K hK C => ?_)
  subst hK
  unfold fX10_digitsBehind
  show VX K g _ _ _ _ _ [(0, .int i0)] _ _ _
  refine r_iload_n C dX10_digitsBehind_0 0 rfl ?_
  refine r_bipush C dX10_digitsBehind_1 k_b100 ?_
  refine r_icmp_ne (tgt := 8) C dX10_digitsBehind_3 (by decide) ?_ ?_
  · refine r_iload_n C dX10_digitsBehind_8 0 rfl ?_
    refine r_bipush C dX10_digitsBehind_9 k_b103 ?_
    refine r_icmp_eq (tgt := 26) C dX10_digitsBehind_11 (by decide) ?_ ?_
    · refine r_perm (lv' := []) [] rfl ?_
      exact tX10_digitsBehind_J26 hg C  h
    · refine r_iload_n C dX10_digitsBehind_14 0 rfl ?_
      refine r_bipush C dX10_digitsBehind_15 k_b116 ?_
      refine r_icmp_eq (tgt := 26) C dX10_digitsBehind_17 (by decide) ?_ ?_
      · refine r_perm (lv' := []) [] rfl ?_
        exact tX10_digitsBehind_J26 hg C  h
      · refine r_iload_n C dX10_digitsBehind_20 0 rfl ?_
        refine r_bipush C dX10_digitsBehind_21 k_b109 ?_
        refine r_icmp_ne (tgt := 30) C dX10_digitsBehind_23 (by decide) ?_ ?_
        · refine r_iconst C dX10_digitsBehind_30 k_i0 ?_
          exact r_iret C dX10_digitsBehind_31
        · refine r_perm (lv' := []) [] rfl ?_
          exact tX10_digitsBehind_J26 hg C  h
  · refine r_iconst C dX10_digitsBehind_6 k_i1 ?_
    exact r_iret C dX10_digitsBehind_7
set_option maxRecDepth 100000 in
set_option maxHeartbeats 4000000 in
theorem tX10_takes_J80 {K : AC} {g : WG} (hg : p_al g = false)  (C : Cx K g cX10_takes 2 RX10 (some .boolean) "takes" 3 0 0)   (h : PH) : VX K g 2 0 0 (a_fin K g 0 0 em_i) 80 [] [] h (fX10_takes_J80  h) := by
  unfold fX10_takes_J80
  refine r_iconst C dX10_takes_80 k_i1 ?_
  refine r_goto (tgt := 85) C dX10_takes_81 (by decide) ?_
  exact r_zret C dX10_takes_85
set_option maxRecDepth 100000 in
set_option maxHeartbeats 4000000 in
theorem tX10_takes_J19 {K : AC} {g : WG} (hg : p_al g = false)  (C : Cx K g cX10_takes 2 RX10 (some .boolean) "takes" 3 0 0) (o0 : Nat) (i1 : Int32) (s0 : Int32) (s1 : Nat)  (h : PH) : VX K g 2 0 0 (a_fin K g 0 0 em_i) 19 [(0, p_rf g o0), (1, .int i1)] [.int s0, p_rf g s1] h (fX10_takes_J19 o0 i1 s0 s1 h) := by
  unfold fX10_takes_J19
  refine r_pz C wf_X10_13_9 dX10_takes_19 (fun h1 => ?_)
  refine r_aload_n C dX10_takes_22 0 rfl ?_
  refine r_iload_n C dX10_takes_23 1 rfl ?_
  refine r_csi (As := [.int i1]) (st := [p_rf g o0]) C ws_X10_17 (tcX10_digitsBehind K.2.1 g hg i1 h1) (Nat.le_of_ble_eq_true rfl) rfl rfl (Nat.le_of_ble_eq_true rfl) dX10_takes_24 ⟨Nat.le_of_ble_eq_true rfl, Nat.le_of_ble_eq_true rfl⟩ (fun x2 h3 => ?_)
  refine r_pi C wf_X10_7_9 dX10_takes_27 (fun h4 => ?_)
  refine r_aload_n C dX10_takes_30 0 rfl ?_
  refine r_gi C wf_X10_7_9 dX10_takes_31 (fun x5 => ?_)
  refine r_if_le (tgt := 41) C dX10_takes_34 (by decide) ?_ ?_
  · refine r_iconst C dX10_takes_41 k_i0 ?_
    exact r_zret C dX10_takes_42
  · refine r_iconst C dX10_takes_37 k_i1 ?_
    refine r_goto (tgt := 42) C dX10_takes_38 (by decide) ?_
    exact r_zret C dX10_takes_42
set_option maxRecDepth 100000 in
set_option maxHeartbeats 4000000 in
theorem tcX10_takes (l : Launch) (g : WG) (hg : p_al g = false) (o0 : Nat) (i1 : Int32) (h : PH) : CT l g 3 0 0 yX10_takes cX10_takes 2 (some .boolean) em_i [p_rf g o0, .int i1] h (fX10_takes o0 i1 h) := by
  refine CT_of (own := RX10) (nm := "takes") (by decide +kernel) (Nat.le_of_ble_eq_true rfl) rfl rfl rfl ⟨rfl, rfl⟩ (fun K hK C => ?_)
  subst hK
  unfold fX10_takes
  show VX K g _ _ _ _ _ [(0, p_rf g o0), (1, .int i1)] _ _ _
  refine r_aload_n C dX10_takes_0 0 rfl ?_
  refine r_gi C wf_X10_7_9 dX10_takes_1 (fun x1 => ?_)
  refine r_if_ne (tgt := 43) C dX10_takes_4 (by decide) ?_ ?_
  · refine r_aload_n C dX10_takes_43 0 rfl ?_
    refine r_dup C dX10_takes_44 rfl ?_
    refine r_gi C wf_X10_7_9 dX10_takes_45 (fun x2 => ?_)
    refine r_iconst C dX10_takes_48 k_i1 ?_
    refine r_isub C dX10_takes_49 ?_
    refine r_pi C wf_X10_7_9 dX10_takes_50 (fun h3 => ?_)
    refine r_iload_n C dX10_takes_53 1 rfl ?_
    refine r_cni (As := [.int i1]) (st := []) C wn_X10_21 (tcX11_isDigit K.2.1 g hg i1 h3) (Nat.le_of_ble_eq_true rfl) rfl rfl (Nat.le_of_ble_eq_true rfl) dX10_takes_54 ⟨Nat.le_of_ble_eq_true rfl, Nat.le_of_ble_eq_true rfl⟩ (fun x4 h5 => ?_)
    refine r_if_eq (tgt := 84) C dX10_takes_57 (by decide) ?_ ?_
    · refine r_iconst C dX10_takes_84 k_i0 ?_
      exact r_zret C dX10_takes_85
    · refine r_aload_n C dX10_takes_60 0 rfl ?_
      refine r_gi C wf_X10_13_9 dX10_takes_61 (fun x6 => ?_)
      refine r_if_eq (tgt := 80) C dX10_takes_64 (by decide) ?_ ?_
      · refine r_perm (lv' := []) [] rfl ?_
        exact tX10_takes_J80 hg C  h5
      · refine r_aload_n C dX10_takes_67 0 rfl ?_
        refine r_gi C wf_X10_7_9 dX10_takes_68 (fun x7 => ?_)
        refine r_if_ne (tgt := 80) C dX10_takes_71 (by decide) ?_ ?_
        · refine r_perm (lv' := []) [] rfl ?_
          exact tX10_takes_J80 hg C  h5
        · refine r_iload_n C dX10_takes_74 1 rfl ?_
          refine r_bipush C dX10_takes_75 k_b48 ?_
          refine r_icmp_eq (tgt := 84) C dX10_takes_77 (by decide) ?_ ?_
          · refine r_iconst C dX10_takes_84 k_i0 ?_
            exact r_zret C dX10_takes_85
          · refine r_perm (lv' := []) [] rfl ?_
            exact tX10_takes_J80 hg C  h5
  · refine r_aload_n C dX10_takes_7 0 rfl ?_
    refine r_iload_n C dX10_takes_8 1 rfl ?_
    refine r_bipush C dX10_takes_9 k_b109 ?_
    refine r_icmp_ne (tgt := 18) C dX10_takes_11 (by decide) ?_ ?_
    · refine r_iconst C dX10_takes_18 k_i0 ?_
      exact tX10_takes_J19 hg C o0 i1 (0 : Int32) o0 h
    · refine r_iconst C dX10_takes_14 k_i1 ?_
      refine r_goto (tgt := 19) C dX10_takes_15 (by decide) ?_
      exact tX10_takes_J19 hg C o0 i1 (1 : Int32) o0 h
set_option maxRecDepth 100000 in
set_option maxHeartbeats 4000000 in
theorem tcX10_mayEnd (l : Launch) (g : WG) (hg : p_al g = false) (o0 : Nat) (h : PH) : CT l g 1 0 0 yX10_mayEnd cX10_mayEnd 1 (some .boolean) em_i [p_rf g o0] h (fX10_mayEnd o0 h) := by
  refine CT_of (own := RX10) (nm := "mayEnd") (by decide +kernel) (Nat.le_of_ble_eq_true rfl) rfl rfl rfl ⟨rfl, rfl⟩ (fun K hK C => ?_)
  subst hK
  unfold fX10_mayEnd
  show VX K g _ _ _ _ _ [(0, p_rf g o0)] _ _ _
  refine r_aload_n C dX10_mayEnd_0 0 rfl ?_
  refine r_gi C wf_X10_7_9 dX10_mayEnd_1 (fun x1 => ?_)
  refine r_if_ne (tgt := 11) C dX10_mayEnd_4 (by decide) ?_ ?_
  · refine r_iconst C dX10_mayEnd_11 k_i0 ?_
    exact r_zret C dX10_mayEnd_12
  · refine r_iconst C dX10_mayEnd_7 k_i1 ?_
    refine r_goto (tgt := 12) C dX10_mayEnd_8 (by decide) ?_
    exact r_zret C dX10_mayEnd_12
set_option maxRecDepth 100000 in
set_option maxHeartbeats 4000000 in
theorem tX1_slip_X10_L13 {K : AC} {g : WG} (hg : p_al g = false)  (C : Cx K g cX1_slip 5 RX1 (some .int) "slip" 4 0 0) (o0 : Nat) (o1 : Nat) (i3 : Int32) {kx : PH → Option (Int32 × PH)} (hk : ∀  (h : PH), VX K g 5 0 0 (a_fin K g 0 0 em_i) 50 [(0, p_rf g o0), (3, .int i3)] [] h (kx h)) : ∀ (n : Nat) (i4 : Int32) (h : PH), VX K g 5 0 0 (a_fin K g 0 0 em_i) 13 [(0, p_rf g o0), (1, p_rf g o1), (3, .int i3), (4, .int i4)] [] h (fX1_slip_X10_L13 o0 o1 i3 kx n i4 h) := by
  intro n
  induction n with
  | zero =>
    intros
    exact r_none
  | succ n ih =>
    intro i4 h
    rw [fX1_slip_X10_L13]
    refine r_iload C dX1_slip_13 3 rfl ?_
    refine r_iload_n C dX1_slip_15 2 rfl ?_
    refine r_icmp_ge (tgt := 50) C dX1_slip_16 (by decide) ?_ ?_
    · refine r_perm (lv' := [(0, p_rf g o0), (3, .int i3)]) [0, 2] rfl ?_
      exact hk h
    · refine r_iload C dX1_slip_19 3 rfl ?_
      refine r_aload_n C dX1_slip_21 0 rfl ?_
      refine r_gi C wf_X1_9_9 dX1_slip_22 (fun x1 => ?_)
      refine r_icmp_ge (tgt := 50) C dX1_slip_25 (by decide) ?_ ?_
      · refine r_perm (lv' := [(0, p_rf g o0), (3, .int i3)]) [0, 2] rfl ?_
        exact hk h
      · refine r_aload_n C dX1_slip_28 0 rfl ?_
        refine r_aload_n C dX1_slip_29 1 rfl ?_
        refine r_iload C dX1_slip_30 3 rfl ?_
        refine r_cvi (As := [.int i4]) (st := [p_rf g o0]) C wv_X1_25 (tcX7_at K.2.1 g hg o1 i4 h) (Nat.le_of_ble_eq_true rfl) rfl rfl (Nat.le_of_ble_eq_true rfl) dX1_slip_32 ⟨Nat.le_of_ble_eq_true rfl, Nat.le_of_ble_eq_true rfl⟩ (fun x2 h3 => ?_)
        refine r_cui (As := [.int x2]) (st := []) C wu_X1_29_X10 (tcX10_takes K.2.1 g hg o0 x2 h3) (Nat.le_of_ble_eq_true rfl) rfl rfl (Nat.le_of_ble_eq_true rfl) dX1_slip_35 ⟨Nat.le_of_ble_eq_true rfl, Nat.le_of_ble_eq_true rfl⟩ (fun x4 h5 => ?_)
        refine r_if_ne (tgt := 44) C dX1_slip_38 (by decide) ?_ ?_
        · refine r_iinc (lv' := [(0, p_rf g o0), (1, p_rf g o1), (3, .int i3)]) C dX1_slip_44 3 rfl k_i1 (by decide) (fun _ => rfl) (fun x6 => ?_)
          refine r_goto (tgt := 13) C dX1_slip_47 (by decide) ?_
          refine r_perm (lv' := [(0, p_rf g o0), (1, p_rf g o1), (3, .int i3), (4, .int x6)]) [1, 2, 3, 0] rfl ?_
          exact ih x6 h5
        · refine r_iload C dX1_slip_41 3 rfl ?_
          exact r_iret C dX1_slip_43
set_option maxRecDepth 100000 in
set_option maxHeartbeats 4000000 in
theorem tcX1_slip_X10 (l : Launch) (g : WG) (hg : p_al g = false) (o0 : Nat) (o1 : Nat) (i2 : Int32) (h : PH) : CT l g 4 0 0 yX1_slip cX1_slip 5 (some .int) em_i [p_rf g o0, p_rf g o1, .int i2] h (fX1_slip_X10 o0 o1 i2 h) := by
  refine CT_of (own := RX1) (nm := "slip") (by decide +kernel) (Nat.le_of_ble_eq_true rfl) rfl rfl rfl ⟨rfl, rfl⟩ (fun K hK C => ?_)
  subst hK
  unfold fX1_slip_X10
  show VX K g _ _ _ _ _ [(0, p_rf g o0), (1, p_rf g o1), (2, .int i2)] _ _ _
  refine r_aload_n C dX1_slip_0 0 rfl ?_
  refine r_iload_n C dX1_slip_1 2 rfl ?_
  refine r_cuv (As := [.int i2]) (st := []) C wu_X1_15_X10 (tcX10_begin K.2.1 g hg o0 i2 h) (Nat.le_of_ble_eq_true rfl) rfl rfl (Nat.le_of_ble_eq_true rfl) dX1_slip_2 ⟨Nat.le_of_ble_eq_true rfl, Nat.le_of_ble_eq_true rfl⟩ (fun h1 => ?_)
  refine r_aload_n C dX1_slip_5 1 rfl ?_
  refine r_cvi (As := []) (st := []) C wv_X1_19 (tcX7_size K.2.1 g hg o1 h1) (Nat.le_of_ble_eq_true rfl) rfl rfl (Nat.le_of_ble_eq_true rfl) dX1_slip_6 ⟨Nat.le_of_ble_eq_true rfl, Nat.le_of_ble_eq_true rfl⟩ (fun x2 h3 => ?_)
  refine r_istore_n (lv9 := [(3, .int x2), (0, p_rf g o0), (1, p_rf g o1), (2, .int i2)]) C dX1_slip_9 (by decide) rfl ?_
  refine r_iconst C dX1_slip_10 k_i0 ?_
  refine r_istore (lv9 := [(4, .int (0 : Int32)), (3, .int x2), (0, p_rf g o0), (1, p_rf g o1), (2, .int i2)]) C dX1_slip_11 (by decide) rfl ?_
  refine r_perm (lv' := [(0, p_rf g o0), (1, p_rf g o1), (3, .int x2), (4, .int (0 : Int32))]) [2, 3, 1, 0] rfl ?_
  refine tX1_slip_X10_L13 hg C o0 o1 x2 (fun h4 => ?_) FU (0 : Int32) h3
  refine r_iload_n C dX1_slip_50 1 rfl ?_
  refine r_aload_n C dX1_slip_51 0 rfl ?_
  refine r_gi C wf_X1_9_9 dX1_slip_52 (fun x5 => ?_)
  refine r_icmp_le (tgt := 63) C dX1_slip_55 (by decide) ?_ ?_
  · refine r_aload_n C dX1_slip_63 0 rfl ?_
    refine r_cui (As := []) (st := []) C wu_X1_33_X10 (tcX10_mayEnd K.2.1 g hg o0 h4) (Nat.le_of_ble_eq_true rfl) rfl rfl (Nat.le_of_ble_eq_true rfl) dX1_slip_64 ⟨Nat.le_of_ble_eq_true rfl, Nat.le_of_ble_eq_true rfl⟩ (fun x6 h7 => ?_)
    refine r_if_eq (tgt := 74) C dX1_slip_67 (by decide) ?_ ?_
    · refine r_iload_n C dX1_slip_74 1 rfl ?_
      exact r_iret C dX1_slip_75
    · refine r_iconst C dX1_slip_70 k_im1 ?_
      refine r_goto (tgt := 75) C dX1_slip_71 (by decide) ?_
      exact r_iret C dX1_slip_75
  · refine r_aload_n C dX1_slip_58 0 rfl ?_
    refine r_gi C wf_X1_9_9 dX1_slip_59 (fun x8 => ?_)
    exact r_iret C dX1_slip_62
set_option maxRecDepth 100000 in
set_option maxHeartbeats 4000000 in
theorem tcX6_begin (l : Launch) (g : WG) (hg : p_al g = false) (o0 : Nat) (i1 : Int32) (h : PH) : CT l g 1 0 0 yX6_begin cX6_begin 2 none em_v [p_rf g o0, .int i1] h (fX6_begin o0 i1 h) := by
  refine CT_of (own := RX6) (nm := "begin") (by decide +kernel) (Nat.le_of_ble_eq_true rfl) rfl rfl rfl ⟨rfl, rfl⟩ (fun K hK C => ?_)
  subst hK
  unfold fX6_begin
  show VX K g _ _ _ _ _ [(0, p_rf g o0), (1, .int i1)] _ _ _
  refine r_aload_n C dX6_begin_0 0 rfl ?_
  refine r_iconst C dX6_begin_1 k_i0 ?_
  refine r_pi C wf_X6_27_5 dX6_begin_2 (fun h1 => ?_)
  refine r_aload_n C dX6_begin_5 0 rfl ?_
  refine r_iconst C dX6_begin_6 k_i0 ?_
  refine r_pi C wf_X6_37_5 dX6_begin_7 (fun h2 => ?_)
  refine r_aload_n C dX6_begin_10 0 rfl ?_
  refine r_iconst C dX6_begin_11 k_i0 ?_
  refine r_pi C wf_X6_40_5 dX6_begin_12 (fun h3 => ?_)
  refine r_aload_n C dX6_begin_15 0 rfl ?_
  refine r_iconst C dX6_begin_16 k_i0 ?_
  refine r_pi C wf_X6_43_5 dX6_begin_17 (fun h4 => ?_)
  refine r_aload_n C dX6_begin_20 0 rfl ?_
  refine r_iconst C dX6_begin_21 k_i0 ?_
  refine r_pi C wf_X6_46_5 dX6_begin_22 (fun h5 => ?_)
  refine r_aload_n C dX6_begin_25 0 rfl ?_
  refine r_iconst C dX6_begin_26 k_i1 ?_
  refine r_pz C wf_X6_49_5 dX6_begin_27 (fun h6 => ?_)
  exact r_vret C dX6_begin_30
set_option maxRecDepth 100000 in
set_option maxHeartbeats 4000000 in
theorem tcX6_hold (l : Launch) (g : WG) (hg : p_al g = false) (o0 : Nat) (i1 : Int32) (h : PH) : CT l g 1 0 0 yX6_hold cX6_hold 2 none em_v [p_rf g o0, .int i1] h (fX6_hold o0 i1 h) := by
  refine CT_of (own := RX6) (nm := "hold") (by decide +kernel) (Nat.le_of_ble_eq_true rfl) rfl rfl rfl ⟨rfl, rfl⟩ (fun K hK C => ?_)
  subst hK
  unfold fX6_hold
  show VX K g _ _ _ _ _ [(0, p_rf g o0), (1, .int i1)] _ _ _
  refine r_aload_n C dX6_hold_0 0 rfl ?_
  refine r_gi C wf_X6_37_5 dX6_hold_1 (fun x1 => ?_)
  refine r_bipush C dX6_hold_4 k_b40 ?_
  refine r_icmp_ge (tgt := 29) C dX6_hold_6 (by decide) ?_ ?_
  · exact r_vret C dX6_hold_29
  · refine r_aload_n C dX6_hold_9 0 rfl ?_
    refine r_gr C wf_X6_15_5 dX6_hold_10 (fun q2 => ?_)
    refine r_aload_n C dX6_hold_13 0 rfl ?_
    refine r_gi C wf_X6_37_5 dX6_hold_14 (fun x3 => ?_)
    refine r_iload_n C dX6_hold_17 1 rfl ?_
    refine r_iast C dX6_hold_18 (fun h4 => ?_)
    refine r_aload_n C dX6_hold_19 0 rfl ?_
    refine r_dup C dX6_hold_20 rfl ?_
    refine r_gi C wf_X6_37_5 dX6_hold_21 (fun x5 => ?_)
    refine r_iconst C dX6_hold_24 k_i1 ?_
    refine r_iadd C dX6_hold_25 ?_
    refine r_pi C wf_X6_37_5 dX6_hold_26 (fun h6 => ?_)
    exact r_vret C dX6_hold_29
set_option maxRecDepth 100000 in
set_option maxHeartbeats 4000000 in
theorem tcX6_step (l : Launch) (g : WG) (hg : p_al g = false) (o0 : Nat) (i1 : Int32) (h : PH) : CT l g 1 0 0 yX6_step cX6_step 2 none em_v [p_rf g o0, .int i1] h (fX6_step o0 i1 h) := by
  refine CT_of (own := RX6) (nm := "step") (by decide +kernel) (Nat.le_of_ble_eq_true rfl) rfl rfl rfl ⟨rfl, rfl⟩ (fun K hK C => ?_)
  subst hK
  unfold fX6_step
  show VX K g _ _ _ _ _ [(0, p_rf g o0), (1, .int i1)] _ _ _
  refine r_aload_n C dX6_step_0 0 rfl ?_
  refine r_gi C wf_X6_27_5 dX6_step_1 (fun x1 => ?_)
  refine r_bipush C dX6_step_4 k_b40 ?_
  refine r_icmp_ge (tgt := 29) C dX6_step_6 (by decide) ?_ ?_
  · exact r_vret C dX6_step_29
  · refine r_aload_n C dX6_step_9 0 rfl ?_
    refine r_gr C wf_X6_11_5 dX6_step_10 (fun q2 => ?_)
    refine r_aload_n C dX6_step_13 0 rfl ?_
    refine r_gi C wf_X6_27_5 dX6_step_14 (fun x3 => ?_)
    refine r_iload_n C dX6_step_17 1 rfl ?_
    refine r_iast C dX6_step_18 (fun h4 => ?_)
    refine r_aload_n C dX6_step_19 0 rfl ?_
    refine r_dup C dX6_step_20 rfl ?_
    refine r_gi C wf_X6_27_5 dX6_step_21 (fun x5 => ?_)
    refine r_iconst C dX6_step_24 k_i1 ?_
    refine r_iadd C dX6_step_25 ?_
    refine r_pi C wf_X6_27_5 dX6_step_26 (fun h6 => ?_)
    exact r_vret C dX6_step_29
set_option maxRecDepth 100000 in
set_option maxHeartbeats 4000000 in
theorem tcX6_takesThing (l : Launch) (g : WG) (hg : p_al g = false) (o0 : Nat) (i1 : Int32) (h : PH) : CT l g 5 0 0 yX6_takesThing cX6_takesThing 3 (some .boolean) em_i [p_rf g o0, .int i1] h (fX6_takesThing o0 i1 h) := by
  refine CT_of (own := RX6) (nm := "takesThing") (by decide +kernel) (Nat.le_of_ble_eq_true rfl) rfl rfl rfl ⟨rfl, rfl⟩ (fun K hK C => ?_)
  subst hK
  unfold fX6_takesThing
  show VX K g _ _ _ _ _ [(0, p_rf g o0), (1, .int i1)] _ _ _
  refine r_iload_n C dX6_takesThing_0 1 rfl ?_
  refine r_bipush C dX6_takesThing_1 k_b45 ?_
  refine r_icmp_ne (tgt := 15) C dX6_takesThing_3 (by decide) ?_ ?_
  · refine r_iload_n C dX6_takesThing_15 1 rfl ?_
    refine r_bipush C dX6_takesThing_16 k_b40 ?_
    refine r_icmp_ne (tgt := 68) C dX6_takesThing_18 (by decide) ?_ ?_
    · refine r_aload_n C dX6_takesThing_68 0 rfl ?_
      refine r_iconst C dX6_takesThing_69 k_i0 ?_
      refine r_pz C wf_X6_49_5 dX6_takesThing_70 (fun h1 => ?_)
      refine r_iload_n C dX6_takesThing_73 1 rfl ?_
      refine r_cni (As := [.int i1]) (st := []) C wn_X6_57 (tcX11_isDigit K.2.1 g hg i1 h1) (Nat.le_of_ble_eq_true rfl) rfl rfl (Nat.le_of_ble_eq_true rfl) dX6_takesThing_74 ⟨Nat.le_of_ble_eq_true rfl, Nat.le_of_ble_eq_true rfl⟩ (fun x2 h3 => ?_)
      refine r_if_eq (tgt := 95) C dX6_takesThing_77 (by decide) ?_ ?_
      · refine r_sidx hg C (Nat.le_of_ble_eq_true rfl) (Nat.le_of_ble_eq_true rfl) 1 rfl (fun h9 e9 => ?_)
        subst e9
        refine r_topi (fun x4 => ?_)
        refine r_istore_n (lv9 := [(2, .int x4), (0, p_rf g o0), (1, .int i1)]) C dX6_takesThing_102 (by decide) rfl ?_
        refine r_aload_n C dX6_takesThing_103 1 rfl ?_
        refine r_sipush C dX6_takesThing_104 k_s1000 ?_
        refine r_iload_n C dX6_takesThing_107 0 rfl ?_
        refine r_iadd C dX6_takesThing_108 ?_
        refine r_cvv (As := [.int ((1000 : Int32) + x4)]) (st := []) C wv_X6_73 (tcX6_step K.2.1 g hg o0 ((1000 : Int32) + x4) h3) (Nat.le_of_ble_eq_true rfl) rfl rfl (Nat.le_of_ble_eq_true rfl) dX6_takesThing_109 ⟨Nat.le_of_ble_eq_true rfl, Nat.le_of_ble_eq_true rfl⟩ (fun h5 => ?_)
        refine r_iload_n C dX6_takesThing_112 0 rfl ?_
        refine r_if_lt (tgt := 120) C dX6_takesThing_113 (by decide) ?_ ?_
        · refine r_iconst C dX6_takesThing_120 k_i0 ?_
          exact r_zret C dX6_takesThing_121
        · refine r_iconst C dX6_takesThing_116 k_i1 ?_
          refine r_goto (tgt := 121) C dX6_takesThing_117 (by decide) ?_
          exact r_zret C dX6_takesThing_121
      · refine r_aload_n C dX6_takesThing_80 0 rfl ?_
        refine r_iconst C dX6_takesThing_81 k_i1 ?_
        refine r_pi C wf_X6_43_5 dX6_takesThing_82 (fun h6 => ?_)
        refine r_aload_n C dX6_takesThing_85 0 rfl ?_
        refine r_iload_n C dX6_takesThing_86 1 rfl ?_
        refine r_bipush C dX6_takesThing_87 k_b48 ?_
        refine r_isub C dX6_takesThing_89 ?_
        refine r_cvv (As := [.int (i1 - (48 : Int32))]) (st := []) C wv_X6_73 (tcX6_step K.2.1 g hg o0 (i1 - (48 : Int32)) h6) (Nat.le_of_ble_eq_true rfl) rfl rfl (Nat.le_of_ble_eq_true rfl) dX6_takesThing_90 ⟨Nat.le_of_ble_eq_true rfl, Nat.le_of_ble_eq_true rfl⟩ (fun h7 => ?_)
        refine r_iconst C dX6_takesThing_93 k_i1 ?_
        exact r_zret C dX6_takesThing_94
    · refine r_aload_n C dX6_takesThing_21 0 rfl ?_
      refine r_dup C dX6_takesThing_22 rfl ?_
      refine r_gi C wf_X6_40_5 dX6_takesThing_23 (fun x8 => ?_)
      refine r_iconst C dX6_takesThing_26 k_i1 ?_
      refine r_iadd C dX6_takesThing_27 ?_
      refine r_pi C wf_X6_40_5 dX6_takesThing_28 (fun h9 => ?_)
      refine r_aload_n C dX6_takesThing_31 0 rfl ?_
      refine r_dup C dX6_takesThing_32 rfl ?_
      refine r_gi C wf_X6_46_5 dX6_takesThing_33 (fun x10 => ?_)
      refine r_iconst C dX6_takesThing_36 k_i1 ?_
      refine r_aload_n C dX6_takesThing_37 0 rfl ?_
      refine r_gi C wf_X6_40_5 dX6_takesThing_38 (fun x11 => ?_)
      refine r_ishl C dX6_takesThing_41 ?_
      refine r_iconst C dX6_takesThing_42 k_im1 ?_
      refine r_ixor C dX6_takesThing_43 ?_
      refine r_iand C dX6_takesThing_44 ?_
      refine r_pi C wf_X6_46_5 dX6_takesThing_45 (fun h12 => ?_)
      refine r_aload_n C dX6_takesThing_48 0 rfl ?_
      refine r_bipush C dX6_takesThing_49 k_b40 ?_
      refine r_cvv (As := [.int (40 : Int32)]) (st := []) C wv_X6_70 (tcX6_hold K.2.1 g hg o0 (40 : Int32) h12) (Nat.le_of_ble_eq_true rfl) rfl rfl (Nat.le_of_ble_eq_true rfl) dX6_takesThing_51 ⟨Nat.le_of_ble_eq_true rfl, Nat.le_of_ble_eq_true rfl⟩ (fun h13 => ?_)
      refine r_aload_n C dX6_takesThing_54 0 rfl ?_
      refine r_gi C wf_X6_40_5 dX6_takesThing_55 (fun x14 => ?_)
      refine r_iconst C dX6_takesThing_58 k_i4 ?_
      refine r_icmp_gt (tgt := 66) C dX6_takesThing_59 (by decide) ?_ ?_
      · refine r_iconst C dX6_takesThing_66 k_i0 ?_
        exact r_zret C dX6_takesThing_67
      · refine r_iconst C dX6_takesThing_62 k_i1 ?_
        refine r_goto (tgt := 67) C dX6_takesThing_63 (by decide) ?_
        exact r_zret C dX6_takesThing_67
  · refine r_aload_n C dX6_takesThing_6 0 rfl ?_
    refine r_sipush C dX6_takesThing_7 k_s256 ?_
    refine r_cvv (As := [.int (256 : Int32)]) (st := []) C wv_X6_70 (tcX6_hold K.2.1 g hg o0 (256 : Int32) h) (Nat.le_of_ble_eq_true rfl) rfl rfl (Nat.le_of_ble_eq_true rfl) dX6_takesThing_10 ⟨Nat.le_of_ble_eq_true rfl, Nat.le_of_ble_eq_true rfl⟩ (fun h15 => ?_)
    refine r_iconst C dX6_takesThing_13 k_i1 ?_
    exact r_zret C dX6_takesThing_14
set_option maxRecDepth 100000 in
set_option maxHeartbeats 4000000 in
theorem tcX6_takesDigit (l : Launch) (g : WG) (hg : p_al g = false) (o0 : Nat) (i1 : Int32) (h : PH) : CT l g 1 0 0 yX6_takesDigit cX6_takesDigit 2 (some .boolean) em_i [p_rf g o0, .int i1] h (fX6_takesDigit o0 i1 h) := by
  refine CT_of (own := RX6) (nm := "takesDigit") (by decide +kernel) (Nat.le_of_ble_eq_true rfl) rfl rfl rfl ⟨rfl, rfl⟩ (fun K hK C => ?_)
  subst hK
  unfold fX6_takesDigit
  show VX K g _ _ _ _ _ [(0, p_rf g o0), (1, .int i1)] _ _ _
  refine r_aload_n C dX6_takesDigit_0 0 rfl ?_
  refine r_dup C dX6_takesDigit_1 rfl ?_
  refine r_gi C wf_X6_43_5 dX6_takesDigit_2 (fun x1 => ?_)
  refine r_iconst C dX6_takesDigit_5 k_i1 ?_
  refine r_iadd C dX6_takesDigit_6 ?_
  refine r_pi C wf_X6_43_5 dX6_takesDigit_7 (fun h2 => ?_)
  refine r_aload_n C dX6_takesDigit_10 0 rfl ?_
  refine r_gi C wf_X6_43_5 dX6_takesDigit_11 (fun x3 => ?_)
  refine r_iconst C dX6_takesDigit_14 k_i3 ?_
  refine r_icmp_gt (tgt := 26) C dX6_takesDigit_15 (by decide) ?_ ?_
  · refine r_iconst C dX6_takesDigit_26 k_i0 ?_
    exact r_zret C dX6_takesDigit_27
  · refine r_aload_n C dX6_takesDigit_18 0 rfl ?_
    refine r_gi C wf_X6_27_5 dX6_takesDigit_19 (fun x4 => ?_)
    refine r_iconst C dX6_takesDigit_22 k_i1 ?_
    refine r_icmp_ge (tgt := 28) C dX6_takesDigit_23 (by decide) ?_ ?_
    · refine r_aload_n C dX6_takesDigit_28 0 rfl ?_
      refine r_gr C wf_X6_11_5 dX6_takesDigit_29 (fun q5 => ?_)
      refine r_aload_n C dX6_takesDigit_32 0 rfl ?_
      refine r_gi C wf_X6_27_5 dX6_takesDigit_33 (fun x6 => ?_)
      refine r_iconst C dX6_takesDigit_36 k_i1 ?_
      refine r_isub C dX6_takesDigit_37 ?_
      refine r_aload_n C dX6_takesDigit_38 0 rfl ?_
      refine r_gr C wf_X6_11_5 dX6_takesDigit_39 (fun q7 => ?_)
      refine r_aload_n C dX6_takesDigit_42 0 rfl ?_
      refine r_gi C wf_X6_27_5 dX6_takesDigit_43 (fun x8 => ?_)
      refine r_iconst C dX6_takesDigit_46 k_i1 ?_
      refine r_isub C dX6_takesDigit_47 ?_
      refine r_iald C dX6_takesDigit_48 (fun x9 => ?_)
      refine r_bipush C dX6_takesDigit_49 k_b10 ?_
      refine r_imul C dX6_takesDigit_51 ?_
      refine r_iload_n C dX6_takesDigit_52 1 rfl ?_
      refine r_iadd C dX6_takesDigit_53 ?_
      refine r_bipush C dX6_takesDigit_54 k_b48 ?_
      refine r_isub C dX6_takesDigit_56 ?_
      refine r_iast C dX6_takesDigit_57 (fun h10 => ?_)
      refine r_iconst C dX6_takesDigit_58 k_i1 ?_
      exact r_zret C dX6_takesDigit_59
    · refine r_iconst C dX6_takesDigit_26 k_i0 ?_
      exact r_zret C dX6_takesDigit_27
set_option maxRecDepth 100000 in
set_option maxHeartbeats 4000000 in
theorem tcX6_rankOf (l : Launch) (g : WG) (hg : p_al g = false) (i0 : Int32) (h : PH) : CT l g 1 0 0 yX6_rankOf cX6_rankOf 1 (some .int) em_i [.int i0] h (fX6_rankOf i0 h) := by
  refine CT_of (own := RX6) (nm := "rankOf") (by decide +kernel) (Nat.le_of_ble_eq_true rfl) rfl rfl rfl ⟨rfl, rfl⟩ (fun K hK C => ?_)
  subst hK
  unfold fX6_rankOf
  show VX K g _ _ _ _ _ [(0, .int i0)] _ _ _
  refine r_iload_n C dX6_rankOf_0 0 rfl ?_
  refine r_ite (fun e => ?_) (fun q1_0 => ?_)
  · subst e
    refine r_lks (off := 79) (tgt := 80) C dX6_rankOf_1 rfl (by decide) (by decide) ?_
    refine r_iconst C dX6_rankOf_80 k_i3 ?_
    exact r_iret C dX6_rankOf_81
  refine r_ite (fun e => ?_) (fun q1_1 => ?_)
  · subst e
    refine r_lks (off := 77) (tgt := 78) C dX6_rankOf_1 rfl (by decide) (by decide) ?_
    refine r_iconst C dX6_rankOf_78 k_i2 ?_
    exact r_iret C dX6_rankOf_79
  refine r_ite (fun e => ?_) (fun q1_2 => ?_)
  · subst e
    refine r_lks (off := 77) (tgt := 78) C dX6_rankOf_1 rfl (by decide) (by decide) ?_
    refine r_iconst C dX6_rankOf_78 k_i2 ?_
    exact r_iret C dX6_rankOf_79
  refine r_ite (fun e => ?_) (fun q1_3 => ?_)
  · subst e
    refine r_lks (off := 79) (tgt := 80) C dX6_rankOf_1 rfl (by decide) (by decide) ?_
    refine r_iconst C dX6_rankOf_80 k_i3 ?_
    exact r_iret C dX6_rankOf_81
  refine r_ite (fun e => ?_) (fun q1_4 => ?_)
  · subst e
    refine r_lks (off := 75) (tgt := 76) C dX6_rankOf_1 rfl (by decide) (by decide) ?_
    refine r_iconst C dX6_rankOf_76 k_i1 ?_
    exact r_iret C dX6_rankOf_77
  refine r_ite (fun e => ?_) (fun q1_5 => ?_)
  · subst e
    refine r_lks (off := 75) (tgt := 76) C dX6_rankOf_1 rfl (by decide) (by decide) ?_
    refine r_iconst C dX6_rankOf_76 k_i1 ?_
    exact r_iret C dX6_rankOf_77
  refine r_ite (fun e => ?_) (fun q1_6 => ?_)
  · subst e
    refine r_lks (off := 75) (tgt := 76) C dX6_rankOf_1 rfl (by decide) (by decide) ?_
    refine r_iconst C dX6_rankOf_76 k_i1 ?_
    exact r_iret C dX6_rankOf_77
  refine r_ite (fun e => ?_) (fun q1_7 => ?_)
  · subst e
    refine r_lks (off := 81) (tgt := 82) C dX6_rankOf_1 rfl (by decide) (by decide) ?_
    refine r_iconst C dX6_rankOf_82 k_i4 ?_
    exact r_iret C dX6_rankOf_83
  refine r_lkd (tgt := 84) C dX6_rankOf_1 rfl (And.intro (lk_ne (by decide) q1_0) (And.intro (lk_ne (by decide) q1_1) (And.intro (lk_ne (by decide) q1_2) (And.intro (lk_ne (by decide) q1_3) (And.intro (lk_ne (by decide) q1_4) (And.intro (lk_ne (by decide) q1_5) (And.intro (lk_ne (by decide) q1_6) (And.intro (lk_ne (by decide) q1_7) (trivial))))))))) (by decide) ?_
  refine r_iconst C dX6_rankOf_84 k_i0 ?_
  exact r_iret C dX6_rankOf_85
set_option maxRecDepth 100000 in
set_option maxHeartbeats 4000000 in
theorem tX6_layOut_L0 {K : AC} {g : WG} (hg : p_al g = false)  (C : Cx K g cX6_layOut 2 RX6 none "layOut" 2 0 0) (o0 : Nat) (i1 : Int32) {kx : PH → Option (Unit × PH)} (hk : ∀  (h : PH), VX K g 2 0 0 (a_fin K g 0 0 em_v) 52 [] [] h (kx h)) : ∀ (n : Nat)  (h : PH), VX K g 2 0 0 (a_fin K g 0 0 em_v) 0 [(0, p_rf g o0), (1, .int i1)] [] h (fX6_layOut_L0 o0 i1 kx n  h) := by
  intro n
  induction n with
  | zero =>
    intros
    exact r_none
  | succ n ih =>
    intro  h
    rw [fX6_layOut_L0]
    refine r_aload_n C dX6_layOut_0 0 rfl ?_
    refine r_gi C wf_X6_37_5 dX6_layOut_1 (fun x1 => ?_)
    refine r_if_le (tgt := 52) C dX6_layOut_4 (by decide) ?_ ?_
    · refine r_perm (lv' := []) [] rfl ?_
      exact hk h
    · refine r_aload_n C dX6_layOut_7 0 rfl ?_
      refine r_gr C wf_X6_15_5 dX6_layOut_8 (fun q2 => ?_)
      refine r_aload_n C dX6_layOut_11 0 rfl ?_
      refine r_gi C wf_X6_37_5 dX6_layOut_12 (fun x3 => ?_)
      refine r_iconst C dX6_layOut_15 k_i1 ?_
      refine r_isub C dX6_layOut_16 ?_
      refine r_iald C dX6_layOut_17 (fun x4 => ?_)
      refine r_csi (As := [.int x4]) (st := []) C ws_X6_84 (tcX6_rankOf K.2.1 g hg x4 h) (Nat.le_of_ble_eq_true rfl) rfl rfl (Nat.le_of_ble_eq_true rfl) dX6_layOut_18 ⟨Nat.le_of_ble_eq_true rfl, Nat.le_of_ble_eq_true rfl⟩ (fun x5 h6 => ?_)
      refine r_iload_n C dX6_layOut_21 1 rfl ?_
      refine r_icmp_lt (tgt := 52) C dX6_layOut_22 (by decide) ?_ ?_
      · refine r_perm (lv' := []) [] rfl ?_
        exact hk h6
      · refine r_aload_n C dX6_layOut_25 0 rfl ?_
        refine r_dup C dX6_layOut_26 rfl ?_
        refine r_gi C wf_X6_37_5 dX6_layOut_27 (fun x7 => ?_)
        refine r_iconst C dX6_layOut_30 k_i1 ?_
        refine r_isub C dX6_layOut_31 ?_
        refine r_pi C wf_X6_37_5 dX6_layOut_32 (fun h8 => ?_)
        refine r_aload_n C dX6_layOut_35 0 rfl ?_
        refine r_aload_n C dX6_layOut_36 0 rfl ?_
        refine r_gr C wf_X6_15_5 dX6_layOut_37 (fun q9 => ?_)
        refine r_aload_n C dX6_layOut_40 0 rfl ?_
        refine r_gi C wf_X6_37_5 dX6_layOut_41 (fun x10 => ?_)
        refine r_iald C dX6_layOut_44 (fun x11 => ?_)
        refine r_ineg C dX6_layOut_45 ?_
        refine r_cvv (As := [.int (-x11)]) (st := []) C wv_X6_73 (tcX6_step K.2.1 g hg o0 (-x11) h8) (Nat.le_of_ble_eq_true rfl) rfl rfl (Nat.le_of_ble_eq_true rfl) dX6_layOut_46 ⟨Nat.le_of_ble_eq_true rfl, Nat.le_of_ble_eq_true rfl⟩ (fun h12 => ?_)
        refine r_goto (tgt := 0) C dX6_layOut_49 (by decide) ?_
        exact ih h12
set_option maxRecDepth 100000 in
set_option maxHeartbeats 4000000 in
theorem tcX6_layOut (l : Launch) (g : WG) (hg : p_al g = false) (o0 : Nat) (i1 : Int32) (h : PH) : CT l g 2 0 0 yX6_layOut cX6_layOut 2 none em_v [p_rf g o0, .int i1] h (fX6_layOut o0 i1 h) := by
  refine CT_of (own := RX6) (nm := "layOut") (by decide +kernel) (Nat.le_of_ble_eq_true rfl) rfl rfl rfl ⟨rfl, rfl⟩ (fun K hK C => ?_)
  subst hK
  unfold fX6_layOut
  show VX K g _ _ _ _ _ [(0, p_rf g o0), (1, .int i1)] _ _ _
  refine tX6_layOut_L0 hg C o0 i1 (fun h1 => ?_) FU  h
  exact r_vret C dX6_layOut_52
set_option maxRecDepth 100000 in
set_option maxHeartbeats 4000000 in
theorem tcX6_closes (l : Launch) (g : WG) (hg : p_al g = false) (o0 : Nat) (h : PH) : CT l g 3 0 0 yX6_closes cX6_closes 1 (some .boolean) em_i [p_rf g o0] h (fX6_closes o0 h) := by
  refine CT_of (own := RX6) (nm := "closes") (by decide +kernel) (Nat.le_of_ble_eq_true rfl) rfl rfl rfl ⟨rfl, rfl⟩ (fun K hK C => ?_)
  subst hK
  unfold fX6_closes
  show VX K g _ _ _ _ _ [(0, p_rf g o0)] _ _ _
  refine r_aload_n C dX6_closes_0 0 rfl ?_
  refine r_gi C wf_X6_40_5 dX6_closes_1 (fun x1 => ?_)
  refine r_if_ne (tgt := 9) C dX6_closes_4 (by decide) ?_ ?_
  · refine r_aload_n C dX6_closes_9 0 rfl ?_
    refine r_iconst C dX6_closes_10 k_i1 ?_
    refine r_cvv (As := [.int (1 : Int32)]) (st := []) C wv_X6_34 (tcX6_layOut K.2.1 g hg o0 (1 : Int32) h) (Nat.le_of_ble_eq_true rfl) rfl rfl (Nat.le_of_ble_eq_true rfl) dX6_closes_11 ⟨Nat.le_of_ble_eq_true rfl, Nat.le_of_ble_eq_true rfl⟩ (fun h2 => ?_)
    refine r_aload_n C dX6_closes_14 0 rfl ?_
    refine r_dup C dX6_closes_15 rfl ?_
    refine r_gi C wf_X6_37_5 dX6_closes_16 (fun x3 => ?_)
    refine r_iconst C dX6_closes_19 k_i1 ?_
    refine r_isub C dX6_closes_20 ?_
    refine r_pi C wf_X6_37_5 dX6_closes_21 (fun h4 => ?_)
    refine r_aload_n C dX6_closes_24 0 rfl ?_
    refine r_dup C dX6_closes_25 rfl ?_
    refine r_gi C wf_X6_40_5 dX6_closes_26 (fun x5 => ?_)
    refine r_iconst C dX6_closes_29 k_i1 ?_
    refine r_isub C dX6_closes_30 ?_
    refine r_pi C wf_X6_40_5 dX6_closes_31 (fun h6 => ?_)
    refine r_iconst C dX6_closes_34 k_i1 ?_
    exact r_zret C dX6_closes_35
  · refine r_iconst C dX6_closes_7 k_i0 ?_
    exact r_zret C dX6_closes_8
set_option maxRecDepth 100000 in
set_option maxHeartbeats 4000000 in
theorem tX6_takesBetween_J41 {K : AC} {g : WG} (hg : p_al g = false)  (C : Cx K g cX6_takesBetween 3 RX6 (some .boolean) "takesBetween" 3 0 0) (o0 : Nat) (i1 : Int32) (i2 : Int32)  (h : PH) : VX K g 3 0 0 (a_fin K g 0 0 em_i) 41 [(0, p_rf g o0), (1, .int i1), (2, .int i2)] [] h (fX6_takesBetween_J41 o0 i1 i2 h) := by
  unfold fX6_takesBetween_J41
  refine r_aload_n C dX6_takesBetween_41 0 rfl ?_
  refine r_iconst C dX6_takesBetween_42 k_i1 ?_
  refine r_iload_n C dX6_takesBetween_43 2 rfl ?_
  refine r_max C wm_X6_91 (Nat.le_of_ble_eq_true rfl) (Nat.le_of_ble_eq_true rfl) ⟨Nat.le_of_ble_eq_true rfl, Nat.le_of_ble_eq_true rfl⟩ dX6_takesBetween_44 ?_
  refine r_cvv (As := [.int (if (1 : Int32) < i2 then i2 else (1 : Int32))]) (st := []) C wv_X6_34 (tcX6_layOut K.2.1 g hg o0 (if (1 : Int32) < i2 then i2 else (1 : Int32)) h) (Nat.le_of_ble_eq_true rfl) rfl rfl (Nat.le_of_ble_eq_true rfl) dX6_takesBetween_47 ⟨Nat.le_of_ble_eq_true rfl, Nat.le_of_ble_eq_true rfl⟩ (fun h1 => ?_)
  refine r_aload_n C dX6_takesBetween_50 0 rfl ?_
  refine r_iload_n C dX6_takesBetween_51 1 rfl ?_
  refine r_cvv (As := [.int i1]) (st := []) C wv_X6_70 (tcX6_hold K.2.1 g hg o0 i1 h1) (Nat.le_of_ble_eq_true rfl) rfl rfl (Nat.le_of_ble_eq_true rfl) dX6_takesBetween_52 ⟨Nat.le_of_ble_eq_true rfl, Nat.le_of_ble_eq_true rfl⟩ (fun h2 => ?_)
  refine r_aload_n C dX6_takesBetween_55 0 rfl ?_
  refine r_iconst C dX6_takesBetween_56 k_i1 ?_
  refine r_pz C wf_X6_49_5 dX6_takesBetween_57 (fun h3 => ?_)
  refine r_iload_n C dX6_takesBetween_60 2 rfl ?_
  refine r_if_le (tgt := 68) C dX6_takesBetween_61 (by decide) ?_ ?_
  · refine r_iconst C dX6_takesBetween_68 k_i0 ?_
    exact r_zret C dX6_takesBetween_69
  · refine r_iconst C dX6_takesBetween_64 k_i1 ?_
    refine r_goto (tgt := 69) C dX6_takesBetween_65 (by decide) ?_
    exact r_zret C dX6_takesBetween_69
set_option maxRecDepth 100000 in
set_option maxHeartbeats 4000000 in
theorem tcX6_takesBetween (l : Launch) (g : WG) (hg : p_al g = false) (o0 : Nat) (i1 : Int32) (h : PH) : CT l g 3 0 0 yX6_takesBetween cX6_takesBetween 3 (some .boolean) em_i [p_rf g o0, .int i1] h (fX6_takesBetween o0 i1 h) := by
  refine CT_of (own := RX6) (nm := "takesBetween") (by decide +kernel) (Nat.le_of_ble_eq_true rfl) rfl rfl rfl ⟨rfl, rfl⟩ (fun K hK C => ?_)
  subst hK
  unfold fX6_takesBetween
  show VX K g _ _ _ _ _ [(0, p_rf g o0), (1, .int i1)] _ _ _
  refine r_iload_n C dX6_takesBetween_0 1 rfl ?_
  refine r_csi (As := [.int i1]) (st := []) C ws_X6_84 (tcX6_rankOf K.2.1 g hg i1 h) (Nat.le_of_ble_eq_true rfl) rfl rfl (Nat.le_of_ble_eq_true rfl) dX6_takesBetween_1 ⟨Nat.le_of_ble_eq_true rfl, Nat.le_of_ble_eq_true rfl⟩ (fun x1 h2 => ?_)
  refine r_istore_n (lv9 := [(2, .int x1), (0, p_rf g o0), (1, .int i1)]) C dX6_takesBetween_4 (by decide) rfl ?_
  refine r_iload_n C dX6_takesBetween_5 0 rfl ?_
  refine r_iconst C dX6_takesBetween_6 k_i1 ?_
  refine r_icmp_ne (tgt := 41) C dX6_takesBetween_7 (by decide) ?_ ?_
  · refine r_perm (lv' := [(0, p_rf g o0), (1, .int i1), (2, .int x1)]) [1, 2, 0] rfl ?_
    exact tX6_takesBetween_J41 hg C o0 i1 x1 h2
  · refine r_aload_n C dX6_takesBetween_10 1 rfl ?_
    refine r_gi C wf_X6_40_5 dX6_takesBetween_11 (fun x3 => ?_)
    refine r_aload_n C dX6_takesBetween_14 1 rfl ?_
    refine r_gi C wf_X6_46_5 dX6_takesBetween_15 (fun x4 => ?_)
    refine r_cni (As := [.int x3, .int x4]) (st := []) C wn_X6_87 (tcX11_isIn K.2.1 g hg x3 x4 h2) (Nat.le_of_ble_eq_true rfl) rfl rfl (Nat.le_of_ble_eq_true rfl) dX6_takesBetween_18 ⟨Nat.le_of_ble_eq_true rfl, Nat.le_of_ble_eq_true rfl⟩ (fun x5 h6 => ?_)
    refine r_if_eq (tgt := 26) C dX6_takesBetween_21 (by decide) ?_ ?_
    · refine r_aload_n C dX6_takesBetween_26 1 rfl ?_
      refine r_dup C dX6_takesBetween_27 rfl ?_
      refine r_gi C wf_X6_46_5 dX6_takesBetween_28 (fun x7 => ?_)
      refine r_iconst C dX6_takesBetween_31 k_i1 ?_
      refine r_aload_n C dX6_takesBetween_32 1 rfl ?_
      refine r_gi C wf_X6_40_5 dX6_takesBetween_33 (fun x8 => ?_)
      refine r_ishl C dX6_takesBetween_36 ?_
      refine r_ior C dX6_takesBetween_37 ?_
      refine r_pi C wf_X6_46_5 dX6_takesBetween_38 (fun h9 => ?_)
      refine r_perm (lv' := [(0, p_rf g o0), (1, .int i1), (2, .int x1)]) [1, 2, 0] rfl ?_
      exact tX6_takesBetween_J41 hg C o0 i1 x1 h9
    · refine r_iconst C dX6_takesBetween_24 k_i0 ?_
      exact r_zret C dX6_takesBetween_25
set_option maxRecDepth 100000 in
set_option maxHeartbeats 4000000 in
theorem tX6_takes_J33 {K : AC} {g : WG} (hg : p_al g = false)  (C : Cx K g cX6_takes 2 RX6 (some .boolean) "takes" 6 0 0) (o0 : Nat) (i1 : Int32)  (h : PH) : VX K g 2 0 0 (a_fin K g 0 0 em_i) 33 [(0, p_rf g o0), (1, .int i1)] [] h (fX6_takes_J33 o0 i1 h) := by
  unfold fX6_takes_J33
  refine r_aload_n C dX6_takes_33 0 rfl ?_
  refine r_iconst C dX6_takes_34 k_i0 ?_
  refine r_pi C wf_X6_43_5 dX6_takes_35 (fun h1 => ?_)
  refine r_iload_n C dX6_takes_38 1 rfl ?_
  refine r_bipush C dX6_takes_39 k_b41 ?_
  refine r_icmp_ne (tgt := 51) C dX6_takes_41 (by decide) ?_ ?_
  · refine r_aload_n C dX6_takes_51 0 rfl ?_
    refine r_iload_n C dX6_takes_52 1 rfl ?_
    refine r_cvi (As := [.int i1]) (st := []) C wv_X6_67 (tcX6_takesBetween K.2.1 g hg o0 i1 h1) (Nat.le_of_ble_eq_true rfl) rfl rfl (Nat.le_of_ble_eq_true rfl) dX6_takes_53 ⟨Nat.le_of_ble_eq_true rfl, Nat.le_of_ble_eq_true rfl⟩ (fun x2 h3 => ?_)
    exact r_zret C dX6_takes_56
  · refine r_aload_n C dX6_takes_44 0 rfl ?_
    refine r_cvi (As := []) (st := []) C wv_X6_63 (tcX6_closes K.2.1 g hg o0 h1) (Nat.le_of_ble_eq_true rfl) rfl rfl (Nat.le_of_ble_eq_true rfl) dX6_takes_45 ⟨Nat.le_of_ble_eq_true rfl, Nat.le_of_ble_eq_true rfl⟩ (fun x4 h5 => ?_)
    refine r_goto (tgt := 56) C dX6_takes_48 (by decide) ?_
    exact r_zret C dX6_takes_56
set_option maxRecDepth 100000 in
set_option maxHeartbeats 4000000 in
theorem tcX6_takes (l : Launch) (g : WG) (hg : p_al g = false) (o0 : Nat) (i1 : Int32) (h : PH) : CT l g 6 0 0 yX6_takes cX6_takes 2 (some .boolean) em_i [p_rf g o0, .int i1] h (fX6_takes o0 i1 h) := by
  refine CT_of (own := RX6) (nm := "takes") (by decide +kernel) (Nat.le_of_ble_eq_true rfl) rfl rfl rfl ⟨rfl, rfl⟩ (fun K hK C => ?_)
  subst hK
  unfold fX6_takes
  show VX K g _ _ _ _ _ [(0, p_rf g o0), (1, .int i1)] _ _ _
  refine r_aload_n C dX6_takes_0 0 rfl ?_
  refine r_gi C wf_X6_49_5 dX6_takes_1 (fun x1 => ?_)
  refine r_if_eq (tgt := 13) C dX6_takes_4 (by decide) ?_ ?_
  · refine r_aload_n C dX6_takes_13 0 rfl ?_
    refine r_gi C wf_X6_43_5 dX6_takes_14 (fun x2 => ?_)
    refine r_if_le (tgt := 33) C dX6_takes_17 (by decide) ?_ ?_
    · exact tX6_takes_J33 hg C o0 i1 h
    · refine r_iload_n C dX6_takes_20 1 rfl ?_
      refine r_cni (As := [.int i1]) (st := []) C wn_X6_57 (tcX11_isDigit K.2.1 g hg i1 h) (Nat.le_of_ble_eq_true rfl) rfl rfl (Nat.le_of_ble_eq_true rfl) dX6_takes_21 ⟨Nat.le_of_ble_eq_true rfl, Nat.le_of_ble_eq_true rfl⟩ (fun x3 h4 => ?_)
      refine r_if_eq (tgt := 33) C dX6_takes_24 (by decide) ?_ ?_
      · exact tX6_takes_J33 hg C o0 i1 h4
      · refine r_aload_n C dX6_takes_27 0 rfl ?_
        refine r_iload_n C dX6_takes_28 1 rfl ?_
        refine r_cvi (As := [.int i1]) (st := []) C wv_X6_60 (tcX6_takesDigit K.2.1 g hg o0 i1 h4) (Nat.le_of_ble_eq_true rfl) rfl rfl (Nat.le_of_ble_eq_true rfl) dX6_takes_29 ⟨Nat.le_of_ble_eq_true rfl, Nat.le_of_ble_eq_true rfl⟩ (fun x5 h6 => ?_)
        exact r_zret C dX6_takes_32
  · refine r_aload_n C dX6_takes_7 0 rfl ?_
    refine r_iload_n C dX6_takes_8 1 rfl ?_
    refine r_cvi (As := [.int i1]) (st := []) C wv_X6_53 (tcX6_takesThing K.2.1 g hg o0 i1 h) (Nat.le_of_ble_eq_true rfl) rfl rfl (Nat.le_of_ble_eq_true rfl) dX6_takes_9 ⟨Nat.le_of_ble_eq_true rfl, Nat.le_of_ble_eq_true rfl⟩ (fun x7 h8 => ?_)
    exact r_zret C dX6_takes_12
set_option maxRecDepth 100000 in
set_option maxHeartbeats 4000000 in
theorem tcX6_mayEnd (l : Launch) (g : WG) (hg : p_al g = false) (o0 : Nat) (h : PH) : CT l g 1 0 0 yX6_mayEnd cX6_mayEnd 1 (some .boolean) em_i [p_rf g o0] h (fX6_mayEnd o0 h) := by
  refine CT_of (own := RX6) (nm := "mayEnd") (by decide +kernel) (Nat.le_of_ble_eq_true rfl) rfl rfl rfl ⟨rfl, rfl⟩ (fun K hK C => ?_)
  subst hK
  unfold fX6_mayEnd
  show VX K g _ _ _ _ _ [(0, p_rf g o0)] _ _ _
  refine r_aload_n C dX6_mayEnd_0 0 rfl ?_
  refine r_gi C wf_X6_49_5 dX6_mayEnd_1 (fun x1 => ?_)
  refine r_if_ne (tgt := 18) C dX6_mayEnd_4 (by decide) ?_ ?_
  · refine r_iconst C dX6_mayEnd_18 k_i0 ?_
    exact r_zret C dX6_mayEnd_19
  · refine r_aload_n C dX6_mayEnd_7 0 rfl ?_
    refine r_gi C wf_X6_40_5 dX6_mayEnd_8 (fun x2 => ?_)
    refine r_if_ne (tgt := 18) C dX6_mayEnd_11 (by decide) ?_ ?_
    · refine r_iconst C dX6_mayEnd_18 k_i0 ?_
      exact r_zret C dX6_mayEnd_19
    · refine r_iconst C dX6_mayEnd_14 k_i1 ?_
      refine r_goto (tgt := 19) C dX6_mayEnd_15 (by decide) ?_
      exact r_zret C dX6_mayEnd_19
set_option maxRecDepth 100000 in
set_option maxHeartbeats 4000000 in
theorem tX1_slip_X6_L13 {K : AC} {g : WG} (hg : p_al g = false)  (C : Cx K g cX1_slip 5 RX1 (some .int) "slip" 7 0 0) (o0 : Nat) (o1 : Nat) (i3 : Int32) {kx : PH → Option (Int32 × PH)} (hk : ∀  (h : PH), VX K g 5 0 0 (a_fin K g 0 0 em_i) 50 [(0, p_rf g o0), (3, .int i3)] [] h (kx h)) : ∀ (n : Nat) (i4 : Int32) (h : PH), VX K g 5 0 0 (a_fin K g 0 0 em_i) 13 [(0, p_rf g o0), (1, p_rf g o1), (3, .int i3), (4, .int i4)] [] h (fX1_slip_X6_L13 o0 o1 i3 kx n i4 h) := by
  intro n
  induction n with
  | zero =>
    intros
    exact r_none
  | succ n ih =>
    intro i4 h
    rw [fX1_slip_X6_L13]
    refine r_iload C dX1_slip_13 3 rfl ?_
    refine r_iload_n C dX1_slip_15 2 rfl ?_
    refine r_icmp_ge (tgt := 50) C dX1_slip_16 (by decide) ?_ ?_
    · refine r_perm (lv' := [(0, p_rf g o0), (3, .int i3)]) [0, 2] rfl ?_
      exact hk h
    · refine r_iload C dX1_slip_19 3 rfl ?_
      refine r_aload_n C dX1_slip_21 0 rfl ?_
      refine r_gi C wf_X1_9_5 dX1_slip_22 (fun x1 => ?_)
      refine r_icmp_ge (tgt := 50) C dX1_slip_25 (by decide) ?_ ?_
      · refine r_perm (lv' := [(0, p_rf g o0), (3, .int i3)]) [0, 2] rfl ?_
        exact hk h
      · refine r_aload_n C dX1_slip_28 0 rfl ?_
        refine r_aload_n C dX1_slip_29 1 rfl ?_
        refine r_iload C dX1_slip_30 3 rfl ?_
        refine r_cvi (As := [.int i4]) (st := [p_rf g o0]) C wv_X1_25 (tcX7_at K.2.1 g hg o1 i4 h) (Nat.le_of_ble_eq_true rfl) rfl rfl (Nat.le_of_ble_eq_true rfl) dX1_slip_32 ⟨Nat.le_of_ble_eq_true rfl, Nat.le_of_ble_eq_true rfl⟩ (fun x2 h3 => ?_)
        refine r_cui (As := [.int x2]) (st := []) C wu_X1_29_X6 (tcX6_takes K.2.1 g hg o0 x2 h3) (Nat.le_of_ble_eq_true rfl) rfl rfl (Nat.le_of_ble_eq_true rfl) dX1_slip_35 ⟨Nat.le_of_ble_eq_true rfl, Nat.le_of_ble_eq_true rfl⟩ (fun x4 h5 => ?_)
        refine r_if_ne (tgt := 44) C dX1_slip_38 (by decide) ?_ ?_
        · refine r_iinc (lv' := [(0, p_rf g o0), (1, p_rf g o1), (3, .int i3)]) C dX1_slip_44 3 rfl k_i1 (by decide) (fun _ => rfl) (fun x6 => ?_)
          refine r_goto (tgt := 13) C dX1_slip_47 (by decide) ?_
          refine r_perm (lv' := [(0, p_rf g o0), (1, p_rf g o1), (3, .int i3), (4, .int x6)]) [1, 2, 3, 0] rfl ?_
          exact ih x6 h5
        · refine r_iload C dX1_slip_41 3 rfl ?_
          exact r_iret C dX1_slip_43
set_option maxRecDepth 100000 in
set_option maxHeartbeats 4000000 in
theorem tcX1_slip_X6 (l : Launch) (g : WG) (hg : p_al g = false) (o0 : Nat) (o1 : Nat) (i2 : Int32) (h : PH) : CT l g 7 0 0 yX1_slip cX1_slip 5 (some .int) em_i [p_rf g o0, p_rf g o1, .int i2] h (fX1_slip_X6 o0 o1 i2 h) := by
  refine CT_of (own := RX1) (nm := "slip") (by decide +kernel) (Nat.le_of_ble_eq_true rfl) rfl rfl rfl ⟨rfl, rfl⟩ (fun K hK C => ?_)
  subst hK
  unfold fX1_slip_X6
  show VX K g _ _ _ _ _ [(0, p_rf g o0), (1, p_rf g o1), (2, .int i2)] _ _ _
  refine r_aload_n C dX1_slip_0 0 rfl ?_
  refine r_iload_n C dX1_slip_1 2 rfl ?_
  refine r_cuv (As := [.int i2]) (st := []) C wu_X1_15_X6 (tcX6_begin K.2.1 g hg o0 i2 h) (Nat.le_of_ble_eq_true rfl) rfl rfl (Nat.le_of_ble_eq_true rfl) dX1_slip_2 ⟨Nat.le_of_ble_eq_true rfl, Nat.le_of_ble_eq_true rfl⟩ (fun h1 => ?_)
  refine r_aload_n C dX1_slip_5 1 rfl ?_
  refine r_cvi (As := []) (st := []) C wv_X1_19 (tcX7_size K.2.1 g hg o1 h1) (Nat.le_of_ble_eq_true rfl) rfl rfl (Nat.le_of_ble_eq_true rfl) dX1_slip_6 ⟨Nat.le_of_ble_eq_true rfl, Nat.le_of_ble_eq_true rfl⟩ (fun x2 h3 => ?_)
  refine r_istore_n (lv9 := [(3, .int x2), (0, p_rf g o0), (1, p_rf g o1), (2, .int i2)]) C dX1_slip_9 (by decide) rfl ?_
  refine r_iconst C dX1_slip_10 k_i0 ?_
  refine r_istore (lv9 := [(4, .int (0 : Int32)), (3, .int x2), (0, p_rf g o0), (1, p_rf g o1), (2, .int i2)]) C dX1_slip_11 (by decide) rfl ?_
  refine r_perm (lv' := [(0, p_rf g o0), (1, p_rf g o1), (3, .int x2), (4, .int (0 : Int32))]) [2, 3, 1, 0] rfl ?_
  refine tX1_slip_X6_L13 hg C o0 o1 x2 (fun h4 => ?_) FU (0 : Int32) h3
  refine r_iload_n C dX1_slip_50 1 rfl ?_
  refine r_aload_n C dX1_slip_51 0 rfl ?_
  refine r_gi C wf_X1_9_5 dX1_slip_52 (fun x5 => ?_)
  refine r_icmp_le (tgt := 63) C dX1_slip_55 (by decide) ?_ ?_
  · refine r_aload_n C dX1_slip_63 0 rfl ?_
    refine r_cui (As := []) (st := []) C wu_X1_33_X6 (tcX6_mayEnd K.2.1 g hg o0 h4) (Nat.le_of_ble_eq_true rfl) rfl rfl (Nat.le_of_ble_eq_true rfl) dX1_slip_64 ⟨Nat.le_of_ble_eq_true rfl, Nat.le_of_ble_eq_true rfl⟩ (fun x6 h7 => ?_)
    refine r_if_eq (tgt := 74) C dX1_slip_67 (by decide) ?_ ?_
    · refine r_iload_n C dX1_slip_74 1 rfl ?_
      exact r_iret C dX1_slip_75
    · refine r_iconst C dX1_slip_70 k_im1 ?_
      refine r_goto (tgt := 75) C dX1_slip_71 (by decide) ?_
      exact r_iret C dX1_slip_75
  · refine r_aload_n C dX1_slip_58 0 rfl ?_
    refine r_gi C wf_X1_9_5 dX1_slip_59 (fun x8 => ?_)
    exact r_iret C dX1_slip_62
set_option maxRecDepth 100000 in
set_option maxHeartbeats 4000000 in
theorem tcX2_init (l : Launch) (g : WG) (hg : p_al g = true) (o0 : Nat) (i1 : Int32) (i2 : Int32) (i3 : Int32) (h : PH) : CT l g 2 0 0 yX2_init cX2_init 4 none em_v [p_rf g o0, .int i1, .int i2, .int i3] h (fX2_init o0 i1 i2 i3 h) := by
  refine CT_of (own := RX2) (nm := "<init>") (by decide +kernel) (Nat.le_of_ble_eq_true rfl) rfl rfl rfl ⟨rfl, rfl⟩ (fun K hK C => ?_)
  subst hK
  unfold fX2_init
  show VX K g _ _ _ _ _ [(0, p_rf g o0), (1, .int i1), (2, .int i2), (3, .int i3)] _ _ _
  refine r_aload_n C dX2_init_0 0 rfl ?_
  refine r_iload_n C dX2_init_1 3 rfl ?_
  refine r_ciA (As := [.int i3]) (st := []) C wi_X2_1 (tcX1_init_X2 K.2.1 g hg o0 i3 h) (Nat.le_of_ble_eq_true rfl) rfl rfl (Nat.le_of_ble_eq_true rfl) dX2_init_2 ⟨Nat.le_of_ble_eq_true rfl, Nat.le_of_ble_eq_true rfl⟩ (fun h1 => ?_)
  refine r_aload_n C dX2_init_5 0 rfl ?_
  refine r_iload_n C dX2_init_6 1 rfl ?_
  refine r_piF C wf_X2_7_1 dX2_init_7 (fun h2 => ?_)
  refine r_aload_n C dX2_init_10 0 rfl ?_
  refine r_iload_n C dX2_init_11 2 rfl ?_
  refine r_piF C wf_X2_13_1 dX2_init_12 (fun h3 => ?_)
  exact r_vret C dX2_init_15
set_option maxRecDepth 100000 in
set_option maxHeartbeats 4000000 in
theorem tcX2_lines (l : Launch) (g : WG) (hg : p_al g = false) (o0 : Nat) (h : PH) : CT l g 1 0 0 yX2_lines cX2_lines 1 (some .int) em_i [p_rf g o0] h (fX2_lines o0 h) := by
  refine CT_of (own := RX2) (nm := "lines") (by decide +kernel) (Nat.le_of_ble_eq_true rfl) rfl rfl rfl ⟨rfl, rfl⟩ (fun K hK C => ?_)
  subst hK
  unfold fX2_lines
  show VX K g _ _ _ _ _ [(0, p_rf g o0)] _ _ _
  refine r_aload_n C dX2_lines_0 0 rfl ?_
  refine r_gi C wf_X2_19_1 dX2_lines_1 (fun x1 => ?_)
  exact r_iret C dX2_lines_4
set_option maxRecDepth 100000 in
set_option maxHeartbeats 4000000 in
theorem tcX3_init (l : Launch) (g : WG) (hg : p_al g = true) (o0 : Nat) (h : PH) : CT l g 1 1 8 yX3_init cX3_init 1 none em_v [p_rf g o0] h (fX3_init o0 h) := by
  refine CT_of (own := RX3) (nm := "<init>") (by decide +kernel) (Nat.le_of_ble_eq_true rfl) rfl rfl rfl ⟨rfl, rfl⟩ (fun K hK C => ?_)
  subst hK
  unfold fX3_init
  show VX K g _ _ _ _ _ [(0, p_rf g o0)] _ _ _
  refine r_aload_n C dX3_init_0 0 rfl ?_
  refine r_obj C wo_X3_1 (Nat.le_of_ble_eq_true rfl) (Nat.le_of_ble_eq_true rfl) dX3_init_1 ?_
  refine r_aload_n C dX3_init_4 0 rfl ?_
  refine r_bipush C dX3_init_5 k_b8 ?_
  refine r_newa (atype := .long) (ty := .long) (t0 := 1) hg C rfl rfl m_241 (N := 8) (a0 := (8, .inr (.inl (fun _ => 0)))) (fun _ => rfl) (by decide) (by decide) (by decide) ⟨Nat.le_of_ble_eq_true rfl, Nat.le_of_ble_eq_true rfl⟩ dX3_init_7 (fun q1 h2 => ?_)
  refine r_prF C wf_X3_7_2 rfl rfl dX3_init_9 (fun h3 => ?_)
  exact r_vret C dX3_init_12
set_option maxRecDepth 100000 in
set_option maxHeartbeats 4000000 in
theorem tcX3_start (l : Launch) (g : WG) (hg : p_al g = false) (o0 : Nat) (h : PH) : CT l g 1 0 0 yX3_start cX3_start 1 none em_v [p_rf g o0] h (fX3_start o0 h) := by
  refine CT_of (own := RX3) (nm := "start") (by decide +kernel) (Nat.le_of_ble_eq_true rfl) rfl rfl rfl ⟨rfl, rfl⟩ (fun K hK C => ?_)
  subst hK
  unfold fX3_start
  show VX K g _ _ _ _ _ [(0, p_rf g o0)] _ _ _
  refine r_aload_n C dX3_start_0 0 rfl ?_
  refine r_iconst C dX3_start_1 k_i0 ?_
  refine r_pi C wf_X3_13_2 dX3_start_2 (fun h1 => ?_)
  exact r_vret C dX3_start_5
set_option maxRecDepth 100000 in
set_option maxHeartbeats 4000000 in
theorem tcX3_add (l : Launch) (g : WG) (hg : p_al g = false) (o0 : Nat) (l1 : Int64) (h : PH) : CT l g 1 0 0 yX3_add cX3_add 3 none em_v [p_rf g o0, .long l1] h (fX3_add o0 l1 h) := by
  refine CT_of (own := RX3) (nm := "add") (by decide +kernel) (Nat.le_of_ble_eq_true rfl) rfl rfl rfl ⟨rfl, rfl⟩ (fun K hK C => ?_)
  subst hK
  unfold fX3_add
  show VX K g _ _ _ _ _ [(0, p_rf g o0), (1, .long l1)] _ _ _
  refine r_aload_n C dX3_add_0 0 rfl ?_
  refine r_gi C wf_X3_13_2 dX3_add_1 (fun x1 => ?_)
  refine r_aload_n C dX3_add_4 0 rfl ?_
  refine r_gr C wf_X3_7_2 dX3_add_5 (fun q2 => ?_)
  refine r_alen (ty := .long) (t0 := 1) C rfl dX3_add_8 (fun x3 => ?_)
  refine r_icmp_ge (tgt := 32) C dX3_add_9 (by decide) ?_ ?_
  · exact r_vret C dX3_add_32
  · refine r_aload_n C dX3_add_12 0 rfl ?_
    refine r_gr C wf_X3_7_2 dX3_add_13 (fun q4 => ?_)
    refine r_aload_n C dX3_add_16 0 rfl ?_
    refine r_gi C wf_X3_13_2 dX3_add_17 (fun x5 => ?_)
    refine r_lload_n C dX3_add_20 1 rfl ?_
    refine r_last hg C dX3_add_21 (fun h6 => ?_)
    refine r_aload_n C dX3_add_22 0 rfl ?_
    refine r_dup C dX3_add_23 rfl ?_
    refine r_gi C wf_X3_13_2 dX3_add_24 (fun x7 => ?_)
    refine r_iconst C dX3_add_27 k_i1 ?_
    refine r_iadd C dX3_add_28 ?_
    refine r_pi C wf_X3_13_2 dX3_add_29 (fun h8 => ?_)
    exact r_vret C dX3_add_32
set_option maxRecDepth 100000 in
set_option maxHeartbeats 4000000 in
theorem tcX3_size (l : Launch) (g : WG) (hg : p_al g = false) (o0 : Nat) (h : PH) : CT l g 1 0 0 yX3_size cX3_size 1 (some .int) em_i [p_rf g o0] h (fX3_size o0 h) := by
  refine CT_of (own := RX3) (nm := "size") (by decide +kernel) (Nat.le_of_ble_eq_true rfl) rfl rfl rfl ⟨rfl, rfl⟩ (fun K hK C => ?_)
  subst hK
  unfold fX3_size
  show VX K g _ _ _ _ _ [(0, p_rf g o0)] _ _ _
  refine r_aload_n C dX3_size_0 0 rfl ?_
  refine r_gi C wf_X3_13_2 dX3_size_1 (fun x1 => ?_)
  exact r_iret C dX3_size_4
set_option maxRecDepth 100000 in
set_option maxHeartbeats 4000000 in
theorem tcX3_at (l : Launch) (g : WG) (hg : p_al g = false) (o0 : Nat) (i1 : Int32) (h : PH) : CT l g 2 0 0 yX3_at cX3_at 2 (some .long) em_l [p_rf g o0, .int i1] h (fX3_at o0 i1 h) := by
  refine CT_of (own := RX3) (nm := "at") (by decide +kernel) (Nat.le_of_ble_eq_true rfl) rfl rfl rfl ⟨rfl, rfl⟩ (fun K hK C => ?_)
  subst hK
  unfold fX3_at
  show VX K g _ _ _ _ _ [(0, p_rf g o0), (1, .int i1)] _ _ _
  refine r_iload_n C dX3_at_0 1 rfl ?_
  refine r_iconst C dX3_at_1 k_i0 ?_
  refine r_aload_n C dX3_at_2 0 rfl ?_
  refine r_gi C wf_X3_13_2 dX3_at_3 (fun x1 => ?_)
  refine r_iconst C dX3_at_6 k_i1 ?_
  refine r_isub C dX3_at_7 ?_
  refine r_cni (As := [.int i1, .int (0 : Int32), .int (x1 - (1 : Int32))]) (st := []) C wn_X3_17 (tcX11_within K.2.1 g hg i1 (0 : Int32) (x1 - (1 : Int32)) h) (Nat.le_of_ble_eq_true rfl) rfl rfl (Nat.le_of_ble_eq_true rfl) dX3_at_8 ⟨Nat.le_of_ble_eq_true rfl, Nat.le_of_ble_eq_true rfl⟩ (fun x2 h3 => ?_)
  refine r_if_eq (tgt := 23) C dX3_at_11 (by decide) ?_ ?_
  · refine r_lconst (v := (0 : Int64)) C dX3_at_23 (by decide) ?_
    exact r_lret C dX3_at_24
  · refine r_aload_n C dX3_at_14 0 rfl ?_
    refine r_gr C wf_X3_7_2 dX3_at_15 (fun q4 => ?_)
    refine r_iload_n C dX3_at_18 1 rfl ?_
    refine r_lald C dX3_at_19 (fun y5 => ?_)
    refine r_goto (tgt := 24) C dX3_at_20 (by decide) ?_
    exact r_lret C dX3_at_24
set_option maxRecDepth 100000 in
set_option maxHeartbeats 4000000 in
theorem tcX4_init (l : Launch) (g : WG) (hg : p_al g = true) (o0 : Nat) (o1 : Nat) (o2 : Nat) (o3 : Nat) (o4 : Nat) (h : PH) : CT l g 1 9 268 yX4_init cX4_init 5 none em_v [p_rf g o0, p_rf g o1, p_rf g o2, p_rf g o3, p_rf g o4] h (fX4_init o0 o1 o2 o3 o4 h) := by
  refine CT_of (own := RX4) (nm := "<init>") (by decide +kernel) (Nat.le_of_ble_eq_true rfl) rfl rfl rfl ⟨rfl, rfl⟩ (fun K hK C => ?_)
  subst hK
  unfold fX4_init
  show VX K g _ _ _ _ _ [(0, p_rf g o0), (1, p_rf g o1), (2, p_rf g o2), (3, p_rf g o3), (4, p_rf g o4)] _ _ _
  refine r_aload_n C dX4_init_0 0 rfl ?_
  refine r_obj C wo_X4_3 (Nat.le_of_ble_eq_true rfl) (Nat.le_of_ble_eq_true rfl) dX4_init_1 ?_
  refine r_aload_n C dX4_init_4 0 rfl ?_
  refine r_bipush C dX4_init_5 k_b12 ?_
  refine r_newa (atype := .int) (ty := .int) (t0 := 0) hg C rfl rfl m_227 (N := 12) (a0 := (12, .inl (fun _ => 0))) (fun _ => rfl) (by decide) (by decide) (by decide) ⟨Nat.le_of_ble_eq_true rfl, Nat.le_of_ble_eq_true rfl⟩ dX4_init_7 (fun q1 h2 => ?_)
  refine r_prF C wf_X4_11_3 rfl rfl dX4_init_9 (fun h3 => ?_)
  refine r_aload_n C dX4_init_12 0 rfl ?_
  refine r_bipush C dX4_init_13 k_b12 ?_
  refine r_newa (atype := .int) (ty := .int) (t0 := 0) hg C rfl rfl m_227 (N := 12) (a0 := (12, .inl (fun _ => 0))) (fun _ => rfl) (by decide) (by decide) (by decide) ⟨Nat.le_of_ble_eq_true rfl, Nat.le_of_ble_eq_true rfl⟩ dX4_init_15 (fun q4 h5 => ?_)
  refine r_prF C wf_X4_15_3 rfl rfl dX4_init_17 (fun h6 => ?_)
  refine r_aload_n C dX4_init_20 0 rfl ?_
  refine r_bipush C dX4_init_21 k_b12 ?_
  refine r_newa (atype := .int) (ty := .int) (t0 := 0) hg C rfl rfl m_227 (N := 12) (a0 := (12, .inl (fun _ => 0))) (fun _ => rfl) (by decide) (by decide) (by decide) ⟨Nat.le_of_ble_eq_true rfl, Nat.le_of_ble_eq_true rfl⟩ dX4_init_23 (fun q7 h8 => ?_)
  refine r_prF C wf_X4_18_3 rfl rfl dX4_init_25 (fun h9 => ?_)
  refine r_aload_n C dX4_init_28 0 rfl ?_
  refine r_bipush C dX4_init_29 k_b40 ?_
  refine r_newa (atype := .int) (ty := .int) (t0 := 0) hg C rfl rfl m_227 (N := 40) (a0 := (40, .inl (fun _ => 0))) (fun _ => rfl) (by decide) (by decide) (by decide) ⟨Nat.le_of_ble_eq_true rfl, Nat.le_of_ble_eq_true rfl⟩ dX4_init_31 (fun q10 h11 => ?_)
  refine r_prF C wf_X4_21_3 rfl rfl dX4_init_33 (fun h12 => ?_)
  refine r_aload_n C dX4_init_36 0 rfl ?_
  refine r_bipush C dX4_init_37 k_b8 ?_
  refine r_newa (atype := .int) (ty := .int) (t0 := 0) hg C rfl rfl m_227 (N := 8) (a0 := (8, .inl (fun _ => 0))) (fun _ => rfl) (by decide) (by decide) (by decide) ⟨Nat.le_of_ble_eq_true rfl, Nat.le_of_ble_eq_true rfl⟩ dX4_init_39 (fun q13 h14 => ?_)
  refine r_prF C wf_X4_24_3 rfl rfl dX4_init_41 (fun h15 => ?_)
  refine r_aload_n C dX4_init_44 0 rfl ?_
  refine r_bipush C dX4_init_45 k_b48 ?_
  refine r_newa (atype := .int) (ty := .int) (t0 := 0) hg C rfl rfl m_227 (N := 48) (a0 := (48, .inl (fun _ => 0))) (fun _ => rfl) (by decide) (by decide) (by decide) ⟨Nat.le_of_ble_eq_true rfl, Nat.le_of_ble_eq_true rfl⟩ dX4_init_47 (fun q16 h17 => ?_)
  refine r_prF C wf_X4_27_3 rfl rfl dX4_init_49 (fun h18 => ?_)
  refine r_aload_n C dX4_init_52 0 rfl ?_
  refine r_bipush C dX4_init_53 k_b8 ?_
  refine r_newa (atype := .int) (ty := .int) (t0 := 0) hg C rfl rfl m_227 (N := 8) (a0 := (8, .inl (fun _ => 0))) (fun _ => rfl) (by decide) (by decide) (by decide) ⟨Nat.le_of_ble_eq_true rfl, Nat.le_of_ble_eq_true rfl⟩ dX4_init_55 (fun q19 h20 => ?_)
  refine r_prF C wf_X4_30_3 rfl rfl dX4_init_57 (fun h21 => ?_)
  refine r_aload_n C dX4_init_60 0 rfl ?_
  refine r_bipush C dX4_init_61 k_b64 ?_
  refine r_newa (atype := .int) (ty := .int) (t0 := 0) hg C rfl rfl m_227 (N := 64) (a0 := (64, .inl (fun _ => 0))) (fun _ => rfl) (by decide) (by decide) (by decide) ⟨Nat.le_of_ble_eq_true rfl, Nat.le_of_ble_eq_true rfl⟩ dX4_init_63 (fun q22 h23 => ?_)
  refine r_prF C wf_X4_33_3 rfl rfl dX4_init_65 (fun h24 => ?_)
  refine r_aload_n C dX4_init_68 0 rfl ?_
  refine r_bipush C dX4_init_69 k_b64 ?_
  refine r_newa (atype := .int) (ty := .int) (t0 := 0) hg C rfl rfl m_227 (N := 64) (a0 := (64, .inl (fun _ => 0))) (fun _ => rfl) (by decide) (by decide) (by decide) ⟨Nat.le_of_ble_eq_true rfl, Nat.le_of_ble_eq_true rfl⟩ dX4_init_71 (fun q25 h26 => ?_)
  refine r_prF C wf_X4_36_3 rfl rfl dX4_init_73 (fun h27 => ?_)
  refine r_aload_n C dX4_init_76 0 rfl ?_
  refine r_aload_n C dX4_init_77 1 rfl ?_
  refine r_prF C wf_X4_39_3 rfl rfl dX4_init_78 (fun h28 => ?_)
  refine r_aload_n C dX4_init_81 0 rfl ?_
  refine r_aload_n C dX4_init_82 2 rfl ?_
  refine r_prF C wf_X4_43_3 rfl rfl dX4_init_83 (fun h29 => ?_)
  refine r_aload_n C dX4_init_86 0 rfl ?_
  refine r_aload_n C dX4_init_87 3 rfl ?_
  refine r_prF C wf_X4_47_3 rfl rfl dX4_init_88 (fun h30 => ?_)
  refine r_aload_n C dX4_init_91 0 rfl ?_
  refine r_aload C dX4_init_92 4 rfl ?_
  refine r_prF C wf_X4_50_3 rfl rfl dX4_init_94 (fun h31 => ?_)
  exact r_vret C dX4_init_97
set_option maxRecDepth 100000 in
set_option maxHeartbeats 4000000 in
theorem tcX8_copy (l : Launch) (g : WG) (hg : p_al g = false) (o0 : Nat) (o1 : Nat) (h : PH) : CT l g 1 0 0 yX8_copy cX8_copy 2 none em_v [p_rf g o0, p_rf g o1] h (fX8_copy o0 o1 h) := by
  refine CT_of (own := RX8) (nm := "copy") (by decide +kernel) (Nat.le_of_ble_eq_true rfl) rfl rfl rfl ⟨rfl, rfl⟩ (fun K hK C => ?_)
  subst hK
  unfold fX8_copy
  show VX K g _ _ _ _ _ [(0, p_rf g o0), (1, p_rf g o1)] _ _ _
  refine r_aload_n C dX8_copy_0 1 rfl ?_
  refine r_gr C wf_X8_11_7 dX8_copy_1 (fun q1 => ?_)
  refine r_iconst C dX8_copy_4 k_i0 ?_
  refine r_aload_n C dX8_copy_5 0 rfl ?_
  refine r_gr C wf_X8_11_7 dX8_copy_6 (fun q2 => ?_)
  refine r_iconst C dX8_copy_9 k_i0 ?_
  refine r_bipush C dX8_copy_10 k_b82 ?_
  refine r_cpy hg C wc_X8_27 (Nat.le_of_ble_eq_true rfl) (Nat.le_of_ble_eq_true rfl) dX8_copy_12 (fun h3 => ?_)
  exact r_vret C dX8_copy_15
set_option maxRecDepth 100000 in
set_option maxHeartbeats 4000000 in
theorem tcX8_putDaysHeld (l : Launch) (g : WG) (hg : p_al g = false) (o0 : Nat) (i1 : Int32) (i2 : Int32) (i3 : Int32) (h : PH) : CT l g 1 0 0 yX8_putDaysHeld cX8_putDaysHeld 4 none em_v [p_rf g o0, .int i1, .int i2, .int i3] h (fX8_putDaysHeld o0 i1 i2 i3 h) := by
  refine CT_of (own := RX8) (nm := "putDaysHeld") (by decide +kernel) (Nat.le_of_ble_eq_true rfl) rfl rfl rfl ⟨rfl, rfl⟩ (fun K hK C => ?_)
  subst hK
  unfold fX8_putDaysHeld
  show VX K g _ _ _ _ _ [(0, p_rf g o0), (1, .int i1), (2, .int i2), (3, .int i3)] _ _ _
  refine r_iload_n C dX8_putDaysHeld_0 1 rfl ?_
  refine r_if_lt (tgt := 35) C dX8_putDaysHeld_1 (by decide) ?_ ?_
  · exact r_vret C dX8_putDaysHeld_35
  · refine r_iload_n C dX8_putDaysHeld_4 1 rfl ?_
    refine r_bipush C dX8_putDaysHeld_5 k_b6 ?_
    refine r_icmp_ge (tgt := 35) C dX8_putDaysHeld_7 (by decide) ?_ ?_
    · exact r_vret C dX8_putDaysHeld_35
    · refine r_iload_n C dX8_putDaysHeld_10 2 rfl ?_
      refine r_if_lt (tgt := 35) C dX8_putDaysHeld_11 (by decide) ?_ ?_
      · exact r_vret C dX8_putDaysHeld_35
      · refine r_iload_n C dX8_putDaysHeld_14 2 rfl ?_
        refine r_bipush C dX8_putDaysHeld_15 k_b8 ?_
        refine r_icmp_ge (tgt := 35) C dX8_putDaysHeld_17 (by decide) ?_ ?_
        · exact r_vret C dX8_putDaysHeld_35
        · refine r_aload_n C dX8_putDaysHeld_20 0 rfl ?_
          refine r_gr C wf_X8_11_7 dX8_putDaysHeld_21 (fun q1 => ?_)
          refine r_bipush C dX8_putDaysHeld_24 k_b32 ?_
          refine r_iload_n C dX8_putDaysHeld_26 1 rfl ?_
          refine r_bipush C dX8_putDaysHeld_27 k_b8 ?_
          refine r_imul C dX8_putDaysHeld_29 ?_
          refine r_iadd C dX8_putDaysHeld_30 ?_
          refine r_iload_n C dX8_putDaysHeld_31 2 rfl ?_
          refine r_iadd C dX8_putDaysHeld_32 ?_
          refine r_iload_n C dX8_putDaysHeld_33 3 rfl ?_
          refine r_iast C dX8_putDaysHeld_34 (fun h2 => ?_)
          exact r_vret C dX8_putDaysHeld_35
set_option maxRecDepth 100000 in
set_option maxHeartbeats 4000000 in
theorem tcX8_lend (l : Launch) (g : WG) (hg : p_al g = false) (o0 : Nat) (i1 : Int32) (i2 : Int32) (h : PH) : CT l g 2 0 0 yX8_lend cX8_lend 3 none em_v [p_rf g o0, .int i1, .int i2] h (fX8_lend o0 i1 i2 h) := by
  refine CT_of (own := RX8) (nm := "lend") (by decide +kernel) (Nat.le_of_ble_eq_true rfl) rfl rfl rfl ⟨rfl, rfl⟩ (fun K hK C => ?_)
  subst hK
  unfold fX8_lend
  show VX K g _ _ _ _ _ [(0, p_rf g o0), (1, .int i1), (2, .int i2)] _ _ _
  refine r_aload_n C dX8_lend_0 0 rfl ?_
  refine r_iload_n C dX8_lend_1 1 rfl ?_
  refine r_iload_n C dX8_lend_2 2 rfl ?_
  refine r_iconst C dX8_lend_3 k_i0 ?_
  refine r_cvv (As := [.int i1, .int i2, .int (0 : Int32)]) (st := []) C wv_X8_41 (tcX8_putDaysHeld K.2.1 g hg o0 i1 i2 (0 : Int32) h) (Nat.le_of_ble_eq_true rfl) rfl rfl (Nat.le_of_ble_eq_true rfl) dX8_lend_4 ⟨Nat.le_of_ble_eq_true rfl, Nat.le_of_ble_eq_true rfl⟩ (fun h1 => ?_)
  exact r_vret C dX8_lend_7
set_option maxRecDepth 100000 in
set_option maxHeartbeats 4000000 in
theorem tX8_daysHeld_J25 {K : AC} {g : WG} (hg : p_al g = false)  (C : Cx K g cX8_daysHeld 4 RX8 (some .int) "daysHeld" 1 0 0) (o0 : Nat) (i1 : Int32) (i2 : Int32) (s0 : Int32)  (h : PH) : VX K g 4 0 0 (a_fin K g 0 0 em_i) 25 [(0, p_rf g o0), (1, .int i1), (2, .int i2)] [.int s0] h (fX8_daysHeld_J25 o0 i1 i2 s0 h) := by
  unfold fX8_daysHeld_J25
  refine r_istore_n (lv9 := [(3, .int s0), (0, p_rf g o0), (1, .int i1), (2, .int i2)]) C dX8_daysHeld_25 (by decide) rfl ?_
  refine r_iload_n C dX8_daysHeld_26 0 rfl ?_
  refine r_if_eq (tgt := 47) C dX8_daysHeld_27 (by decide) ?_ ?_
  · refine r_iconst C dX8_daysHeld_47 k_im1 ?_
    exact r_iret C dX8_daysHeld_48
  · refine r_aload_n C dX8_daysHeld_30 1 rfl ?_
    refine r_gr C wf_X8_11_7 dX8_daysHeld_31 (fun q1 => ?_)
    refine r_bipush C dX8_daysHeld_34 k_b32 ?_
    refine r_iload_n C dX8_daysHeld_36 2 rfl ?_
    refine r_bipush C dX8_daysHeld_37 k_b8 ?_
    refine r_imul C dX8_daysHeld_39 ?_
    refine r_iadd C dX8_daysHeld_40 ?_
    refine r_iload_n C dX8_daysHeld_41 3 rfl ?_
    refine r_iadd C dX8_daysHeld_42 ?_
    refine r_iald C dX8_daysHeld_43 (fun x2 => ?_)
    refine r_goto (tgt := 48) C dX8_daysHeld_44 (by decide) ?_
    exact r_iret C dX8_daysHeld_48
set_option maxRecDepth 100000 in
set_option maxHeartbeats 4000000 in
theorem tX8_daysHeld_J24 {K : AC} {g : WG} (hg : p_al g = false)  (C : Cx K g cX8_daysHeld 4 RX8 (some .int) "daysHeld" 1 0 0) (o0 : Nat) (i1 : Int32) (i2 : Int32)  (h : PH) : VX K g 4 0 0 (a_fin K g 0 0 em_i) 24 [(0, p_rf g o0), (1, .int i1), (2, .int i2)] [] h (fX8_daysHeld_J24 o0 i1 i2 h) := by
  unfold fX8_daysHeld_J24
  refine r_iconst C dX8_daysHeld_24 k_i0 ?_
  exact tX8_daysHeld_J25 hg C o0 i1 i2 (0 : Int32) h
set_option maxRecDepth 100000 in
set_option maxHeartbeats 4000000 in
theorem tcX8_daysHeld (l : Launch) (g : WG) (hg : p_al g = false) (o0 : Nat) (i1 : Int32) (i2 : Int32) (h : PH) : CT l g 1 0 0 yX8_daysHeld cX8_daysHeld 4 (some .int) em_i [p_rf g o0, .int i1, .int i2] h (fX8_daysHeld o0 i1 i2 h) := by
  refine CT_of (own := RX8) (nm := "daysHeld") (by decide +kernel) (Nat.le_of_ble_eq_true rfl) rfl rfl rfl ⟨rfl, rfl⟩ (fun K hK C => ?_)
  subst hK
  unfold fX8_daysHeld
  show VX K g _ _ _ _ _ [(0, p_rf g o0), (1, .int i1), (2, .int i2)] _ _ _
  refine r_iload_n C dX8_daysHeld_0 1 rfl ?_
  refine r_if_lt (tgt := 24) C dX8_daysHeld_1 (by decide) ?_ ?_
  · exact tX8_daysHeld_J24 hg C o0 i1 i2 h
  · refine r_iload_n C dX8_daysHeld_4 1 rfl ?_
    refine r_bipush C dX8_daysHeld_5 k_b6 ?_
    refine r_icmp_ge (tgt := 24) C dX8_daysHeld_7 (by decide) ?_ ?_
    · exact tX8_daysHeld_J24 hg C o0 i1 i2 h
    · refine r_iload_n C dX8_daysHeld_10 2 rfl ?_
      refine r_if_lt (tgt := 24) C dX8_daysHeld_11 (by decide) ?_ ?_
      · exact tX8_daysHeld_J24 hg C o0 i1 i2 h
      · refine r_iload_n C dX8_daysHeld_14 2 rfl ?_
        refine r_bipush C dX8_daysHeld_15 k_b8 ?_
        refine r_icmp_ge (tgt := 24) C dX8_daysHeld_17 (by decide) ?_ ?_
        · exact tX8_daysHeld_J24 hg C o0 i1 i2 h
        · refine r_iconst C dX8_daysHeld_20 k_i1 ?_
          refine r_goto (tgt := 25) C dX8_daysHeld_21 (by decide) ?_
          exact tX8_daysHeld_J25 hg C o0 i1 i2 (1 : Int32) h
set_option maxRecDepth 100000 in
set_option maxHeartbeats 4000000 in
theorem tX8_groundsOf_J33_4 {K : AC} {g : WG} (hg : p_al g = false)  (C : Cx K g cX8_groundsOf 4 RX8 (some .int) "groundsOf" 2 0 0) (o0 : Nat) (i1 : Int32) (i3 : Int32) (s0 : Int32) (s1 : Int32)    {rc : Int32 → Int32 → PH → Option (Int32 × PH)} {kx : Int32 → PH → Option (Int32 × PH)} (hr : ∀ (i2' : Int32) (i3' : Int32) (h : PH), VX K g 4 0 0 (a_fin K g 0 0 em_i) 4 [(0, p_rf g o0), (1, .int i1), (2, .int i2'), (3, .int i3')] [] h (rc i2' i3' h)) (hk : ∀ (i2' : Int32) (h : PH), VX K g 4 0 0 (a_fin K g 0 0 em_i) 41 [(2, .int i2')] [] h (kx i2' h)) (h : PH) : VX K g 4 0 0 (a_fin K g 0 0 em_i) 33 [(0, p_rf g o0), (1, .int i1), (3, .int i3)] [.int s0, .int s1] h (fX8_groundsOf_J33_4 rc kx o0 i1 i3 s0 s1 h) := by
  unfold fX8_groundsOf_J33_4
  refine r_ior C dX8_groundsOf_33 ?_
  refine r_topi (fun x1 => ?_)
  refine r_istore_n (lv9 := [(2, .int x1), (0, p_rf g o0), (1, .int i1), (3, .int i3)]) C dX8_groundsOf_34 (by decide) rfl ?_
  refine r_iinc (lv' := [(2, .int x1), (0, p_rf g o0), (1, .int i1)]) C dX8_groundsOf_35 3 rfl k_i1 (by decide) (fun _ => rfl) (fun x2 => ?_)
  refine r_goto (tgt := 4) C dX8_groundsOf_38 (by decide) ?_
  refine r_perm (lv' := [(0, p_rf g o0), (1, .int i1), (2, .int x1), (3, .int x2)]) [2, 3, 1, 0] rfl ?_
  exact hr x1 x2 h
set_option maxRecDepth 100000 in
set_option maxHeartbeats 4000000 in
theorem tX8_groundsOf_L4 {K : AC} {g : WG} (hg : p_al g = false)  (C : Cx K g cX8_groundsOf 4 RX8 (some .int) "groundsOf" 2 0 0) (o0 : Nat) (i1 : Int32) {kx : Int32 → PH → Option (Int32 × PH)} (hk : ∀ (i2 : Int32) (h : PH), VX K g 4 0 0 (a_fin K g 0 0 em_i) 41 [(2, .int i2)] [] h (kx i2 h)) : ∀ (n : Nat) (i2 : Int32) (i3 : Int32) (h : PH), VX K g 4 0 0 (a_fin K g 0 0 em_i) 4 [(0, p_rf g o0), (1, .int i1), (2, .int i2), (3, .int i3)] [] h (fX8_groundsOf_L4 o0 i1 kx n i2 i3 h) := by
  intro n
  induction n with
  | zero =>
    intros
    exact r_none
  | succ n ih =>
    intro i2 i3 h
    rw [fX8_groundsOf_L4]
    refine r_iload_n C dX8_groundsOf_4 3 rfl ?_
    refine r_aload_n C dX8_groundsOf_5 0 rfl ?_
    refine r_gr C wf_X8_23_7 dX8_groundsOf_6 (fun q1 => ?_)
    refine r_cvi (As := []) (st := [.int i3]) C wv_X8_45 (tcX0_groundSize K.2.1 g hg q1 h) (Nat.le_of_ble_eq_true rfl) rfl rfl (Nat.le_of_ble_eq_true rfl) dX8_groundsOf_9 ⟨Nat.le_of_ble_eq_true rfl, Nat.le_of_ble_eq_true rfl⟩ (fun x2 h3 => ?_)
    refine r_icmp_ge (tgt := 41) C dX8_groundsOf_12 (by decide) ?_ ?_
    · refine r_perm (lv' := [(2, .int i2)]) [2] rfl ?_
      exact hk i2 h3
    · refine r_iload_n C dX8_groundsOf_15 2 rfl ?_
      refine r_aload_n C dX8_groundsOf_16 0 rfl ?_
      refine r_iload_n C dX8_groundsOf_17 1 rfl ?_
      refine r_iload_n C dX8_groundsOf_18 3 rfl ?_
      refine r_cvi (As := [.int i1, .int i3]) (st := [.int i2]) C wv_X8_37 (tcX8_daysHeld K.2.1 g hg o0 i1 i3 h3) (Nat.le_of_ble_eq_true rfl) rfl rfl (Nat.le_of_ble_eq_true rfl) dX8_groundsOf_19 ⟨Nat.le_of_ble_eq_true rfl, Nat.le_of_ble_eq_true rfl⟩ (fun x4 h5 => ?_)
      refine r_iconst C dX8_groundsOf_22 k_im1 ?_
      refine r_icmp_eq (tgt := 32) C dX8_groundsOf_23 (by decide) ?_ ?_
      · refine r_iconst C dX8_groundsOf_32 k_i0 ?_
        refine r_perm (lv' := [(0, p_rf g o0), (1, .int i1), (3, .int i3)]) [0, 1, 3] rfl ?_
        exact tX8_groundsOf_J33_4 hg C o0 i1 i3 (0 : Int32) i2 ih hk h5
      · refine r_iconst C dX8_groundsOf_26 k_i1 ?_
        refine r_iload_n C dX8_groundsOf_27 3 rfl ?_
        refine r_ishl C dX8_groundsOf_28 ?_
        refine r_goto (tgt := 33) C dX8_groundsOf_29 (by decide) ?_
        refine r_perm (lv' := [(0, p_rf g o0), (1, .int i1), (3, .int i3)]) [0, 1, 3] rfl ?_
        exact tX8_groundsOf_J33_4 hg C o0 i1 i3 ((1 : Int32) <<< (i3 &&& 31)) i2 ih hk h5
set_option maxRecDepth 100000 in
set_option maxHeartbeats 4000000 in
theorem tcX8_groundsOf (l : Launch) (g : WG) (hg : p_al g = false) (o0 : Nat) (i1 : Int32) (h : PH) : CT l g 2 0 0 yX8_groundsOf cX8_groundsOf 4 (some .int) em_i [p_rf g o0, .int i1] h (fX8_groundsOf o0 i1 h) := by
  refine CT_of (own := RX8) (nm := "groundsOf") (by decide +kernel) (Nat.le_of_ble_eq_true rfl) rfl rfl rfl ⟨rfl, rfl⟩ (fun K hK C => ?_)
  subst hK
  unfold fX8_groundsOf
  show VX K g _ _ _ _ _ [(0, p_rf g o0), (1, .int i1)] _ _ _
  refine r_iconst C dX8_groundsOf_0 k_i0 ?_
  refine r_istore_n (lv9 := [(2, .int (0 : Int32)), (0, p_rf g o0), (1, .int i1)]) C dX8_groundsOf_1 (by decide) rfl ?_
  refine r_iconst C dX8_groundsOf_2 k_i0 ?_
  refine r_istore_n (lv9 := [(3, .int (0 : Int32)), (2, .int (0 : Int32)), (0, p_rf g o0), (1, .int i1)]) C dX8_groundsOf_3 (by decide) rfl ?_
  refine r_perm (lv' := [(0, p_rf g o0), (1, .int i1), (2, .int (0 : Int32)), (3, .int (0 : Int32))]) [2, 3, 1, 0] rfl ?_
  refine tX8_groundsOf_L4 hg C o0 i1 (fun x1 h2 => ?_) FU (0 : Int32) (0 : Int32) h
  refine r_iload_n C dX8_groundsOf_41 0 rfl ?_
  exact r_iret C dX8_groundsOf_42
set_option maxRecDepth 100000 in
set_option maxHeartbeats 4000000 in
theorem tcJ6_bitCount_0f7a4 (l : Launch) (g : WG) (hg : p_al g = false) (i0 : Int32) (h : PH) : CT l g 1 0 0 yJ6_bitCount_0f7a4 cJ6_bitCount_0f7a4 1 (some .int) em_i [.int i0] h (fJ6_bitCount_0f7a4 i0 h) := by
  refine CT_of (own := RJ6) (nm := "bitCount") (by decide +kernel) (Nat.le_of_ble_eq_true rfl) rfl rfl rfl ⟨rfl, rfl⟩ (fun K hK C => ?_)
  subst hK
  unfold fJ6_bitCount_0f7a4
  show VX K g _ _ _ _ _ [(0, .int i0)] _ _ _
  refine r_iload_n C dJ6_bitCount_0f7a4_0 0 rfl ?_
  refine r_iload_n C dJ6_bitCount_0f7a4_1 0 rfl ?_
  refine r_iconst C dJ6_bitCount_0f7a4_2 k_i1 ?_
  refine r_iushr C dJ6_bitCount_0f7a4_3 ?_
  refine r_ldcw (v := (1431655765 : Int32)) C dJ6_bitCount_0f7a4_4 m_814 ?_
  refine r_iand C dJ6_bitCount_0f7a4_7 ?_
  refine r_isub C dJ6_bitCount_0f7a4_8 ?_
  refine r_topi (fun x1 => ?_)
  refine r_istore_n (lv9 := [(0, .int x1)]) C dJ6_bitCount_0f7a4_9 (by decide) rfl ?_
  refine r_iload_n C dJ6_bitCount_0f7a4_10 0 rfl ?_
  refine r_ldcw (v := (858993459 : Int32)) C dJ6_bitCount_0f7a4_11 m_815 ?_
  refine r_iand C dJ6_bitCount_0f7a4_14 ?_
  refine r_iload_n C dJ6_bitCount_0f7a4_15 0 rfl ?_
  refine r_iconst C dJ6_bitCount_0f7a4_16 k_i2 ?_
  refine r_iushr C dJ6_bitCount_0f7a4_17 ?_
  refine r_ldcw (v := (858993459 : Int32)) C dJ6_bitCount_0f7a4_18 m_815 ?_
  refine r_iand C dJ6_bitCount_0f7a4_21 ?_
  refine r_iadd C dJ6_bitCount_0f7a4_22 ?_
  refine r_topi (fun x2 => ?_)
  refine r_istore_n (lv9 := [(0, .int x2)]) C dJ6_bitCount_0f7a4_23 (by decide) rfl ?_
  refine r_iload_n C dJ6_bitCount_0f7a4_24 0 rfl ?_
  refine r_iload_n C dJ6_bitCount_0f7a4_25 0 rfl ?_
  refine r_iconst C dJ6_bitCount_0f7a4_26 k_i4 ?_
  refine r_iushr C dJ6_bitCount_0f7a4_27 ?_
  refine r_iadd C dJ6_bitCount_0f7a4_28 ?_
  refine r_ldcw (v := (252645135 : Int32)) C dJ6_bitCount_0f7a4_29 m_816 ?_
  refine r_iand C dJ6_bitCount_0f7a4_32 ?_
  refine r_topi (fun x3 => ?_)
  refine r_istore_n (lv9 := [(0, .int x3)]) C dJ6_bitCount_0f7a4_33 (by decide) rfl ?_
  refine r_iload_n C dJ6_bitCount_0f7a4_34 0 rfl ?_
  refine r_iload_n C dJ6_bitCount_0f7a4_35 0 rfl ?_
  refine r_bipush C dJ6_bitCount_0f7a4_36 k_b8 ?_
  refine r_iushr C dJ6_bitCount_0f7a4_38 ?_
  refine r_iadd C dJ6_bitCount_0f7a4_39 ?_
  refine r_topi (fun x4 => ?_)
  refine r_istore_n (lv9 := [(0, .int x4)]) C dJ6_bitCount_0f7a4_40 (by decide) rfl ?_
  refine r_iload_n C dJ6_bitCount_0f7a4_41 0 rfl ?_
  refine r_iload_n C dJ6_bitCount_0f7a4_42 0 rfl ?_
  refine r_bipush C dJ6_bitCount_0f7a4_43 k_b16 ?_
  refine r_iushr C dJ6_bitCount_0f7a4_45 ?_
  refine r_iadd C dJ6_bitCount_0f7a4_46 ?_
  refine r_topi (fun x5 => ?_)
  refine r_istore_n (lv9 := [(0, .int x5)]) C dJ6_bitCount_0f7a4_47 (by decide) rfl ?_
  refine r_iload_n C dJ6_bitCount_0f7a4_48 0 rfl ?_
  refine r_bipush C dJ6_bitCount_0f7a4_49 k_b63 ?_
  refine r_iand C dJ6_bitCount_0f7a4_51 ?_
  exact r_iret C dJ6_bitCount_0f7a4_52
set_option maxRecDepth 100000 in
set_option maxHeartbeats 4000000 in
theorem tJ7_fill_53178_L5 {K : AC} {g : WG} (hg : p_al g = false)  (C : Cx K g cJ7_fill_53178 4 RJ7 none "fill" 1 0 0) (o0 : Nat) (i1 : Int32) (i3 : Int32) {kx : PH → Option (Unit × PH)} (hk : ∀  (h : PH), VX K g 4 0 0 (a_fin K g 0 0 em_v) 20 [] [] h (kx h)) : ∀ (n : Nat) (i2 : Int32) (h : PH), VX K g 4 0 0 (a_fin K g 0 0 em_v) 5 [(0, p_rf g o0), (1, .int i1), (2, .int i2), (3, .int i3)] [] h (fJ7_fill_53178_L5 o0 i1 i3 kx n i2 h) := by
  intro n
  induction n with
  | zero =>
    intros
    exact r_none
  | succ n ih =>
    intro i2 h
    rw [fJ7_fill_53178_L5]
    refine r_iload_n C dJ7_fill_53178_5 2 rfl ?_
    refine r_iload_n C dJ7_fill_53178_6 3 rfl ?_
    refine r_icmp_ge (tgt := 20) C dJ7_fill_53178_7 (by decide) ?_ ?_
    · refine r_perm (lv' := []) [] rfl ?_
      exact hk h
    · refine r_aload_n C dJ7_fill_53178_10 0 rfl ?_
      refine r_iload_n C dJ7_fill_53178_11 2 rfl ?_
      refine r_iload_n C dJ7_fill_53178_12 1 rfl ?_
      refine r_iast C dJ7_fill_53178_13 (fun h1 => ?_)
      refine r_iinc (lv' := [(0, p_rf g o0), (1, .int i1), (3, .int i3)]) C dJ7_fill_53178_14 2 rfl k_i1 (by decide) (fun _ => rfl) (fun x2 => ?_)
      refine r_goto (tgt := 5) C dJ7_fill_53178_17 (by decide) ?_
      refine r_perm (lv' := [(0, p_rf g o0), (1, .int i1), (2, .int x2), (3, .int i3)]) [1, 2, 0, 3] rfl ?_
      exact ih x2 h1
set_option maxRecDepth 100000 in
set_option maxHeartbeats 4000000 in
theorem tcJ7_fill_53178 (l : Launch) (g : WG) (hg : p_al g = false) (o0 : Nat) (i1 : Int32) (h : PH) : CT l g 1 0 0 yJ7_fill_53178 cJ7_fill_53178 4 none em_v [p_rf g o0, .int i1] h (fJ7_fill_53178 o0 i1 h) := by
  refine CT_of (own := RJ7) (nm := "fill") (by decide +kernel) (Nat.le_of_ble_eq_true rfl) rfl rfl rfl ⟨rfl, rfl⟩ (fun K hK C => ?_)
  subst hK
  unfold fJ7_fill_53178
  show VX K g _ _ _ _ _ [(0, p_rf g o0), (1, .int i1)] _ _ _
  refine r_iconst C dJ7_fill_53178_0 k_i0 ?_
  refine r_istore_n (lv9 := [(2, .int (0 : Int32)), (0, p_rf g o0), (1, .int i1)]) C dJ7_fill_53178_1 (by decide) rfl ?_
  refine r_aload_n C dJ7_fill_53178_2 1 rfl ?_
  refine r_alen (ty := .int) (t0 := 0) C rfl dJ7_fill_53178_3 (fun x1 => ?_)
  refine r_istore_n (lv9 := [(3, .int x1), (2, .int (0 : Int32)), (0, p_rf g o0), (1, .int i1)]) C dJ7_fill_53178_4 (by decide) rfl ?_
  refine r_perm (lv' := [(0, p_rf g o0), (1, .int i1), (2, .int (0 : Int32)), (3, .int x1)]) [2, 3, 1, 0] rfl ?_
  refine tJ7_fill_53178_L5 hg C o0 i1 x1 (fun h2 => ?_) FU (0 : Int32) h
  exact r_vret C dJ7_fill_53178_20
set_option maxRecDepth 100000 in
set_option maxHeartbeats 4000000 in
theorem tX8_humourOf_J24 {K : AC} {g : WG} (hg : p_al g = false)  (C : Cx K g cX8_humourOf 4 RX8 (some .int) "humourOf" 1 0 0) (o0 : Nat) (i1 : Int32) (i2 : Int32) (s0 : Int32)  (h : PH) : VX K g 4 0 0 (a_fin K g 0 0 em_i) 24 [(0, p_rf g o0), (1, .int i1), (2, .int i2)] [.int s0] h (fX8_humourOf_J24 o0 i1 i2 s0 h) := by
  unfold fX8_humourOf_J24
  refine r_istore_n (lv9 := [(3, .int s0), (0, p_rf g o0), (1, .int i1), (2, .int i2)]) C dX8_humourOf_24 (by decide) rfl ?_
  refine r_iload_n C dX8_humourOf_25 0 rfl ?_
  refine r_if_eq (tgt := 45) C dX8_humourOf_26 (by decide) ?_ ?_
  · refine r_iconst C dX8_humourOf_45 k_i0 ?_
    exact r_iret C dX8_humourOf_46
  · refine r_aload_n C dX8_humourOf_29 1 rfl ?_
    refine r_gr C wf_X8_11_7 dX8_humourOf_30 (fun q1 => ?_)
    refine r_bipush C dX8_humourOf_33 k_b8 ?_
    refine r_iload_n C dX8_humourOf_35 2 rfl ?_
    refine r_iconst C dX8_humourOf_36 k_i4 ?_
    refine r_imul C dX8_humourOf_37 ?_
    refine r_iadd C dX8_humourOf_38 ?_
    refine r_iload_n C dX8_humourOf_39 3 rfl ?_
    refine r_iadd C dX8_humourOf_40 ?_
    refine r_iald C dX8_humourOf_41 (fun x2 => ?_)
    refine r_goto (tgt := 46) C dX8_humourOf_42 (by decide) ?_
    exact r_iret C dX8_humourOf_46
set_option maxRecDepth 100000 in
set_option maxHeartbeats 4000000 in
theorem tX8_humourOf_J23 {K : AC} {g : WG} (hg : p_al g = false)  (C : Cx K g cX8_humourOf 4 RX8 (some .int) "humourOf" 1 0 0) (o0 : Nat) (i1 : Int32) (i2 : Int32)  (h : PH) : VX K g 4 0 0 (a_fin K g 0 0 em_i) 23 [(0, p_rf g o0), (1, .int i1), (2, .int i2)] [] h (fX8_humourOf_J23 o0 i1 i2 h) := by
  unfold fX8_humourOf_J23
  refine r_iconst C dX8_humourOf_23 k_i0 ?_
  exact tX8_humourOf_J24 hg C o0 i1 i2 (0 : Int32) h
set_option maxRecDepth 100000 in
set_option maxHeartbeats 4000000 in
theorem tcX8_humourOf (l : Launch) (g : WG) (hg : p_al g = false) (o0 : Nat) (i1 : Int32) (i2 : Int32) (h : PH) : CT l g 1 0 0 yX8_humourOf cX8_humourOf 4 (some .int) em_i [p_rf g o0, .int i1, .int i2] h (fX8_humourOf o0 i1 i2 h) := by
  refine CT_of (own := RX8) (nm := "humourOf") (by decide +kernel) (Nat.le_of_ble_eq_true rfl) rfl rfl rfl ⟨rfl, rfl⟩ (fun K hK C => ?_)
  subst hK
  unfold fX8_humourOf
  show VX K g _ _ _ _ _ [(0, p_rf g o0), (1, .int i1), (2, .int i2)] _ _ _
  refine r_iload_n C dX8_humourOf_0 1 rfl ?_
  refine r_if_lt (tgt := 23) C dX8_humourOf_1 (by decide) ?_ ?_
  · exact tX8_humourOf_J23 hg C o0 i1 i2 h
  · refine r_iload_n C dX8_humourOf_4 1 rfl ?_
    refine r_bipush C dX8_humourOf_5 k_b6 ?_
    refine r_icmp_ge (tgt := 23) C dX8_humourOf_7 (by decide) ?_ ?_
    · exact tX8_humourOf_J23 hg C o0 i1 i2 h
    · refine r_iload_n C dX8_humourOf_10 2 rfl ?_
      refine r_if_lt (tgt := 23) C dX8_humourOf_11 (by decide) ?_ ?_
      · exact tX8_humourOf_J23 hg C o0 i1 i2 h
      · refine r_iload_n C dX8_humourOf_14 2 rfl ?_
        refine r_iconst C dX8_humourOf_15 k_i4 ?_
        refine r_icmp_ge (tgt := 23) C dX8_humourOf_16 (by decide) ?_ ?_
        · exact tX8_humourOf_J23 hg C o0 i1 i2 h
        · refine r_iconst C dX8_humourOf_19 k_i1 ?_
          refine r_goto (tgt := 24) C dX8_humourOf_20 (by decide) ?_
          exact tX8_humourOf_J24 hg C o0 i1 i2 (1 : Int32) h
set_option maxRecDepth 100000 in
set_option maxHeartbeats 4000000 in
theorem tcX6_outcome (l : Launch) (g : WG) (hg : p_al g = false) (i0 : Int32) (i1 : Int32) (i2 : Int32) (h : PH) : CT l g 1 0 0 yX6_outcome cX6_outcome 3 (some .int) em_i [.int i0, .int i1, .int i2] h (fX6_outcome i0 i1 i2 h) := by
  refine CT_of (own := RX6) (nm := "outcome") (by decide +kernel) (Nat.le_of_ble_eq_true rfl) rfl rfl rfl ⟨rfl, rfl⟩ (fun K hK C => ?_)
  subst hK
  unfold fX6_outcome
  show VX K g _ _ _ _ _ [(0, .int i0), (1, .int i1), (2, .int i2)] _ _ _
  refine r_iload_n C dX6_outcome_0 0 rfl ?_
  refine r_ite (fun e => ?_) (fun q1_0 => ?_)
  · subst e
    refine r_lks (off := 100) (tgt := 101) C dX6_outcome_1 rfl (by decide) (by decide) ?_
    refine r_iload_n C dX6_outcome_101 1 rfl ?_
    refine r_iload_n C dX6_outcome_102 2 rfl ?_
    refine r_imul C dX6_outcome_103 ?_
    exact r_iret C dX6_outcome_104
  refine r_ite (fun e => ?_) (fun q1_1 => ?_)
  · subst e
    refine r_lks (off := 92) (tgt := 93) C dX6_outcome_1 rfl (by decide) (by decide) ?_
    refine r_iload_n C dX6_outcome_93 1 rfl ?_
    refine r_iload_n C dX6_outcome_94 2 rfl ?_
    refine r_iadd C dX6_outcome_95 ?_
    exact r_iret C dX6_outcome_96
  refine r_ite (fun e => ?_) (fun q1_2 => ?_)
  · subst e
    refine r_lks (off := 96) (tgt := 97) C dX6_outcome_1 rfl (by decide) (by decide) ?_
    refine r_iload_n C dX6_outcome_97 1 rfl ?_
    refine r_iload_n C dX6_outcome_98 2 rfl ?_
    refine r_isub C dX6_outcome_99 ?_
    exact r_iret C dX6_outcome_100
  refine r_ite (fun e => ?_) (fun q1_3 => ?_)
  · subst e
    refine r_lks (off := 59) (tgt := 60) C dX6_outcome_1 rfl (by decide) (by decide) ?_
    refine r_iload_n C dX6_outcome_60 1 rfl ?_
    refine r_iload_n C dX6_outcome_61 2 rfl ?_
    refine r_icmp_ge (tgt := 69) C dX6_outcome_62 (by decide) ?_ ?_
    · refine r_iconst C dX6_outcome_69 k_i0 ?_
      exact r_iret C dX6_outcome_70
    · refine r_iconst C dX6_outcome_65 k_i1 ?_
      refine r_goto (tgt := 70) C dX6_outcome_66 (by decide) ?_
      exact r_iret C dX6_outcome_70
  refine r_ite (fun e => ?_) (fun q1_4 => ?_)
  · subst e
    refine r_lks (off := 81) (tgt := 82) C dX6_outcome_1 rfl (by decide) (by decide) ?_
    refine r_iload_n C dX6_outcome_82 1 rfl ?_
    refine r_iload_n C dX6_outcome_83 2 rfl ?_
    refine r_icmp_ne (tgt := 91) C dX6_outcome_84 (by decide) ?_ ?_
    · refine r_iconst C dX6_outcome_91 k_i0 ?_
      exact r_iret C dX6_outcome_92
    · refine r_iconst C dX6_outcome_87 k_i1 ?_
      refine r_goto (tgt := 92) C dX6_outcome_88 (by decide) ?_
      exact r_iret C dX6_outcome_92
  refine r_ite (fun e => ?_) (fun q1_5 => ?_)
  · subst e
    refine r_lks (off := 70) (tgt := 71) C dX6_outcome_1 rfl (by decide) (by decide) ?_
    refine r_iload_n C dX6_outcome_71 1 rfl ?_
    refine r_iload_n C dX6_outcome_72 2 rfl ?_
    refine r_icmp_le (tgt := 80) C dX6_outcome_73 (by decide) ?_ ?_
    · refine r_iconst C dX6_outcome_80 k_i0 ?_
      exact r_iret C dX6_outcome_81
    · refine r_iconst C dX6_outcome_76 k_i1 ?_
      refine r_goto (tgt := 81) C dX6_outcome_77 (by decide) ?_
      exact r_iret C dX6_outcome_81
  refine r_lkd (tgt := 105) C dX6_outcome_1 rfl (And.intro (lk_ne (by decide) q1_0) (And.intro (lk_ne (by decide) q1_1) (And.intro (lk_ne (by decide) q1_2) (And.intro (lk_ne (by decide) q1_3) (And.intro (lk_ne (by decide) q1_4) (And.intro (lk_ne (by decide) q1_5) (trivial))))))) (by decide) ?_
  refine r_iload_n C dX6_outcome_105 2 rfl ?_
  refine r_if_ne (tgt := 113) C dX6_outcome_106 (by decide) ?_ ?_
  · refine r_iload_n C dX6_outcome_113 1 rfl ?_
    refine r_iload_n C dX6_outcome_114 2 rfl ?_
    refine r_idiv C dX6_outcome_115 ?_
    exact r_iret C dX6_outcome_116
  · refine r_iconst C dX6_outcome_109 k_i0 ?_
    refine r_goto (tgt := 116) C dX6_outcome_110 (by decide) ?_
    exact r_iret C dX6_outcome_116
set_option maxRecDepth 100000 in
set_option maxHeartbeats 4000000 in
theorem tcX11_clamp (l : Launch) (g : WG) (hg : p_al g = false) (i0 : Int32) (i1 : Int32) (i2 : Int32) (h : PH) : CT l g 1 0 0 yX11_clamp cX11_clamp 3 (some .int) em_i [.int i0, .int i1, .int i2] h (fX11_clamp i0 i1 i2 h) := by
  refine CT_of (own := RX11) (nm := "clamp") (by decide +kernel) (Nat.le_of_ble_eq_true rfl) rfl rfl rfl ⟨rfl, rfl⟩ (fun K hK C => ?_)
  subst hK
  unfold fX11_clamp
  show VX K g _ _ _ _ _ [(0, .int i0), (1, .int i1), (2, .int i2)] _ _ _
  refine r_iload_n C dX11_clamp_0 0 rfl ?_
  refine r_iload_n C dX11_clamp_1 1 rfl ?_
  refine r_icmp_ge (tgt := 7) C dX11_clamp_2 (by decide) ?_ ?_
  · refine r_iload_n C dX11_clamp_7 0 rfl ?_
    refine r_iload_n C dX11_clamp_8 2 rfl ?_
    refine r_icmp_le (tgt := 16) C dX11_clamp_9 (by decide) ?_ ?_
    · refine r_iload_n C dX11_clamp_16 0 rfl ?_
      exact r_iret C dX11_clamp_17
    · refine r_iload_n C dX11_clamp_12 2 rfl ?_
      refine r_goto (tgt := 17) C dX11_clamp_13 (by decide) ?_
      exact r_iret C dX11_clamp_17
  · refine r_iload_n C dX11_clamp_5 1 rfl ?_
    exact r_iret C dX11_clamp_6
set_option maxRecDepth 100000 in
set_option maxHeartbeats 4000000 in
theorem tX6_push_J184_48 {K : AC} {g : WG} (hg : p_al g = false)  (C : Cx K g cX6_push 6 RX6 (some .int) "push" 2 0 0) (o0 : Nat) (o1 : Nat) (i2 : Int32) (i3 : Int32)    {rc : Int32 → Int32 → PH → Option (Int32 × PH)} {kx : PH → Option (Int32 × PH)} (hr : ∀ (i2' : Int32) (i3' : Int32) (h : PH), VX K g 6 0 0 (a_fin K g 0 0 em_i) 48 [(0, p_rf g o0), (1, p_rf g o1), (2, .int i2'), (3, .int i3')] [] h (rc i2' i3' h)) (hk : ∀  (h : PH), VX K g 6 0 0 (a_fin K g 0 0 em_i) 190 [(0, p_rf g o0)] [] h (kx  h)) (h : PH) : VX K g 6 0 0 (a_fin K g 0 0 em_i) 184 [(0, p_rf g o0), (1, p_rf g o1), (2, .int i2), (3, .int i3)] [] h (fX6_push_J184_48 rc kx o0 o1 i2 i3 h) := by
  unfold fX6_push_J184_48
  refine r_iinc (lv' := [(0, p_rf g o0), (1, p_rf g o1), (2, .int i2)]) C dX6_push_184 3 rfl k_i1 (by decide) (fun _ => rfl) (fun x1 => ?_)
  refine r_goto (tgt := 48) C dX6_push_187 (by decide) ?_
  refine r_perm (lv' := [(0, p_rf g o0), (1, p_rf g o1), (2, .int i2), (3, .int x1)]) [1, 2, 3, 0] rfl ?_
  exact hr i2 x1 h
set_option maxRecDepth 100000 in
set_option maxHeartbeats 4000000 in
theorem tX6_push_J148_48 {K : AC} {g : WG} (hg : p_al g = false)  (C : Cx K g cX6_push 6 RX6 (some .int) "push" 2 0 0) (o0 : Nat) (o1 : Nat) (i2 : Int32) (i3 : Int32) (i4 : Int32)    {rc : Int32 → Int32 → PH → Option (Int32 × PH)} {kx : PH → Option (Int32 × PH)} (hr : ∀ (i2' : Int32) (i3' : Int32) (h : PH), VX K g 6 0 0 (a_fin K g 0 0 em_i) 48 [(0, p_rf g o0), (1, p_rf g o1), (2, .int i2'), (3, .int i3')] [] h (rc i2' i3' h)) (hk : ∀  (h : PH), VX K g 6 0 0 (a_fin K g 0 0 em_i) 190 [(0, p_rf g o0)] [] h (kx  h)) (h : PH) : VX K g 6 0 0 (a_fin K g 0 0 em_i) 148 [(0, p_rf g o0), (1, p_rf g o1), (2, .int i2), (3, .int i3), (4, .int i4)] [] h (fX6_push_J148_48 rc kx o0 o1 i2 i3 i4 h) := by
  unfold fX6_push_J148_48
  refine r_iload_n C dX6_push_148 2 rfl ?_
  refine r_iconst C dX6_push_149 k_i1 ?_
  refine r_icmp_le (tgt := 184) C dX6_push_150 (by decide) ?_ ?_
  · refine r_perm (lv' := [(0, p_rf g o0), (1, p_rf g o1), (2, .int i2), (3, .int i3)]) [0, 1, 2, 3] rfl ?_
    exact tX6_push_J184_48 hg C o0 o1 i2 i3 hr hk h
  · refine r_iinc (lv' := [(0, p_rf g o0), (1, p_rf g o1), (3, .int i3), (4, .int i4)]) C dX6_push_153 2 rfl k_im1 (by decide) (fun _ => rfl) (fun x1 => ?_)
    refine r_aload_n C dX6_push_156 1 rfl ?_
    refine r_gr C wf_X6_18_5 dX6_push_157 (fun q2 => ?_)
    refine r_iload_n C dX6_push_160 0 rfl ?_
    refine r_iconst C dX6_push_161 k_i1 ?_
    refine r_isub C dX6_push_162 ?_
    refine r_iload C dX6_push_163 4 rfl ?_
    refine r_ineg C dX6_push_165 ?_
    refine r_aload_n C dX6_push_166 1 rfl ?_
    refine r_gr C wf_X6_18_5 dX6_push_167 (fun q3 => ?_)
    refine r_iload_n C dX6_push_170 0 rfl ?_
    refine r_iconst C dX6_push_171 k_i1 ?_
    refine r_isub C dX6_push_172 ?_
    refine r_iald C dX6_push_173 (fun x4 => ?_)
    refine r_aload_n C dX6_push_174 1 rfl ?_
    refine r_gr C wf_X6_18_5 dX6_push_175 (fun q5 => ?_)
    refine r_iload_n C dX6_push_178 0 rfl ?_
    refine r_iald C dX6_push_179 (fun x6 => ?_)
    refine r_csi (As := [.int (-i4), .int x4, .int x6]) (st := [.int (x1 - (1 : Int32)), p_rf g q2]) C ws_X6_97 (tcX6_outcome K.2.1 g hg (-i4) x4 x6 h) (Nat.le_of_ble_eq_true rfl) rfl rfl (Nat.le_of_ble_eq_true rfl) dX6_push_180 ⟨Nat.le_of_ble_eq_true rfl, Nat.le_of_ble_eq_true rfl⟩ (fun x7 h8 => ?_)
    refine r_iast C dX6_push_183 (fun h9 => ?_)
    refine r_perm (lv' := [(0, p_rf g o0), (1, p_rf g o1), (2, .int x1), (3, .int i3)]) [1, 2, 0, 3] rfl ?_
    exact tX6_push_J184_48 hg C o0 o1 x1 i3 hr hk h9
set_option maxRecDepth 100000 in
set_option maxHeartbeats 4000000 in
theorem tX6_push_J116_48 {K : AC} {g : WG} (hg : p_al g = false)  (C : Cx K g cX6_push 6 RX6 (some .int) "push" 2 0 0) (o0 : Nat) (o1 : Nat) (i2 : Int32) (i3 : Int32) (i4 : Int32)    {rc : Int32 → Int32 → PH → Option (Int32 × PH)} {kx : PH → Option (Int32 × PH)} (hr : ∀ (i2' : Int32) (i3' : Int32) (h : PH), VX K g 6 0 0 (a_fin K g 0 0 em_i) 48 [(0, p_rf g o0), (1, p_rf g o1), (2, .int i2'), (3, .int i3')] [] h (rc i2' i3' h)) (hk : ∀  (h : PH), VX K g 6 0 0 (a_fin K g 0 0 em_i) 190 [(0, p_rf g o0)] [] h (kx  h)) (h : PH) : VX K g 6 0 0 (a_fin K g 0 0 em_i) 116 [(0, p_rf g o0), (1, p_rf g o1), (2, .int i2), (3, .int i3), (4, .int i4)] [] h (fX6_push_J116_48 rc kx o0 o1 i2 i3 i4 h) := by
  unfold fX6_push_J116_48
  refine r_iload C dX6_push_116 4 rfl ?_
  refine r_sipush C dX6_push_118 k_sm256 ?_
  refine r_icmp_ne (tgt := 148) C dX6_push_121 (by decide) ?_ ?_
  · exact tX6_push_J148_48 hg C o0 o1 i2 i3 i4 hr hk h
  · refine r_iload_n C dX6_push_124 2 rfl ?_
    refine r_if_le (tgt := 148) C dX6_push_125 (by decide) ?_ ?_
    · exact tX6_push_J148_48 hg C o0 o1 i2 i3 i4 hr hk h
    · refine r_aload_n C dX6_push_128 0 rfl ?_
      refine r_gr C wf_X6_18_5 dX6_push_129 (fun q1 => ?_)
      refine r_iload_n C dX6_push_132 2 rfl ?_
      refine r_iconst C dX6_push_133 k_i1 ?_
      refine r_isub C dX6_push_134 ?_
      refine r_aload_n C dX6_push_135 0 rfl ?_
      refine r_gr C wf_X6_18_5 dX6_push_136 (fun q2 => ?_)
      refine r_iload_n C dX6_push_139 2 rfl ?_
      refine r_iconst C dX6_push_140 k_i1 ?_
      refine r_isub C dX6_push_141 ?_
      refine r_iald C dX6_push_142 (fun x3 => ?_)
      refine r_ineg C dX6_push_143 ?_
      refine r_iast C dX6_push_144 (fun h4 => ?_)
      refine r_goto (tgt := 184) C dX6_push_145 (by decide) ?_
      refine r_perm (lv' := [(0, p_rf g o0), (1, p_rf g o1), (2, .int i2), (3, .int i3)]) [0, 1, 2, 3] rfl ?_
      exact tX6_push_J184_48 hg C o0 o1 i2 i3 hr hk h4
set_option maxRecDepth 100000 in
set_option maxHeartbeats 4000000 in
theorem tX6_push_J109_48 {K : AC} {g : WG} (hg : p_al g = false)  (C : Cx K g cX6_push 6 RX6 (some .int) "push" 2 0 0) (o0 : Nat) (o1 : Nat) (i2 : Int32) (i3 : Int32) (s0 : Int32) (s1 : Int32) (s2 : Nat)    {rc : Int32 → Int32 → PH → Option (Int32 × PH)} {kx : PH → Option (Int32 × PH)} (hr : ∀ (i2' : Int32) (i3' : Int32) (h : PH), VX K g 6 0 0 (a_fin K g 0 0 em_i) 48 [(0, p_rf g o0), (1, p_rf g o1), (2, .int i2'), (3, .int i3')] [] h (rc i2' i3' h)) (hk : ∀  (h : PH), VX K g 6 0 0 (a_fin K g 0 0 em_i) 190 [(0, p_rf g o0)] [] h (kx  h)) (h : PH) : VX K g 6 0 0 (a_fin K g 0 0 em_i) 109 [(0, p_rf g o0), (1, p_rf g o1), (2, .int i2), (3, .int i3)] [.int s0, .int s1, p_rf g s2] h (fX6_push_J109_48 rc kx o0 o1 i2 i3 s0 s1 s2 h) := by
  unfold fX6_push_J109_48
  refine r_iast C dX6_push_109 (fun h1 => ?_)
  refine r_iinc (lv' := [(0, p_rf g o0), (1, p_rf g o1), (3, .int i3)]) C dX6_push_110 2 rfl k_i1 (by decide) (fun _ => rfl) (fun x2 => ?_)
  refine r_goto (tgt := 184) C dX6_push_113 (by decide) ?_
  refine r_perm (lv' := [(0, p_rf g o0), (1, p_rf g o1), (2, .int x2), (3, .int i3)]) [1, 2, 0, 3] rfl ?_
  exact tX6_push_J184_48 hg C o0 o1 x2 i3 hr hk h1
set_option maxRecDepth 100000 in
set_option maxHeartbeats 4000000 in
theorem tX6_push_J107_48 {K : AC} {g : WG} (hg : p_al g = false)  (C : Cx K g cX6_push 6 RX6 (some .int) "push" 2 0 0) (o0 : Nat) (o1 : Nat) (i2 : Int32) (i3 : Int32) (i4 : Int32) (s0 : Int32) (s1 : Nat)    {rc : Int32 → Int32 → PH → Option (Int32 × PH)} {kx : PH → Option (Int32 × PH)} (hr : ∀ (i2' : Int32) (i3' : Int32) (h : PH), VX K g 6 0 0 (a_fin K g 0 0 em_i) 48 [(0, p_rf g o0), (1, p_rf g o1), (2, .int i2'), (3, .int i3')] [] h (rc i2' i3' h)) (hk : ∀  (h : PH), VX K g 6 0 0 (a_fin K g 0 0 em_i) 190 [(0, p_rf g o0)] [] h (kx  h)) (h : PH) : VX K g 6 0 0 (a_fin K g 0 0 em_i) 107 [(0, p_rf g o0), (1, p_rf g o1), (2, .int i2), (3, .int i3), (4, .int i4)] [.int s0, p_rf g s1] h (fX6_push_J107_48 rc kx o0 o1 i2 i3 i4 s0 s1 h) := by
  unfold fX6_push_J107_48
  refine r_iload C dX6_push_107 4 rfl ?_
  refine r_perm (lv' := [(0, p_rf g o0), (1, p_rf g o1), (2, .int i2), (3, .int i3)]) [0, 1, 2, 3] rfl ?_
  exact tX6_push_J109_48 hg C o0 o1 i2 i3 i4 s0 s1 hr hk h
set_option maxRecDepth 100000 in
set_option maxHeartbeats 4000000 in
theorem tX6_push_L48 {K : AC} {g : WG} (hg : p_al g = false)  (C : Cx K g cX6_push 6 RX6 (some .int) "push" 2 0 0) (o0 : Nat) (o1 : Nat) {kx : PH → Option (Int32 × PH)} (hk : ∀  (h : PH), VX K g 6 0 0 (a_fin K g 0 0 em_i) 190 [(0, p_rf g o0)] [] h (kx h)) : ∀ (n : Nat) (i2 : Int32) (i3 : Int32) (h : PH), VX K g 6 0 0 (a_fin K g 0 0 em_i) 48 [(0, p_rf g o0), (1, p_rf g o1), (2, .int i2), (3, .int i3)] [] h (fX6_push_L48 o0 o1 kx n i2 i3 h) := by
  intro n
  induction n with
  | zero =>
    intros
    exact r_none
  | succ n ih =>
    intro i2 i3 h
    rw [fX6_push_L48]
    refine r_iload_n C dX6_push_48 3 rfl ?_
    refine r_aload_n C dX6_push_49 0 rfl ?_
    refine r_gi C wf_X6_27_5 dX6_push_50 (fun x1 => ?_)
    refine r_icmp_ge (tgt := 190) C dX6_push_53 (by decide) ?_ ?_
    · refine r_perm (lv' := [(0, p_rf g o0)]) [0] rfl ?_
      exact hk h
    · refine r_aload_n C dX6_push_56 0 rfl ?_
      refine r_gr C wf_X6_11_5 dX6_push_57 (fun q2 => ?_)
      refine r_iload_n C dX6_push_60 3 rfl ?_
      refine r_iald C dX6_push_61 (fun x3 => ?_)
      refine r_istore (lv9 := [(4, .int x3), (0, p_rf g o0), (1, p_rf g o1), (2, .int i2), (3, .int i3)]) C dX6_push_62 (by decide) rfl ?_
      refine r_iload C dX6_push_64 0 rfl ?_
      refine r_if_lt (tgt := 116) C dX6_push_66 (by decide) ?_ ?_
      · refine r_perm (lv' := [(0, p_rf g o0), (1, p_rf g o1), (2, .int i2), (3, .int i3), (4, .int x3)]) [1, 2, 3, 4, 0] rfl ?_
        exact tX6_push_J116_48 hg C o0 o1 i2 i3 x3 ih hk h
      · refine r_iload_n C dX6_push_69 3 rfl ?_
        refine r_bipush C dX6_push_70 k_b40 ?_
        refine r_icmp_ge (tgt := 116) C dX6_push_72 (by decide) ?_ ?_
        · refine r_perm (lv' := [(0, p_rf g o0), (1, p_rf g o1), (2, .int i2), (3, .int i3), (4, .int x3)]) [1, 2, 3, 4, 0] rfl ?_
          exact tX6_push_J116_48 hg C o0 o1 i2 i3 x3 ih hk h
        · refine r_iload C dX6_push_75 0 rfl ?_
          refine r_sipush C dX6_push_77 k_s1000 ?_
          refine r_isub C dX6_push_80 ?_
          refine r_topi (fun x4 => ?_)
          refine r_istore (lv9 := [(5, .int x4), (4, .int x3), (0, p_rf g o0), (1, p_rf g o1), (2, .int i2), (3, .int i3)]) C dX6_push_81 (by decide) rfl ?_
          refine r_aload_n C dX6_push_83 2 rfl ?_
          refine r_gr C wf_X6_18_5 dX6_push_84 (fun q5 => ?_)
          refine r_iload_n C dX6_push_87 4 rfl ?_
          refine r_iload C dX6_push_88 0 rfl ?_
          refine r_if_lt (tgt := 107) C dX6_push_90 (by decide) ?_ ?_
          · refine r_perm (lv' := [(0, p_rf g o0), (1, p_rf g o1), (2, .int i2), (3, .int i3), (4, .int x3)]) [2, 3, 4, 5, 1] rfl ?_
            exact tX6_push_J107_48 hg C o0 o1 i2 i3 x3 i2 q5 ih hk h
          · refine r_iload C dX6_push_93 0 rfl ?_
            refine r_bipush C dX6_push_95 k_b7 ?_
            refine r_icmp_ge (tgt := 107) C dX6_push_97 (by decide) ?_ ?_
            · refine r_perm (lv' := [(0, p_rf g o0), (1, p_rf g o1), (2, .int i2), (3, .int i3), (4, .int x3)]) [2, 3, 4, 5, 1] rfl ?_
              exact tX6_push_J107_48 hg C o0 o1 i2 i3 x3 i2 q5 ih hk h
            · refine r_aload_n C dX6_push_100 3 rfl ?_
              refine r_iload C dX6_push_101 0 rfl ?_
              refine r_iald C dX6_push_103 (fun x6 => ?_)
              refine r_goto (tgt := 109) C dX6_push_104 (by decide) ?_
              refine r_perm (lv' := [(0, p_rf g o0), (1, p_rf g o1), (2, .int i2), (3, .int i3)]) [2, 3, 4, 5] rfl ?_
              exact tX6_push_J109_48 hg C o0 o1 i2 i3 x6 i2 q5 ih hk h
set_option maxRecDepth 100000 in
set_option maxHeartbeats 4000000 in
theorem tcX6_push (l : Launch) (g : WG) (hg : p_al g = false) (o0 : Nat) (o1 : Nat) (h : PH) : CT l g 2 0 0 yX6_push cX6_push 6 (some .int) em_i [p_rf g o0, p_rf g o1] h (fX6_push o0 o1 h) := by
  refine CT_of (own := RX6) (nm := "push") (by decide +kernel) (Nat.le_of_ble_eq_true rfl) rfl rfl rfl ⟨rfl, rfl⟩ (fun K hK C => ?_)
  subst hK
  unfold fX6_push
  show VX K g _ _ _ _ _ [(0, p_rf g o0), (1, p_rf g o1)] _ _ _
  refine r_aload_n C dX6_push_0 1 rfl ?_
  refine r_alen (ty := .int) (t0 := 0) C rfl dX6_push_1 (fun x1 => ?_)
  refine r_bipush C dX6_push_2 k_b7 ?_
  refine r_icmp_ge (tgt := 9) C dX6_push_4 (by decide) ?_ ?_
  · refine r_aload_n C dX6_push_9 0 rfl ?_
    refine r_gi C wf_X6_27_5 dX6_push_10 (fun x2 => ?_)
    refine r_if_ne (tgt := 44) C dX6_push_13 (by decide) ?_ ?_
    · refine r_iconst C dX6_push_44 k_i0 ?_
      refine r_istore_n (lv9 := [(2, .int (0 : Int32)), (0, p_rf g o0), (1, p_rf g o1)]) C dX6_push_45 (by decide) rfl ?_
      refine r_iconst C dX6_push_46 k_i0 ?_
      refine r_istore_n (lv9 := [(3, .int (0 : Int32)), (2, .int (0 : Int32)), (0, p_rf g o0), (1, p_rf g o1)]) C dX6_push_47 (by decide) rfl ?_
      refine r_perm (lv' := [(0, p_rf g o0), (1, p_rf g o1), (2, .int (0 : Int32)), (3, .int (0 : Int32))]) [2, 3, 1, 0] rfl ?_
      refine tX6_push_L48 hg C o0 o1 (fun h3 => ?_) FU (0 : Int32) (0 : Int32) h
      refine r_aload_n C dX6_push_190 0 rfl ?_
      refine r_gr C wf_X6_18_5 dX6_push_191 (fun q4 => ?_)
      refine r_iconst C dX6_push_194 k_i0 ?_
      refine r_iald C dX6_push_195 (fun x5 => ?_)
      refine r_bipush C dX6_push_196 k_bm99 ?_
      refine r_bipush C dX6_push_198 k_b99 ?_
      refine r_cni (As := [.int x5, .int (-99 : Int32), .int (99 : Int32)]) (st := []) C wn_X6_101 (tcX11_clamp K.2.1 g hg x5 (-99 : Int32) (99 : Int32) h3) (Nat.le_of_ble_eq_true rfl) rfl rfl (Nat.le_of_ble_eq_true rfl) dX6_push_200 ⟨Nat.le_of_ble_eq_true rfl, Nat.le_of_ble_eq_true rfl⟩ (fun x6 h7 => ?_)
      exact r_iret C dX6_push_203
    · refine r_aload_n C dX6_push_16 1 rfl ?_
      refine r_iconst C dX6_push_17 k_i1 ?_
      refine r_iald C dX6_push_18 (fun x8 => ?_)
      refine r_aload_n C dX6_push_19 1 rfl ?_
      refine r_iconst C dX6_push_20 k_i0 ?_
      refine r_iald C dX6_push_21 (fun x9 => ?_)
      refine r_icmp_le (tgt := 29) C dX6_push_22 (by decide) ?_ ?_
      · refine r_aload_n C dX6_push_29 1 rfl ?_
        refine r_iconst C dX6_push_30 k_i1 ?_
        refine r_iald C dX6_push_31 (fun x10 => ?_)
        refine r_aload_n C dX6_push_32 1 rfl ?_
        refine r_iconst C dX6_push_33 k_i0 ?_
        refine r_iald C dX6_push_34 (fun x11 => ?_)
        refine r_icmp_ge (tgt := 42) C dX6_push_35 (by decide) ?_ ?_
        · refine r_iconst C dX6_push_42 k_i0 ?_
          exact r_iret C dX6_push_43
        · refine r_iconst C dX6_push_38 k_im1 ?_
          refine r_goto (tgt := 43) C dX6_push_39 (by decide) ?_
          exact r_iret C dX6_push_43
      · refine r_iconst C dX6_push_25 k_i1 ?_
        refine r_goto (tgt := 43) C dX6_push_26 (by decide) ?_
        exact r_iret C dX6_push_43
  · refine r_iconst C dX6_push_7 k_i0 ?_
    exact r_iret C dX6_push_8
set_option maxRecDepth 100000 in
set_option maxHeartbeats 4000000 in
theorem tX8_pushBy_J92_29 {K : AC} {g : WG} (hg : p_al g = false)  (C : Cx K g cX8_pushBy 6 RX8 none "pushBy" 3 0 0) (o0 : Nat) (i1 : Int32) (i2 : Int32) (o3 : Nat) (i4 : Int32)    {rc : Int32 → PH → Option (Unit × PH)} {kx : PH → Option (Unit × PH)} (hr : ∀ (i4' : Int32) (h : PH), VX K g 6 0 0 (a_fin K g 0 0 em_v) 29 [(0, p_rf g o0), (1, .int i1), (2, .int i2), (3, p_rf g o3), (4, .int i4')] [] h (rc i4' h)) (hk : ∀  (h : PH), VX K g 6 0 0 (a_fin K g 0 0 em_v) 98 [] [] h (kx  h)) (h : PH) : VX K g 6 0 0 (a_fin K g 0 0 em_v) 92 [(0, p_rf g o0), (1, .int i1), (2, .int i2), (3, p_rf g o3), (4, .int i4)] [] h (fX8_pushBy_J92_29 rc kx o0 i1 i2 o3 i4 h) := by
  unfold fX8_pushBy_J92_29
  refine r_iinc (lv' := [(0, p_rf g o0), (1, .int i1), (2, .int i2), (3, p_rf g o3)]) C dX8_pushBy_92 4 rfl k_i1 (by decide) (fun _ => rfl) (fun x1 => ?_)
  refine r_goto (tgt := 29) C dX8_pushBy_95 (by decide) ?_
  refine r_perm (lv' := [(0, p_rf g o0), (1, .int i1), (2, .int i2), (3, p_rf g o3), (4, .int x1)]) [1, 2, 3, 4, 0] rfl ?_
  exact hr x1 h
set_option maxRecDepth 100000 in
set_option maxHeartbeats 4000000 in
theorem tX8_pushBy_L29 {K : AC} {g : WG} (hg : p_al g = false)  (C : Cx K g cX8_pushBy 6 RX8 none "pushBy" 3 0 0) (o0 : Nat) (i1 : Int32) (i2 : Int32) (o3 : Nat) {kx : PH → Option (Unit × PH)} (hk : ∀  (h : PH), VX K g 6 0 0 (a_fin K g 0 0 em_v) 98 [] [] h (kx h)) : ∀ (n : Nat) (i4 : Int32) (h : PH), VX K g 6 0 0 (a_fin K g 0 0 em_v) 29 [(0, p_rf g o0), (1, .int i1), (2, .int i2), (3, p_rf g o3), (4, .int i4)] [] h (fX8_pushBy_L29 o0 i1 i2 o3 kx n i4 h) := by
  intro n
  induction n with
  | zero =>
    intros
    exact r_none
  | succ n ih =>
    intro i4 h
    rw [fX8_pushBy_L29]
    refine r_iload C dX8_pushBy_29 4 rfl ?_
    refine r_iconst C dX8_pushBy_31 k_i4 ?_
    refine r_icmp_ge (tgt := 98) C dX8_pushBy_32 (by decide) ?_ ?_
    · refine r_perm (lv' := []) [] rfl ?_
      exact hk h
    · refine r_aload_n C dX8_pushBy_35 0 rfl ?_
      refine r_gr C wf_X8_23_7 dX8_pushBy_36 (fun q1 => ?_)
      refine r_iload_n C dX8_pushBy_39 2 rfl ?_
      refine r_iload C dX8_pushBy_40 4 rfl ?_
      refine r_cvi (As := [.int i2, .int i4]) (st := []) C wv_X8_143 (tcX0_pullOf K.2.1 g hg q1 i2 i4 h) (Nat.le_of_ble_eq_true rfl) rfl rfl (Nat.le_of_ble_eq_true rfl) dX8_pushBy_42 ⟨Nat.le_of_ble_eq_true rfl, Nat.le_of_ble_eq_true rfl⟩ (fun x2 h3 => ?_)
      refine r_istore (lv9 := [(5, .int x2), (0, p_rf g o0), (1, .int i1), (2, .int i2), (3, p_rf g o3), (4, .int i4)]) C dX8_pushBy_45 (by decide) rfl ?_
      refine r_iload C dX8_pushBy_47 0 rfl ?_
      refine r_iconst C dX8_pushBy_49 k_im1 ?_
      refine r_icmp_eq (tgt := 92) C dX8_pushBy_50 (by decide) ?_ ?_
      · refine r_perm (lv' := [(0, p_rf g o0), (1, .int i1), (2, .int i2), (3, p_rf g o3), (4, .int i4)]) [1, 2, 3, 4, 5] rfl ?_
        exact tX8_pushBy_J92_29 hg C o0 i1 i2 o3 i4 ih hk h3
      · refine r_aload_n C dX8_pushBy_53 1 rfl ?_
        refine r_gr C wf_X8_17_7 dX8_pushBy_54 (fun q4 => ?_)
        refine r_iconst C dX8_pushBy_57 k_i1 ?_
        refine r_iload C dX8_pushBy_58 0 rfl ?_
        refine r_iast C dX8_pushBy_60 (fun h5 => ?_)
        refine r_aload_n C dX8_pushBy_61 1 rfl ?_
        refine r_gr C wf_X8_17_7 dX8_pushBy_62 (fun q6 => ?_)
        refine r_iconst C dX8_pushBy_65 k_i0 ?_
        refine r_aload_n C dX8_pushBy_66 1 rfl ?_
        refine r_iload_n C dX8_pushBy_67 2 rfl ?_
        refine r_iload C dX8_pushBy_68 5 rfl ?_
        refine r_cvi (As := [.int i1, .int i4]) (st := [.int (0 : Int32), p_rf g q6]) C wv_X8_71 (tcX8_humourOf K.2.1 g hg o0 i1 i4 h5) (Nat.le_of_ble_eq_true rfl) rfl rfl (Nat.le_of_ble_eq_true rfl) dX8_pushBy_70 ⟨Nat.le_of_ble_eq_true rfl, Nat.le_of_ble_eq_true rfl⟩ (fun x7 h8 => ?_)
        refine r_iast C dX8_pushBy_73 (fun h9 => ?_)
        refine r_aload_n C dX8_pushBy_74 1 rfl ?_
        refine r_gr C wf_X8_20_7 dX8_pushBy_75 (fun q10 => ?_)
        refine r_iload C dX8_pushBy_78 5 rfl ?_
        refine r_dup2 C dX8_pushBy_80 rfl rfl ?_
        refine r_iald C dX8_pushBy_81 (fun x11 => ?_)
        refine r_aload_n C dX8_pushBy_82 4 rfl ?_
        refine r_aload_n C dX8_pushBy_83 1 rfl ?_
        refine r_gr C wf_X8_17_7 dX8_pushBy_84 (fun q12 => ?_)
        refine r_cvi (As := [p_rf g q12]) (st := [.int x11, .int i4, p_rf g q10]) C wv_X8_146 (tcX6_push K.2.1 g hg o3 q12 h9) (Nat.le_of_ble_eq_true rfl) rfl rfl (Nat.le_of_ble_eq_true rfl) dX8_pushBy_87 ⟨Nat.le_of_ble_eq_true rfl, Nat.le_of_ble_eq_true rfl⟩ (fun x13 h14 => ?_)
        refine r_iadd C dX8_pushBy_90 ?_
        refine r_iast C dX8_pushBy_91 (fun h15 => ?_)
        refine r_perm (lv' := [(0, p_rf g o0), (1, .int i1), (2, .int i2), (3, p_rf g o3), (4, .int i4)]) [1, 2, 3, 4, 5] rfl ?_
        exact tX8_pushBy_J92_29 hg C o0 i1 i2 o3 i4 ih hk h15
set_option maxRecDepth 100000 in
set_option maxHeartbeats 4000000 in
theorem tcX8_pushBy (l : Launch) (g : WG) (hg : p_al g = false) (o0 : Nat) (i1 : Int32) (i2 : Int32) (o3 : Nat) (h : PH) : CT l g 3 0 0 yX8_pushBy cX8_pushBy 6 none em_v [p_rf g o0, .int i1, .int i2, p_rf g o3] h (fX8_pushBy o0 i1 i2 o3 h) := by
  refine CT_of (own := RX8) (nm := "pushBy") (by decide +kernel) (Nat.le_of_ble_eq_true rfl) rfl rfl rfl ⟨rfl, rfl⟩ (fun K hK C => ?_)
  subst hK
  unfold fX8_pushBy
  show VX K g _ _ _ _ _ [(0, p_rf g o0), (1, .int i1), (2, .int i2), (3, p_rf g o3)] _ _ _
  refine r_aload_n C dX8_pushBy_0 0 rfl ?_
  refine r_gr C wf_X8_17_7 dX8_pushBy_1 (fun q1 => ?_)
  refine r_iconst C dX8_pushBy_4 k_i2 ?_
  refine r_aload_n C dX8_pushBy_5 0 rfl ?_
  refine r_gr C wf_X8_23_7 dX8_pushBy_6 (fun q2 => ?_)
  refine r_iload_n C dX8_pushBy_9 2 rfl ?_
  refine r_cvi (As := [.int i2]) (st := [.int (2 : Int32), p_rf g q1]) C wv_X8_140 (tcX0_gradeOf K.2.1 g hg q2 i2 h) (Nat.le_of_ble_eq_true rfl) rfl rfl (Nat.le_of_ble_eq_true rfl) dX8_pushBy_10 ⟨Nat.le_of_ble_eq_true rfl, Nat.le_of_ble_eq_true rfl⟩ (fun x3 h4 => ?_)
  refine r_iast C dX8_pushBy_13 (fun h5 => ?_)
  refine r_aload_n C dX8_pushBy_14 0 rfl ?_
  refine r_gr C wf_X8_17_7 dX8_pushBy_15 (fun q6 => ?_)
  refine r_iconst C dX8_pushBy_18 k_i4 ?_
  refine r_aload_n C dX8_pushBy_19 0 rfl ?_
  refine r_iload_n C dX8_pushBy_20 1 rfl ?_
  refine r_iload_n C dX8_pushBy_21 2 rfl ?_
  refine r_cvi (As := [.int i1, .int i2]) (st := [.int (4 : Int32), p_rf g q6]) C wv_X8_37 (tcX8_daysHeld K.2.1 g hg o0 i1 i2 h5) (Nat.le_of_ble_eq_true rfl) rfl rfl (Nat.le_of_ble_eq_true rfl) dX8_pushBy_22 ⟨Nat.le_of_ble_eq_true rfl, Nat.le_of_ble_eq_true rfl⟩ (fun x7 h8 => ?_)
  refine r_iast C dX8_pushBy_25 (fun h9 => ?_)
  refine r_iconst C dX8_pushBy_26 k_i0 ?_
  refine r_istore (lv9 := [(4, .int (0 : Int32)), (0, p_rf g o0), (1, .int i1), (2, .int i2), (3, p_rf g o3)]) C dX8_pushBy_27 (by decide) rfl ?_
  refine r_perm (lv' := [(0, p_rf g o0), (1, .int i1), (2, .int i2), (3, p_rf g o3), (4, .int (0 : Int32))]) [1, 2, 3, 4, 0] rfl ?_
  refine tX8_pushBy_L29 hg C o0 i1 i2 o3 (fun h10 => ?_) FU (0 : Int32) h9
  exact r_vret C dX8_pushBy_98
set_option maxRecDepth 100000 in
set_option maxHeartbeats 4000000 in
theorem tcX8_putHumour (l : Launch) (g : WG) (hg : p_al g = false) (o0 : Nat) (i1 : Int32) (i2 : Int32) (i3 : Int32) (h : PH) : CT l g 1 0 0 yX8_putHumour cX8_putHumour 4 none em_v [p_rf g o0, .int i1, .int i2, .int i3] h (fX8_putHumour o0 i1 i2 i3 h) := by
  refine CT_of (own := RX8) (nm := "putHumour") (by decide +kernel) (Nat.le_of_ble_eq_true rfl) rfl rfl rfl ⟨rfl, rfl⟩ (fun K hK C => ?_)
  subst hK
  unfold fX8_putHumour
  show VX K g _ _ _ _ _ [(0, p_rf g o0), (1, .int i1), (2, .int i2), (3, .int i3)] _ _ _
  refine r_iload_n C dX8_putHumour_0 1 rfl ?_
  refine r_if_lt (tgt := 33) C dX8_putHumour_1 (by decide) ?_ ?_
  · exact r_vret C dX8_putHumour_33
  · refine r_iload_n C dX8_putHumour_4 1 rfl ?_
    refine r_bipush C dX8_putHumour_5 k_b6 ?_
    refine r_icmp_ge (tgt := 33) C dX8_putHumour_7 (by decide) ?_ ?_
    · exact r_vret C dX8_putHumour_33
    · refine r_iload_n C dX8_putHumour_10 2 rfl ?_
      refine r_if_lt (tgt := 33) C dX8_putHumour_11 (by decide) ?_ ?_
      · exact r_vret C dX8_putHumour_33
      · refine r_iload_n C dX8_putHumour_14 2 rfl ?_
        refine r_iconst C dX8_putHumour_15 k_i4 ?_
        refine r_icmp_ge (tgt := 33) C dX8_putHumour_16 (by decide) ?_ ?_
        · exact r_vret C dX8_putHumour_33
        · refine r_aload_n C dX8_putHumour_19 0 rfl ?_
          refine r_gr C wf_X8_11_7 dX8_putHumour_20 (fun q1 => ?_)
          refine r_bipush C dX8_putHumour_23 k_b8 ?_
          refine r_iload_n C dX8_putHumour_25 1 rfl ?_
          refine r_iconst C dX8_putHumour_26 k_i4 ?_
          refine r_imul C dX8_putHumour_27 ?_
          refine r_iadd C dX8_putHumour_28 ?_
          refine r_iload_n C dX8_putHumour_29 2 rfl ?_
          refine r_iadd C dX8_putHumour_30 ?_
          refine r_iload_n C dX8_putHumour_31 3 rfl ?_
          refine r_iast C dX8_putHumour_32 (fun h2 => ?_)
          exact r_vret C dX8_putHumour_33
set_option maxRecDepth 100000 in
set_option maxHeartbeats 4000000 in
theorem tX8_live_J113_63 {K : AC} {g : WG} (hg : p_al g = false)  (C : Cx K g cX8_live 5 RX8 none "live" 4 0 0) (o0 : Nat) (i1 : Int32) (o2 : Nat) (i3 : Int32) (i4 : Int32)    {rc : Int32 → PH → Option (Unit × PH)} {kx : PH → Option (Unit × PH)} (hr : ∀ (i4' : Int32) (h : PH), VX K g 5 0 0 (a_fin K g 0 0 em_v) 63 [(0, p_rf g o0), (1, .int i1), (2, p_rf g o2), (3, .int i3), (4, .int i4')] [] h (rc i4' h)) (hk : ∀  (h : PH), VX K g 5 0 0 (a_fin K g 0 0 em_v) 119 [(0, p_rf g o0), (1, .int i1)] [] h (kx  h)) (h : PH) : VX K g 5 0 0 (a_fin K g 0 0 em_v) 113 [(0, p_rf g o0), (1, .int i1), (2, p_rf g o2), (3, .int i3), (4, .int i4)] [] h (fX8_live_J113_63 rc kx o0 i1 o2 i3 i4 h) := by
  unfold fX8_live_J113_63
  refine r_iinc (lv' := [(0, p_rf g o0), (1, .int i1), (2, p_rf g o2), (3, .int i3)]) C dX8_live_113 4 rfl k_i1 (by decide) (fun _ => rfl) (fun x1 => ?_)
  refine r_goto (tgt := 63) C dX8_live_116 (by decide) ?_
  refine r_perm (lv' := [(0, p_rf g o0), (1, .int i1), (2, p_rf g o2), (3, .int i3), (4, .int x1)]) [1, 2, 3, 4, 0] rfl ?_
  exact hr x1 h
set_option maxRecDepth 100000 in
set_option maxHeartbeats 4000000 in
theorem tX8_live_L63 {K : AC} {g : WG} (hg : p_al g = false)  (C : Cx K g cX8_live 5 RX8 none "live" 4 0 0) (o0 : Nat) (i1 : Int32) (o2 : Nat) (i3 : Int32) {kx : PH → Option (Unit × PH)} (hk : ∀  (h : PH), VX K g 5 0 0 (a_fin K g 0 0 em_v) 119 [(0, p_rf g o0), (1, .int i1)] [] h (kx h)) : ∀ (n : Nat) (i4 : Int32) (h : PH), VX K g 5 0 0 (a_fin K g 0 0 em_v) 63 [(0, p_rf g o0), (1, .int i1), (2, p_rf g o2), (3, .int i3), (4, .int i4)] [] h (fX8_live_L63 o0 i1 o2 i3 kx n i4 h) := by
  intro n
  induction n with
  | zero =>
    intros
    exact r_none
  | succ n ih =>
    intro i4 h
    rw [fX8_live_L63]
    refine r_iload C dX8_live_63 4 rfl ?_
    refine r_aload_n C dX8_live_65 0 rfl ?_
    refine r_gr C wf_X8_23_7 dX8_live_66 (fun q1 => ?_)
    refine r_cvi (As := []) (st := [.int i4]) C wv_X8_45 (tcX0_groundSize K.2.1 g hg q1 h) (Nat.le_of_ble_eq_true rfl) rfl rfl (Nat.le_of_ble_eq_true rfl) dX8_live_69 ⟨Nat.le_of_ble_eq_true rfl, Nat.le_of_ble_eq_true rfl⟩ (fun x2 h3 => ?_)
    refine r_icmp_ge (tgt := 119) C dX8_live_72 (by decide) ?_ ?_
    · refine r_perm (lv' := [(0, p_rf g o0), (1, .int i1)]) [0, 1] rfl ?_
      exact hk h3
    · refine r_iload C dX8_live_75 4 rfl ?_
      refine r_iload_n C dX8_live_77 3 rfl ?_
      refine r_cni (As := [.int i4, .int i3]) (st := []) C wn_X8_128 (tcX11_isIn K.2.1 g hg i4 i3 h3) (Nat.le_of_ble_eq_true rfl) rfl rfl (Nat.le_of_ble_eq_true rfl) dX8_live_78 ⟨Nat.le_of_ble_eq_true rfl, Nat.le_of_ble_eq_true rfl⟩ (fun x4 h5 => ?_)
      refine r_if_eq (tgt := 113) C dX8_live_81 (by decide) ?_ ?_
      · exact tX8_live_J113_63 hg C o0 i1 o2 i3 i4 ih hk h5
      · refine r_aload_n C dX8_live_84 0 rfl ?_
        refine r_iload_n C dX8_live_85 1 rfl ?_
        refine r_iload C dX8_live_86 4 rfl ?_
        refine r_aload_n C dX8_live_88 2 rfl ?_
        refine r_cvv (As := [.int i1, .int i4, p_rf g o2]) (st := []) C wv_X8_131 (tcX8_pushBy K.2.1 g hg o0 i1 i4 o2 h5) (Nat.le_of_ble_eq_true rfl) rfl rfl (Nat.le_of_ble_eq_true rfl) dX8_live_89 ⟨Nat.le_of_ble_eq_true rfl, Nat.le_of_ble_eq_true rfl⟩ (fun h6 => ?_)
        refine r_aload_n C dX8_live_92 0 rfl ?_
        refine r_iload_n C dX8_live_93 1 rfl ?_
        refine r_iload C dX8_live_94 4 rfl ?_
        refine r_bipush C dX8_live_96 k_b99 ?_
        refine r_aload_n C dX8_live_98 0 rfl ?_
        refine r_iload_n C dX8_live_99 1 rfl ?_
        refine r_iload C dX8_live_100 4 rfl ?_
        refine r_cvi (As := [.int i1, .int i4]) (st := [.int (99 : Int32), .int i4, .int i1, p_rf g o0]) C wv_X8_37 (tcX8_daysHeld K.2.1 g hg o0 i1 i4 h6) (Nat.le_of_ble_eq_true rfl) rfl rfl (Nat.le_of_ble_eq_true rfl) dX8_live_102 ⟨Nat.le_of_ble_eq_true rfl, Nat.le_of_ble_eq_true rfl⟩ (fun x7 h8 => ?_)
        refine r_iconst C dX8_live_105 k_i1 ?_
        refine r_iadd C dX8_live_106 ?_
        refine r_topi (fun x9 => ?_)
        refine r_min C wm_X8_103 (Nat.le_of_ble_eq_true rfl) (Nat.le_of_ble_eq_true rfl) ⟨Nat.le_of_ble_eq_true rfl, Nat.le_of_ble_eq_true rfl⟩ dX8_live_107 ?_
        refine r_cvv (As := [.int i1, .int i4, .int (if x9 < (99 : Int32) then x9 else (99 : Int32))]) (st := []) C wv_X8_41 (tcX8_putDaysHeld K.2.1 g hg o0 i1 i4 (if x9 < (99 : Int32) then x9 else (99 : Int32)) h8) (Nat.le_of_ble_eq_true rfl) rfl rfl (Nat.le_of_ble_eq_true rfl) dX8_live_110 ⟨Nat.le_of_ble_eq_true rfl, Nat.le_of_ble_eq_true rfl⟩ (fun h10 => ?_)
        exact tX8_live_J113_63 hg C o0 i1 o2 i3 i4 ih hk h10
set_option maxRecDepth 100000 in
set_option maxHeartbeats 4000000 in
theorem tX8_live_L122 {K : AC} {g : WG} (hg : p_al g = false)  (C : Cx K g cX8_live 5 RX8 none "live" 4 0 0) (o0 : Nat) (i1 : Int32) {kx : PH → Option (Unit × PH)} (hk : ∀  (h : PH), VX K g 5 0 0 (a_fin K g 0 0 em_v) 162 [] [] h (kx h)) : ∀ (n : Nat) (i4 : Int32) (h : PH), VX K g 5 0 0 (a_fin K g 0 0 em_v) 122 [(0, p_rf g o0), (1, .int i1), (4, .int i4)] [] h (fX8_live_L122 o0 i1 kx n i4 h) := by
  intro n
  induction n with
  | zero =>
    intros
    exact r_none
  | succ n ih =>
    intro i4 h
    rw [fX8_live_L122]
    refine r_iload C dX8_live_122 2 rfl ?_
    refine r_iconst C dX8_live_124 k_i4 ?_
    refine r_icmp_ge (tgt := 162) C dX8_live_125 (by decide) ?_ ?_
    · refine r_perm (lv' := []) [] rfl ?_
      exact hk h
    · refine r_aload_n C dX8_live_128 0 rfl ?_
      refine r_iload_n C dX8_live_129 1 rfl ?_
      refine r_iload C dX8_live_130 2 rfl ?_
      refine r_aload_n C dX8_live_132 0 rfl ?_
      refine r_iload_n C dX8_live_133 1 rfl ?_
      refine r_iload C dX8_live_134 2 rfl ?_
      refine r_cvi (As := [.int i1, .int i4]) (st := [.int i4, .int i1, p_rf g o0]) C wv_X8_71 (tcX8_humourOf K.2.1 g hg o0 i1 i4 h) (Nat.le_of_ble_eq_true rfl) rfl rfl (Nat.le_of_ble_eq_true rfl) dX8_live_136 ⟨Nat.le_of_ble_eq_true rfl, Nat.le_of_ble_eq_true rfl⟩ (fun x1 h2 => ?_)
      refine r_aload_n C dX8_live_139 0 rfl ?_
      refine r_gr C wf_X8_20_7 dX8_live_140 (fun q3 => ?_)
      refine r_iload C dX8_live_143 2 rfl ?_
      refine r_iald C dX8_live_145 (fun x4 => ?_)
      refine r_iadd C dX8_live_146 ?_
      refine r_iconst C dX8_live_147 k_i0 ?_
      refine r_bipush C dX8_live_148 k_b9 ?_
      refine r_cni (As := [.int (x1 + x4), .int (0 : Int32), .int (9 : Int32)]) (st := [.int i4, .int i1, p_rf g o0]) C wn_X8_134 (tcX11_clamp K.2.1 g hg (x1 + x4) (0 : Int32) (9 : Int32) h2) (Nat.le_of_ble_eq_true rfl) rfl rfl (Nat.le_of_ble_eq_true rfl) dX8_live_150 ⟨Nat.le_of_ble_eq_true rfl, Nat.le_of_ble_eq_true rfl⟩ (fun x5 h6 => ?_)
      refine r_cvv (As := [.int i1, .int i4, .int x5]) (st := []) C wv_X8_137 (tcX8_putHumour K.2.1 g hg o0 i1 i4 x5 h6) (Nat.le_of_ble_eq_true rfl) rfl rfl (Nat.le_of_ble_eq_true rfl) dX8_live_153 ⟨Nat.le_of_ble_eq_true rfl, Nat.le_of_ble_eq_true rfl⟩ (fun h7 => ?_)
      refine r_iinc (lv' := [(0, p_rf g o0), (1, .int i1)]) C dX8_live_156 2 rfl k_i1 (by decide) (fun _ => rfl) (fun x8 => ?_)
      refine r_goto (tgt := 122) C dX8_live_159 (by decide) ?_
      refine r_perm (lv' := [(0, p_rf g o0), (1, .int i1), (4, .int x8)]) [1, 2, 0] rfl ?_
      exact ih x8 h7
set_option maxRecDepth 100000 in
set_option maxHeartbeats 4000000 in
theorem tcX8_live (l : Launch) (g : WG) (hg : p_al g = false) (o0 : Nat) (i1 : Int32) (o2 : Nat) (h : PH) : CT l g 4 0 0 yX8_live cX8_live 5 none em_v [p_rf g o0, .int i1, p_rf g o2] h (fX8_live o0 i1 o2 h) := by
  refine CT_of (own := RX8) (nm := "live") (by decide +kernel) (Nat.le_of_ble_eq_true rfl) rfl rfl rfl ⟨rfl, rfl⟩ (fun K hK C => ?_)
  subst hK
  unfold fX8_live
  show VX K g _ _ _ _ _ [(0, p_rf g o0), (1, .int i1), (2, p_rf g o2)] _ _ _
  refine r_aload_n C dX8_live_0 0 rfl ?_
  refine r_iload_n C dX8_live_1 1 rfl ?_
  refine r_cvi (As := [.int i1]) (st := []) C wv_X8_81 (tcX8_groundsOf K.2.1 g hg o0 i1 h) (Nat.le_of_ble_eq_true rfl) rfl rfl (Nat.le_of_ble_eq_true rfl) dX8_live_2 ⟨Nat.le_of_ble_eq_true rfl, Nat.le_of_ble_eq_true rfl⟩ (fun x1 h2 => ?_)
  refine r_istore_n (lv9 := [(3, .int x1), (0, p_rf g o0), (1, .int i1), (2, p_rf g o2)]) C dX8_live_5 (by decide) rfl ?_
  refine r_iload_n C dX8_live_6 0 rfl ?_
  refine r_if_ne (tgt := 11) C dX8_live_7 (by decide) ?_ ?_
  · refine r_aload_n C dX8_live_11 1 rfl ?_
    refine r_gr C wf_X8_17_7 dX8_live_12 (fun q3 => ?_)
    refine r_iconst C dX8_live_15 k_i3 ?_
    refine r_iload_n C dX8_live_16 0 rfl ?_
    refine r_csi (As := [.int x1]) (st := [.int (3 : Int32), p_rf g q3]) C ws_X8_84 (tcJ6_bitCount_0f7a4 K.2.1 g hg x1 h2) (Nat.le_of_ble_eq_true rfl) rfl rfl (Nat.le_of_ble_eq_true rfl) dX8_live_17 ⟨Nat.le_of_ble_eq_true rfl, Nat.le_of_ble_eq_true rfl⟩ (fun x4 h5 => ?_)
    refine r_iast C dX8_live_20 (fun h6 => ?_)
    refine r_aload_n C dX8_live_21 1 rfl ?_
    refine r_gr C wf_X8_17_7 dX8_live_22 (fun q7 => ?_)
    refine r_iconst C dX8_live_25 k_i5 ?_
    refine r_aload_n C dX8_live_26 1 rfl ?_
    refine r_gr C wf_X8_23_7 dX8_live_27 (fun q8 => ?_)
    refine r_iload_n C dX8_live_30 2 rfl ?_
    refine r_cvi (As := [.int i1]) (st := [.int (5 : Int32), p_rf g q7]) C wv_X8_119 (tcX0_strengthOf K.2.1 g hg q8 i1 h6) (Nat.le_of_ble_eq_true rfl) rfl rfl (Nat.le_of_ble_eq_true rfl) dX8_live_31 ⟨Nat.le_of_ble_eq_true rfl, Nat.le_of_ble_eq_true rfl⟩ (fun x9 h10 => ?_)
    refine r_iast C dX8_live_34 (fun h11 => ?_)
    refine r_aload_n C dX8_live_35 1 rfl ?_
    refine r_gr C wf_X8_17_7 dX8_live_36 (fun q12 => ?_)
    refine r_bipush C dX8_live_39 k_b6 ?_
    refine r_aload_n C dX8_live_41 1 rfl ?_
    refine r_gr C wf_X8_11_7 dX8_live_42 (fun q13 => ?_)
    refine r_bipush C dX8_live_45 k_b80 ?_
    refine r_iald C dX8_live_47 (fun x14 => ?_)
    refine r_bipush C dX8_live_48 k_b7 ?_
    refine r_irem C dX8_live_50 ?_
    refine r_iast C dX8_live_51 (fun h15 => ?_)
    refine r_aload_n C dX8_live_52 1 rfl ?_
    refine r_gr C wf_X8_20_7 dX8_live_53 (fun q16 => ?_)
    refine r_iconst C dX8_live_56 k_i0 ?_
    refine r_csv (As := [p_rf g q16, .int (0 : Int32)]) (st := []) C ws_X8_122 (tcJ7_fill_53178 K.2.1 g hg q16 (0 : Int32) h15) (Nat.le_of_ble_eq_true rfl) rfl rfl (Nat.le_of_ble_eq_true rfl) dX8_live_57 ⟨Nat.le_of_ble_eq_true rfl, Nat.le_of_ble_eq_true rfl⟩ (fun h17 => ?_)
    refine r_iconst C dX8_live_60 k_i0 ?_
    refine r_istore (lv9 := [(4, .int (0 : Int32)), (3, .int x1), (0, p_rf g o0), (1, .int i1), (2, p_rf g o2)]) C dX8_live_61 (by decide) rfl ?_
    refine r_perm (lv' := [(0, p_rf g o0), (1, .int i1), (2, p_rf g o2), (3, .int x1), (4, .int (0 : Int32))]) [2, 3, 4, 1, 0] rfl ?_
    refine tX8_live_L63 hg C o0 i1 o2 x1 (fun h18 => ?_) FU (0 : Int32) h17
    refine r_iconst C dX8_live_119 k_i0 ?_
    refine r_istore (lv9 := [(4, .int (0 : Int32)), (0, p_rf g o0), (1, .int i1)]) C dX8_live_120 (by decide) rfl ?_
    refine r_perm (lv' := [(0, p_rf g o0), (1, .int i1), (4, .int (0 : Int32))]) [1, 2, 0] rfl ?_
    refine tX8_live_L122 hg C o0 i1 (fun h19 => ?_) FU (0 : Int32) h18
    exact r_vret C dX8_live_162
  · exact r_vret C dX8_live_10
set_option maxRecDepth 100000 in
set_option maxHeartbeats 4000000 in
theorem tX8_pass_L3 {K : AC} {g : WG} (hg : p_al g = false)  (C : Cx K g cX8_pass 5 RX8 none "pass" 5 0 0) (o0 : Nat) (i1 : Int32) (i2 : Int32) (o3 : Nat) {kx : PH → Option (Unit × PH)} (hk : ∀  (h : PH), VX K g 5 0 0 (a_fin K g 0 0 em_v) 32 [] [] h (kx h)) : ∀ (n : Nat) (i4 : Int32) (h : PH), VX K g 5 0 0 (a_fin K g 0 0 em_v) 3 [(0, p_rf g o0), (1, .int i1), (2, .int i2), (3, p_rf g o3), (4, .int i4)] [] h (fX8_pass_L3 o0 i1 i2 o3 kx n i4 h) := by
  intro n
  induction n with
  | zero =>
    intros
    exact r_none
  | succ n ih =>
    intro i4 h
    rw [fX8_pass_L3]
    refine r_iload C dX8_pass_3 4 rfl ?_
    refine r_iload_n C dX8_pass_5 2 rfl ?_
    refine r_icmp_ge (tgt := 32) C dX8_pass_6 (by decide) ?_ ?_
    · refine r_perm (lv' := []) [] rfl ?_
      exact hk h
    · refine r_aload_n C dX8_pass_9 0 rfl ?_
      refine r_iload_n C dX8_pass_10 1 rfl ?_
      refine r_aload_n C dX8_pass_11 3 rfl ?_
      refine r_cvv (As := [.int i1, p_rf g o3]) (st := []) C wv_X8_111 (tcX8_live K.2.1 g hg o0 i1 o3 h) (Nat.le_of_ble_eq_true rfl) rfl rfl (Nat.le_of_ble_eq_true rfl) dX8_pass_12 ⟨Nat.le_of_ble_eq_true rfl, Nat.le_of_ble_eq_true rfl⟩ (fun h1 => ?_)
      refine r_aload_n C dX8_pass_15 0 rfl ?_
      refine r_gr C wf_X8_11_7 dX8_pass_16 (fun q2 => ?_)
      refine r_bipush C dX8_pass_19 k_b80 ?_
      refine r_dup2 C dX8_pass_21 rfl rfl ?_
      refine r_iald C dX8_pass_22 (fun x3 => ?_)
      refine r_iconst C dX8_pass_23 k_i1 ?_
      refine r_iadd C dX8_pass_24 ?_
      refine r_iast C dX8_pass_25 (fun h4 => ?_)
      refine r_iinc (lv' := [(0, p_rf g o0), (1, .int i1), (2, .int i2), (3, p_rf g o3)]) C dX8_pass_26 4 rfl k_i1 (by decide) (fun _ => rfl) (fun x5 => ?_)
      refine r_goto (tgt := 3) C dX8_pass_29 (by decide) ?_
      refine r_perm (lv' := [(0, p_rf g o0), (1, .int i1), (2, .int i2), (3, p_rf g o3), (4, .int x5)]) [1, 2, 3, 4, 0] rfl ?_
      exact ih x5 h4
set_option maxRecDepth 100000 in
set_option maxHeartbeats 4000000 in
theorem tcX8_pass (l : Launch) (g : WG) (hg : p_al g = false) (o0 : Nat) (i1 : Int32) (i2 : Int32) (o3 : Nat) (h : PH) : CT l g 5 0 0 yX8_pass cX8_pass 5 none em_v [p_rf g o0, .int i1, .int i2, p_rf g o3] h (fX8_pass o0 i1 i2 o3 h) := by
  refine CT_of (own := RX8) (nm := "pass") (by decide +kernel) (Nat.le_of_ble_eq_true rfl) rfl rfl rfl ⟨rfl, rfl⟩ (fun K hK C => ?_)
  subst hK
  unfold fX8_pass
  show VX K g _ _ _ _ _ [(0, p_rf g o0), (1, .int i1), (2, .int i2), (3, p_rf g o3)] _ _ _
  refine r_iconst C dX8_pass_0 k_i0 ?_
  refine r_istore (lv9 := [(4, .int (0 : Int32)), (0, p_rf g o0), (1, .int i1), (2, .int i2), (3, p_rf g o3)]) C dX8_pass_1 (by decide) rfl ?_
  refine r_perm (lv' := [(0, p_rf g o0), (1, .int i1), (2, .int i2), (3, p_rf g o3), (4, .int (0 : Int32))]) [1, 2, 3, 4, 0] rfl ?_
  refine tX8_pass_L3 hg C o0 i1 i2 o3 (fun h1 => ?_) FU (0 : Int32) h
  exact r_vret C dX8_pass_32
set_option maxRecDepth 100000 in
set_option maxHeartbeats 4000000 in
theorem tX8_hasWant_L2 {K : AC} {g : WG} (hg : p_al g = false)  (C : Cx K g cX8_hasWant 4 RX8 (some .boolean) "hasWant" 3 0 0) (o0 : Nat) (i1 : Int32) (i2 : Int32) {kx : PH → Option (Int32 × PH)} (hk : ∀  (h : PH), VX K g 4 0 0 (a_fin K g 0 0 em_i) 48 [] [] h (kx h)) : ∀ (n : Nat) (i3 : Int32) (h : PH), VX K g 4 0 0 (a_fin K g 0 0 em_i) 2 [(0, p_rf g o0), (1, .int i1), (2, .int i2), (3, .int i3)] [] h (fX8_hasWant_L2 o0 i1 i2 kx n i3 h) := by
  intro n
  induction n with
  | zero =>
    intros
    exact r_none
  | succ n ih =>
    intro i3 h
    rw [fX8_hasWant_L2]
    refine r_iload_n C dX8_hasWant_2 3 rfl ?_
    refine r_aload_n C dX8_hasWant_3 0 rfl ?_
    refine r_gr C wf_X8_23_7 dX8_hasWant_4 (fun q1 => ?_)
    refine r_iload_n C dX8_hasWant_7 2 rfl ?_
    refine r_cvi (As := [.int i2]) (st := [.int i3]) C wv_X8_64 (tcX0_termsOf K.2.1 g hg q1 i2 h) (Nat.le_of_ble_eq_true rfl) rfl rfl (Nat.le_of_ble_eq_true rfl) dX8_hasWant_8 ⟨Nat.le_of_ble_eq_true rfl, Nat.le_of_ble_eq_true rfl⟩ (fun x2 h3 => ?_)
    refine r_icmp_ge (tgt := 48) C dX8_hasWant_11 (by decide) ?_ ?_
    · refine r_perm (lv' := []) [] rfl ?_
      exact hk h3
    · refine r_aload_n C dX8_hasWant_14 0 rfl ?_
      refine r_gr C wf_X8_23_7 dX8_hasWant_15 (fun q4 => ?_)
      refine r_iload_n C dX8_hasWant_18 2 rfl ?_
      refine r_iload_n C dX8_hasWant_19 3 rfl ?_
      refine r_aload_n C dX8_hasWant_20 0 rfl ?_
      refine r_iload_n C dX8_hasWant_21 1 rfl ?_
      refine r_aload_n C dX8_hasWant_22 0 rfl ?_
      refine r_gr C wf_X8_23_7 dX8_hasWant_23 (fun q5 => ?_)
      refine r_iload_n C dX8_hasWant_26 2 rfl ?_
      refine r_iload_n C dX8_hasWant_27 3 rfl ?_
      refine r_cvi (As := [.int i2, .int i3]) (st := [.int i1, p_rf g o0, .int i3, .int i2, p_rf g q4]) C wv_X8_68 (tcX0_humourOfTerm K.2.1 g hg q5 i2 i3 h3) (Nat.le_of_ble_eq_true rfl) rfl rfl (Nat.le_of_ble_eq_true rfl) dX8_hasWant_28 ⟨Nat.le_of_ble_eq_true rfl, Nat.le_of_ble_eq_true rfl⟩ (fun x6 h7 => ?_)
      refine r_cvi (As := [.int i1, .int x6]) (st := [.int i3, .int i2, p_rf g q4]) C wv_X8_71 (tcX8_humourOf K.2.1 g hg o0 i1 x6 h7) (Nat.le_of_ble_eq_true rfl) rfl rfl (Nat.le_of_ble_eq_true rfl) dX8_hasWant_31 ⟨Nat.le_of_ble_eq_true rfl, Nat.le_of_ble_eq_true rfl⟩ (fun x8 h9 => ?_)
      refine r_cvi (As := [.int i2, .int i3, .int x8]) (st := []) C wv_X8_74 (tcX0_offBy K.2.1 g hg q4 i2 i3 x8 h9) (Nat.le_of_ble_eq_true rfl) rfl rfl (Nat.le_of_ble_eq_true rfl) dX8_hasWant_34 ⟨Nat.le_of_ble_eq_true rfl, Nat.le_of_ble_eq_true rfl⟩ (fun x10 h11 => ?_)
      refine r_if_le (tgt := 42) C dX8_hasWant_37 (by decide) ?_ ?_
      · refine r_iinc (lv' := [(0, p_rf g o0), (1, .int i1), (2, .int i2)]) C dX8_hasWant_42 3 rfl k_i1 (by decide) (fun _ => rfl) (fun x12 => ?_)
        refine r_goto (tgt := 2) C dX8_hasWant_45 (by decide) ?_
        refine r_perm (lv' := [(0, p_rf g o0), (1, .int i1), (2, .int i2), (3, .int x12)]) [1, 2, 3, 0] rfl ?_
        exact ih x12 h11
      · refine r_iconst C dX8_hasWant_40 k_i0 ?_
        exact r_zret C dX8_hasWant_41
set_option maxRecDepth 100000 in
set_option maxHeartbeats 4000000 in
theorem tcX8_hasWant (l : Launch) (g : WG) (hg : p_al g = false) (o0 : Nat) (i1 : Int32) (i2 : Int32) (h : PH) : CT l g 3 0 0 yX8_hasWant cX8_hasWant 4 (some .boolean) em_i [p_rf g o0, .int i1, .int i2] h (fX8_hasWant o0 i1 i2 h) := by
  refine CT_of (own := RX8) (nm := "hasWant") (by decide +kernel) (Nat.le_of_ble_eq_true rfl) rfl rfl rfl ⟨rfl, rfl⟩ (fun K hK C => ?_)
  subst hK
  unfold fX8_hasWant
  show VX K g _ _ _ _ _ [(0, p_rf g o0), (1, .int i1), (2, .int i2)] _ _ _
  refine r_iconst C dX8_hasWant_0 k_i0 ?_
  refine r_istore_n (lv9 := [(3, .int (0 : Int32)), (0, p_rf g o0), (1, .int i1), (2, .int i2)]) C dX8_hasWant_1 (by decide) rfl ?_
  refine r_perm (lv' := [(0, p_rf g o0), (1, .int i1), (2, .int i2), (3, .int (0 : Int32))]) [1, 2, 3, 0] rfl ?_
  refine tX8_hasWant_L2 hg C o0 i1 i2 (fun h1 => ?_) FU (0 : Int32) h
  refine r_iconst C dX8_hasWant_48 k_i1 ?_
  exact r_zret C dX8_hasWant_49
set_option maxRecDepth 100000 in
set_option maxHeartbeats 4000000 in
theorem tX8_wantsOf_J32_4 {K : AC} {g : WG} (hg : p_al g = false)  (C : Cx K g cX8_wantsOf 4 RX8 (some .int) "wantsOf" 4 0 0) (o0 : Nat) (i1 : Int32) (i3 : Int32) (s0 : Int32) (s1 : Int32)    {rc : Int32 → Int32 → PH → Option (Int32 × PH)} {kx : Int32 → PH → Option (Int32 × PH)} (hr : ∀ (i2' : Int32) (i3' : Int32) (h : PH), VX K g 4 0 0 (a_fin K g 0 0 em_i) 4 [(0, p_rf g o0), (1, .int i1), (2, .int i2'), (3, .int i3')] [] h (rc i2' i3' h)) (hk : ∀ (i2' : Int32) (h : PH), VX K g 4 0 0 (a_fin K g 0 0 em_i) 40 [(2, .int i2')] [] h (kx i2' h)) (h : PH) : VX K g 4 0 0 (a_fin K g 0 0 em_i) 32 [(0, p_rf g o0), (1, .int i1), (3, .int i3)] [.int s0, .int s1] h (fX8_wantsOf_J32_4 rc kx o0 i1 i3 s0 s1 h) := by
  unfold fX8_wantsOf_J32_4
  refine r_ior C dX8_wantsOf_32 ?_
  refine r_topi (fun x1 => ?_)
  refine r_istore_n (lv9 := [(2, .int x1), (0, p_rf g o0), (1, .int i1), (3, .int i3)]) C dX8_wantsOf_33 (by decide) rfl ?_
  refine r_iinc (lv' := [(2, .int x1), (0, p_rf g o0), (1, .int i1)]) C dX8_wantsOf_34 3 rfl k_i1 (by decide) (fun _ => rfl) (fun x2 => ?_)
  refine r_goto (tgt := 4) C dX8_wantsOf_37 (by decide) ?_
  refine r_perm (lv' := [(0, p_rf g o0), (1, .int i1), (2, .int x1), (3, .int x2)]) [2, 3, 1, 0] rfl ?_
  exact hr x1 x2 h
set_option maxRecDepth 100000 in
set_option maxHeartbeats 4000000 in
theorem tX8_wantsOf_L4 {K : AC} {g : WG} (hg : p_al g = false)  (C : Cx K g cX8_wantsOf 4 RX8 (some .int) "wantsOf" 4 0 0) (o0 : Nat) (i1 : Int32) {kx : Int32 → PH → Option (Int32 × PH)} (hk : ∀ (i2 : Int32) (h : PH), VX K g 4 0 0 (a_fin K g 0 0 em_i) 40 [(2, .int i2)] [] h (kx i2 h)) : ∀ (n : Nat) (i2 : Int32) (i3 : Int32) (h : PH), VX K g 4 0 0 (a_fin K g 0 0 em_i) 4 [(0, p_rf g o0), (1, .int i1), (2, .int i2), (3, .int i3)] [] h (fX8_wantsOf_L4 o0 i1 kx n i2 i3 h) := by
  intro n
  induction n with
  | zero =>
    intros
    exact r_none
  | succ n ih =>
    intro i2 i3 h
    rw [fX8_wantsOf_L4]
    refine r_iload_n C dX8_wantsOf_4 3 rfl ?_
    refine r_aload_n C dX8_wantsOf_5 0 rfl ?_
    refine r_gr C wf_X8_23_7 dX8_wantsOf_6 (fun q1 => ?_)
    refine r_cvi (As := []) (st := [.int i3]) C wv_X8_58 (tcX0_wantSize K.2.1 g hg q1 h) (Nat.le_of_ble_eq_true rfl) rfl rfl (Nat.le_of_ble_eq_true rfl) dX8_wantsOf_9 ⟨Nat.le_of_ble_eq_true rfl, Nat.le_of_ble_eq_true rfl⟩ (fun x2 h3 => ?_)
    refine r_icmp_ge (tgt := 40) C dX8_wantsOf_12 (by decide) ?_ ?_
    · refine r_perm (lv' := [(2, .int i2)]) [2] rfl ?_
      exact hk i2 h3
    · refine r_iload_n C dX8_wantsOf_15 2 rfl ?_
      refine r_aload_n C dX8_wantsOf_16 0 rfl ?_
      refine r_iload_n C dX8_wantsOf_17 1 rfl ?_
      refine r_iload_n C dX8_wantsOf_18 3 rfl ?_
      refine r_cvi (As := [.int i1, .int i3]) (st := [.int i2]) C wv_X8_61 (tcX8_hasWant K.2.1 g hg o0 i1 i3 h3) (Nat.le_of_ble_eq_true rfl) rfl rfl (Nat.le_of_ble_eq_true rfl) dX8_wantsOf_19 ⟨Nat.le_of_ble_eq_true rfl, Nat.le_of_ble_eq_true rfl⟩ (fun x4 h5 => ?_)
      refine r_if_eq (tgt := 31) C dX8_wantsOf_22 (by decide) ?_ ?_
      · refine r_iconst C dX8_wantsOf_31 k_i0 ?_
        refine r_perm (lv' := [(0, p_rf g o0), (1, .int i1), (3, .int i3)]) [0, 1, 3] rfl ?_
        exact tX8_wantsOf_J32_4 hg C o0 i1 i3 (0 : Int32) i2 ih hk h5
      · refine r_iconst C dX8_wantsOf_25 k_i1 ?_
        refine r_iload_n C dX8_wantsOf_26 3 rfl ?_
        refine r_ishl C dX8_wantsOf_27 ?_
        refine r_goto (tgt := 32) C dX8_wantsOf_28 (by decide) ?_
        refine r_perm (lv' := [(0, p_rf g o0), (1, .int i1), (3, .int i3)]) [0, 1, 3] rfl ?_
        exact tX8_wantsOf_J32_4 hg C o0 i1 i3 ((1 : Int32) <<< (i3 &&& 31)) i2 ih hk h5
set_option maxRecDepth 100000 in
set_option maxHeartbeats 4000000 in
theorem tcX8_wantsOf (l : Launch) (g : WG) (hg : p_al g = false) (o0 : Nat) (i1 : Int32) (h : PH) : CT l g 4 0 0 yX8_wantsOf cX8_wantsOf 4 (some .int) em_i [p_rf g o0, .int i1] h (fX8_wantsOf o0 i1 h) := by
  refine CT_of (own := RX8) (nm := "wantsOf") (by decide +kernel) (Nat.le_of_ble_eq_true rfl) rfl rfl rfl ⟨rfl, rfl⟩ (fun K hK C => ?_)
  subst hK
  unfold fX8_wantsOf
  show VX K g _ _ _ _ _ [(0, p_rf g o0), (1, .int i1)] _ _ _
  refine r_iconst C dX8_wantsOf_0 k_i0 ?_
  refine r_istore_n (lv9 := [(2, .int (0 : Int32)), (0, p_rf g o0), (1, .int i1)]) C dX8_wantsOf_1 (by decide) rfl ?_
  refine r_iconst C dX8_wantsOf_2 k_i0 ?_
  refine r_istore_n (lv9 := [(3, .int (0 : Int32)), (2, .int (0 : Int32)), (0, p_rf g o0), (1, .int i1)]) C dX8_wantsOf_3 (by decide) rfl ?_
  refine r_perm (lv' := [(0, p_rf g o0), (1, .int i1), (2, .int (0 : Int32)), (3, .int (0 : Int32))]) [2, 3, 1, 0] rfl ?_
  refine tX8_wantsOf_L4 hg C o0 i1 (fun x1 h2 => ?_) FU (0 : Int32) (0 : Int32) h
  refine r_iload_n C dX8_wantsOf_40 0 rfl ?_
  exact r_iret C dX8_wantsOf_41
set_option maxRecDepth 100000 in
set_option maxHeartbeats 4000000 in
theorem tX4_wantsWith_J45_14 {K : AC} {g : WG} (hg : p_al g = false)  (C : Cx K g cX4_wantsWith 5 RX4 (some .int) "wantsWith" 6 0 0) (o0 : Nat) (i1 : Int32) (i2 : Int32) (i3 : Int32) (i4 : Int32)    {rc : Int32 → PH → Option (Int32 × PH)} {kx : PH → Option (Int32 × PH)} (hr : ∀ (i4' : Int32) (h : PH), VX K g 5 0 0 (a_fin K g 0 0 em_i) 14 [(0, p_rf g o0), (1, .int i1), (2, .int i2), (3, .int i3), (4, .int i4')] [] h (rc i4' h)) (hk : ∀  (h : PH), VX K g 5 0 0 (a_fin K g 0 0 em_i) 51 [(0, p_rf g o0), (1, .int i1), (3, .int i3)] [] h (kx  h)) (h : PH) : VX K g 5 0 0 (a_fin K g 0 0 em_i) 45 [(0, p_rf g o0), (1, .int i1), (2, .int i2), (3, .int i3), (4, .int i4)] [] h (fX4_wantsWith_J45_14 rc kx o0 i1 i2 i3 i4 h) := by
  unfold fX4_wantsWith_J45_14
  refine r_iinc (lv' := [(0, p_rf g o0), (1, .int i1), (2, .int i2), (3, .int i3)]) C dX4_wantsWith_45 4 rfl k_i1 (by decide) (fun _ => rfl) (fun x1 => ?_)
  refine r_goto (tgt := 14) C dX4_wantsWith_48 (by decide) ?_
  refine r_perm (lv' := [(0, p_rf g o0), (1, .int i1), (2, .int i2), (3, .int i3), (4, .int x1)]) [1, 2, 3, 4, 0] rfl ?_
  exact hr x1 h
set_option maxRecDepth 100000 in
set_option maxHeartbeats 4000000 in
theorem tX4_wantsWith_L14 {K : AC} {g : WG} (hg : p_al g = false)  (C : Cx K g cX4_wantsWith 5 RX4 (some .int) "wantsWith" 6 0 0) (o0 : Nat) (i1 : Int32) (i2 : Int32) (i3 : Int32) {kx : PH → Option (Int32 × PH)} (hk : ∀  (h : PH), VX K g 5 0 0 (a_fin K g 0 0 em_i) 51 [(0, p_rf g o0), (1, .int i1), (3, .int i3)] [] h (kx h)) : ∀ (n : Nat) (i4 : Int32) (h : PH), VX K g 5 0 0 (a_fin K g 0 0 em_i) 14 [(0, p_rf g o0), (1, .int i1), (2, .int i2), (3, .int i3), (4, .int i4)] [] h (fX4_wantsWith_L14 o0 i1 i2 i3 kx n i4 h) := by
  intro n
  induction n with
  | zero =>
    intros
    exact r_none
  | succ n ih =>
    intro i4 h
    rw [fX4_wantsWith_L14]
    refine r_iload C dX4_wantsWith_14 4 rfl ?_
    refine r_aload_n C dX4_wantsWith_16 0 rfl ?_
    refine r_gr C wf_X4_39_3 dX4_wantsWith_17 (fun q1 => ?_)
    refine r_cvi (As := []) (st := [.int i4]) C wv_X4_60 (tcX0_groundSize K.2.1 g hg q1 h) (Nat.le_of_ble_eq_true rfl) rfl rfl (Nat.le_of_ble_eq_true rfl) dX4_wantsWith_20 ⟨Nat.le_of_ble_eq_true rfl, Nat.le_of_ble_eq_true rfl⟩ (fun x2 h3 => ?_)
    refine r_icmp_ge (tgt := 51) C dX4_wantsWith_23 (by decide) ?_ ?_
    · refine r_perm (lv' := [(0, p_rf g o0), (1, .int i1), (3, .int i3)]) [0, 1, 3] rfl ?_
      exact hk h3
    · refine r_iload C dX4_wantsWith_26 4 rfl ?_
      refine r_iload_n C dX4_wantsWith_28 2 rfl ?_
      refine r_cni (As := [.int i4, .int i2]) (st := []) C wn_X4_66 (tcX11_isIn K.2.1 g hg i4 i2 h3) (Nat.le_of_ble_eq_true rfl) rfl rfl (Nat.le_of_ble_eq_true rfl) dX4_wantsWith_29 ⟨Nat.le_of_ble_eq_true rfl, Nat.le_of_ble_eq_true rfl⟩ (fun x4 h5 => ?_)
      refine r_if_eq (tgt := 45) C dX4_wantsWith_32 (by decide) ?_ ?_
      · exact tX4_wantsWith_J45_14 hg C o0 i1 i2 i3 i4 ih hk h5
      · refine r_aload_n C dX4_wantsWith_35 0 rfl ?_
        refine r_gr C wf_X4_47_3 dX4_wantsWith_36 (fun q6 => ?_)
        refine r_iload_n C dX4_wantsWith_39 1 rfl ?_
        refine r_iload C dX4_wantsWith_40 4 rfl ?_
        refine r_cvv (As := [.int i1, .int i4]) (st := []) C wv_X4_70 (tcX8_lend K.2.1 g hg q6 i1 i4 h5) (Nat.le_of_ble_eq_true rfl) rfl rfl (Nat.le_of_ble_eq_true rfl) dX4_wantsWith_42 ⟨Nat.le_of_ble_eq_true rfl, Nat.le_of_ble_eq_true rfl⟩ (fun h7 => ?_)
        exact tX4_wantsWith_J45_14 hg C o0 i1 i2 i3 i4 ih hk h7
set_option maxRecDepth 100000 in
set_option maxHeartbeats 4000000 in
theorem tcX4_wantsWith (l : Launch) (g : WG) (hg : p_al g = false) (o0 : Nat) (i1 : Int32) (i2 : Int32) (i3 : Int32) (h : PH) : CT l g 6 0 0 yX4_wantsWith cX4_wantsWith 5 (some .int) em_i [p_rf g o0, .int i1, .int i2, .int i3] h (fX4_wantsWith o0 i1 i2 i3 h) := by
  refine CT_of (own := RX4) (nm := "wantsWith") (by decide +kernel) (Nat.le_of_ble_eq_true rfl) rfl rfl rfl ⟨rfl, rfl⟩ (fun K hK C => ?_)
  subst hK
  unfold fX4_wantsWith
  show VX K g _ _ _ _ _ [(0, p_rf g o0), (1, .int i1), (2, .int i2), (3, .int i3)] _ _ _
  refine r_aload_n C dX4_wantsWith_0 0 rfl ?_
  refine r_gr C wf_X4_47_3 dX4_wantsWith_1 (fun q1 => ?_)
  refine r_aload_n C dX4_wantsWith_4 0 rfl ?_
  refine r_gr C wf_X4_43_3 dX4_wantsWith_5 (fun q2 => ?_)
  refine r_cvv (As := [p_rf g q2]) (st := []) C wv_X4_54 (tcX8_copy K.2.1 g hg q1 q2 h) (Nat.le_of_ble_eq_true rfl) rfl rfl (Nat.le_of_ble_eq_true rfl) dX4_wantsWith_8 ⟨Nat.le_of_ble_eq_true rfl, Nat.le_of_ble_eq_true rfl⟩ (fun h3 => ?_)
  refine r_iconst C dX4_wantsWith_11 k_i0 ?_
  refine r_istore (lv9 := [(4, .int (0 : Int32)), (0, p_rf g o0), (1, .int i1), (2, .int i2), (3, .int i3)]) C dX4_wantsWith_12 (by decide) rfl ?_
  refine r_perm (lv' := [(0, p_rf g o0), (1, .int i1), (2, .int i2), (3, .int i3), (4, .int (0 : Int32))]) [1, 2, 3, 4, 0] rfl ?_
  refine tX4_wantsWith_L14 hg C o0 i1 i2 i3 (fun h4 => ?_) FU (0 : Int32) h3
  refine r_aload_n C dX4_wantsWith_51 0 rfl ?_
  refine r_gr C wf_X4_47_3 dX4_wantsWith_52 (fun q5 => ?_)
  refine r_iload_n C dX4_wantsWith_55 1 rfl ?_
  refine r_iload_n C dX4_wantsWith_56 2 rfl ?_
  refine r_aload_n C dX4_wantsWith_57 0 rfl ?_
  refine r_gr C wf_X4_39_3 dX4_wantsWith_58 (fun q6 => ?_)
  refine r_cvr (As := []) (st := [.int i3, .int i1, p_rf g q5]) C wv_X4_74 (tcX0_presentRule K.2.1 g hg q6 h4) (Nat.le_of_ble_eq_true rfl) rfl rfl (Nat.le_of_ble_eq_true rfl) dX4_wantsWith_61 ⟨Nat.le_of_ble_eq_true rfl, Nat.le_of_ble_eq_true rfl⟩ (fun q7 h8 => ?_)
  refine r_cvv (As := [.int i1, .int i3, p_rf g q7]) (st := []) C wv_X4_78 (tcX8_pass K.2.1 g hg q5 i1 i3 q7 h8) (Nat.le_of_ble_eq_true rfl) rfl rfl (Nat.le_of_ble_eq_true rfl) dX4_wantsWith_64 ⟨Nat.le_of_ble_eq_true rfl, Nat.le_of_ble_eq_true rfl⟩ (fun h9 => ?_)
  refine r_aload_n C dX4_wantsWith_67 0 rfl ?_
  refine r_gr C wf_X4_47_3 dX4_wantsWith_68 (fun q10 => ?_)
  refine r_iload_n C dX4_wantsWith_71 1 rfl ?_
  refine r_cvi (As := [.int i1]) (st := []) C wv_X4_82 (tcX8_wantsOf K.2.1 g hg q10 i1 h9) (Nat.le_of_ble_eq_true rfl) rfl rfl (Nat.le_of_ble_eq_true rfl) dX4_wantsWith_72 ⟨Nat.le_of_ble_eq_true rfl, Nat.le_of_ble_eq_true rfl⟩ (fun x11 h12 => ?_)
  exact r_iret C dX4_wantsWith_75
set_option maxRecDepth 100000 in
set_option maxHeartbeats 4000000 in
theorem tcX8_strip (l : Launch) (g : WG) (hg : p_al g = false) (o0 : Nat) (i1 : Int32) (i2 : Int32) (h : PH) : CT l g 2 0 0 yX8_strip cX8_strip 3 none em_v [p_rf g o0, .int i1, .int i2] h (fX8_strip o0 i1 i2 h) := by
  refine CT_of (own := RX8) (nm := "strip") (by decide +kernel) (Nat.le_of_ble_eq_true rfl) rfl rfl rfl ⟨rfl, rfl⟩ (fun K hK C => ?_)
  subst hK
  unfold fX8_strip
  show VX K g _ _ _ _ _ [(0, p_rf g o0), (1, .int i1), (2, .int i2)] _ _ _
  refine r_aload_n C dX8_strip_0 0 rfl ?_
  refine r_iload_n C dX8_strip_1 1 rfl ?_
  refine r_iload_n C dX8_strip_2 2 rfl ?_
  refine r_iconst C dX8_strip_3 k_im1 ?_
  refine r_cvv (As := [.int i1, .int i2, .int (-1 : Int32)]) (st := []) C wv_X8_41 (tcX8_putDaysHeld K.2.1 g hg o0 i1 i2 (-1 : Int32) h) (Nat.le_of_ble_eq_true rfl) rfl rfl (Nat.le_of_ble_eq_true rfl) dX8_strip_4 ⟨Nat.le_of_ble_eq_true rfl, Nat.le_of_ble_eq_true rfl⟩ (fun h1 => ?_)
  exact r_vret C dX8_strip_7
set_option maxRecDepth 100000 in
set_option maxHeartbeats 4000000 in
theorem tcX4_wantsBare (l : Launch) (g : WG) (hg : p_al g = false) (o0 : Nat) (i1 : Int32) (i2 : Int32) (i3 : Int32) (h : PH) : CT l g 6 0 0 yX4_wantsBare cX4_wantsBare 4 (some .int) em_i [p_rf g o0, .int i1, .int i2, .int i3] h (fX4_wantsBare o0 i1 i2 i3 h) := by
  refine CT_of (own := RX4) (nm := "wantsBare") (by decide +kernel) (Nat.le_of_ble_eq_true rfl) rfl rfl rfl ⟨rfl, rfl⟩ (fun K hK C => ?_)
  subst hK
  unfold fX4_wantsBare
  show VX K g _ _ _ _ _ [(0, p_rf g o0), (1, .int i1), (2, .int i2), (3, .int i3)] _ _ _
  refine r_aload_n C dX4_wantsBare_0 0 rfl ?_
  refine r_gr C wf_X4_47_3 dX4_wantsBare_1 (fun q1 => ?_)
  refine r_aload_n C dX4_wantsBare_4 0 rfl ?_
  refine r_gr C wf_X4_43_3 dX4_wantsBare_5 (fun q2 => ?_)
  refine r_cvv (As := [p_rf g q2]) (st := []) C wv_X4_54 (tcX8_copy K.2.1 g hg q1 q2 h) (Nat.le_of_ble_eq_true rfl) rfl rfl (Nat.le_of_ble_eq_true rfl) dX4_wantsBare_8 ⟨Nat.le_of_ble_eq_true rfl, Nat.le_of_ble_eq_true rfl⟩ (fun h3 => ?_)
  refine r_aload_n C dX4_wantsBare_11 0 rfl ?_
  refine r_gr C wf_X4_47_3 dX4_wantsBare_12 (fun q4 => ?_)
  refine r_iload_n C dX4_wantsBare_15 1 rfl ?_
  refine r_iload_n C dX4_wantsBare_16 2 rfl ?_
  refine r_cvv (As := [.int i1, .int i2]) (st := []) C wv_X4_86 (tcX8_strip K.2.1 g hg q4 i1 i2 h3) (Nat.le_of_ble_eq_true rfl) rfl rfl (Nat.le_of_ble_eq_true rfl) dX4_wantsBare_17 ⟨Nat.le_of_ble_eq_true rfl, Nat.le_of_ble_eq_true rfl⟩ (fun h5 => ?_)
  refine r_aload_n C dX4_wantsBare_20 0 rfl ?_
  refine r_gr C wf_X4_47_3 dX4_wantsBare_21 (fun q6 => ?_)
  refine r_iload_n C dX4_wantsBare_24 1 rfl ?_
  refine r_iload_n C dX4_wantsBare_25 3 rfl ?_
  refine r_aload_n C dX4_wantsBare_26 0 rfl ?_
  refine r_gr C wf_X4_39_3 dX4_wantsBare_27 (fun q7 => ?_)
  refine r_cvr (As := []) (st := [.int i3, .int i1, p_rf g q6]) C wv_X4_74 (tcX0_presentRule K.2.1 g hg q7 h5) (Nat.le_of_ble_eq_true rfl) rfl rfl (Nat.le_of_ble_eq_true rfl) dX4_wantsBare_30 ⟨Nat.le_of_ble_eq_true rfl, Nat.le_of_ble_eq_true rfl⟩ (fun q8 h9 => ?_)
  refine r_cvv (As := [.int i1, .int i3, p_rf g q8]) (st := []) C wv_X4_78 (tcX8_pass K.2.1 g hg q6 i1 i3 q8 h9) (Nat.le_of_ble_eq_true rfl) rfl rfl (Nat.le_of_ble_eq_true rfl) dX4_wantsBare_33 ⟨Nat.le_of_ble_eq_true rfl, Nat.le_of_ble_eq_true rfl⟩ (fun h10 => ?_)
  refine r_aload_n C dX4_wantsBare_36 0 rfl ?_
  refine r_gr C wf_X4_47_3 dX4_wantsBare_37 (fun q11 => ?_)
  refine r_iload_n C dX4_wantsBare_40 1 rfl ?_
  refine r_cvi (As := [.int i1]) (st := []) C wv_X4_82 (tcX8_wantsOf K.2.1 g hg q11 i1 h10) (Nat.le_of_ble_eq_true rfl) rfl rfl (Nat.le_of_ble_eq_true rfl) dX4_wantsBare_41 ⟨Nat.le_of_ble_eq_true rfl, Nat.le_of_ble_eq_true rfl⟩ (fun x12 h13 => ?_)
  exact r_iret C dX4_wantsBare_44
set_option maxRecDepth 100000 in
set_option maxHeartbeats 4000000 in
theorem tcX8_stockOf (l : Launch) (g : WG) (hg : p_al g = false) (o0 : Nat) (i1 : Int32) (h : PH) : CT l g 1 0 0 yX8_stockOf cX8_stockOf 2 (some .int) em_i [p_rf g o0, .int i1] h (fX8_stockOf o0 i1 h) := by
  refine CT_of (own := RX8) (nm := "stockOf") (by decide +kernel) (Nat.le_of_ble_eq_true rfl) rfl rfl rfl ⟨rfl, rfl⟩ (fun K hK C => ?_)
  subst hK
  unfold fX8_stockOf
  show VX K g _ _ _ _ _ [(0, p_rf g o0), (1, .int i1)] _ _ _
  refine r_iload_n C dX8_stockOf_0 1 rfl ?_
  refine r_if_lt (tgt := 19) C dX8_stockOf_1 (by decide) ?_ ?_
  · refine r_iconst C dX8_stockOf_19 k_i0 ?_
    exact r_iret C dX8_stockOf_20
  · refine r_iload_n C dX8_stockOf_4 1 rfl ?_
    refine r_bipush C dX8_stockOf_5 k_b8 ?_
    refine r_icmp_ge (tgt := 19) C dX8_stockOf_7 (by decide) ?_ ?_
    · refine r_iconst C dX8_stockOf_19 k_i0 ?_
      exact r_iret C dX8_stockOf_20
    · refine r_aload_n C dX8_stockOf_10 0 rfl ?_
      refine r_gr C wf_X8_11_7 dX8_stockOf_11 (fun q1 => ?_)
      refine r_iload_n C dX8_stockOf_14 1 rfl ?_
      refine r_iald C dX8_stockOf_15 (fun x2 => ?_)
      refine r_goto (tgt := 20) C dX8_stockOf_16 (by decide) ?_
      exact r_iret C dX8_stockOf_20
set_option maxRecDepth 100000 in
set_option maxHeartbeats 4000000 in
theorem tcX8_holds (l : Launch) (g : WG) (hg : p_al g = false) (o0 : Nat) (i1 : Int32) (i2 : Int32) (h : PH) : CT l g 2 0 0 yX8_holds cX8_holds 3 (some .boolean) em_i [p_rf g o0, .int i1, .int i2] h (fX8_holds o0 i1 i2 h) := by
  refine CT_of (own := RX8) (nm := "holds") (by decide +kernel) (Nat.le_of_ble_eq_true rfl) rfl rfl rfl ⟨rfl, rfl⟩ (fun K hK C => ?_)
  subst hK
  unfold fX8_holds
  show VX K g _ _ _ _ _ [(0, p_rf g o0), (1, .int i1), (2, .int i2)] _ _ _
  refine r_aload_n C dX8_holds_0 0 rfl ?_
  refine r_iload_n C dX8_holds_1 1 rfl ?_
  refine r_iload_n C dX8_holds_2 2 rfl ?_
  refine r_cvi (As := [.int i1, .int i2]) (st := []) C wv_X8_37 (tcX8_daysHeld K.2.1 g hg o0 i1 i2 h) (Nat.le_of_ble_eq_true rfl) rfl rfl (Nat.le_of_ble_eq_true rfl) dX8_holds_3 ⟨Nat.le_of_ble_eq_true rfl, Nat.le_of_ble_eq_true rfl⟩ (fun x1 h2 => ?_)
  refine r_iconst C dX8_holds_6 k_im1 ?_
  refine r_icmp_eq (tgt := 14) C dX8_holds_7 (by decide) ?_ ?_
  · refine r_iconst C dX8_holds_14 k_i0 ?_
    exact r_zret C dX8_holds_15
  · refine r_iconst C dX8_holds_10 k_i1 ?_
    refine r_goto (tgt := 15) C dX8_holds_11 (by decide) ?_
    exact r_zret C dX8_holds_15
set_option maxRecDepth 100000 in
set_option maxHeartbeats 4000000 in
theorem tX4_free_J46_4 {K : AC} {g : WG} (hg : p_al g = false)  (C : Cx K g cX4_free 4 RX4 (some .int) "free" 3 0 0) (o0 : Nat) (i1 : Int32) (i3 : Int32) (s0 : Int32) (s1 : Int32)    {rc : Int32 → Int32 → PH → Option (Int32 × PH)} {kx : Int32 → PH → Option (Int32 × PH)} (hr : ∀ (i2' : Int32) (i3' : Int32) (h : PH), VX K g 4 0 0 (a_fin K g 0 0 em_i) 4 [(0, p_rf g o0), (1, .int i1), (2, .int i2'), (3, .int i3')] [] h (rc i2' i3' h)) (hk : ∀ (i2' : Int32) (h : PH), VX K g 4 0 0 (a_fin K g 0 0 em_i) 54 [(2, .int i2')] [] h (kx i2' h)) (h : PH) : VX K g 4 0 0 (a_fin K g 0 0 em_i) 46 [(0, p_rf g o0), (1, .int i1), (3, .int i3)] [.int s0, .int s1] h (fX4_free_J46_4 rc kx o0 i1 i3 s0 s1 h) := by
  unfold fX4_free_J46_4
  refine r_ior C dX4_free_46 ?_
  refine r_topi (fun x1 => ?_)
  refine r_istore_n (lv9 := [(2, .int x1), (0, p_rf g o0), (1, .int i1), (3, .int i3)]) C dX4_free_47 (by decide) rfl ?_
  refine r_iinc (lv' := [(2, .int x1), (0, p_rf g o0), (1, .int i1)]) C dX4_free_48 3 rfl k_i1 (by decide) (fun _ => rfl) (fun x2 => ?_)
  refine r_goto (tgt := 4) C dX4_free_51 (by decide) ?_
  refine r_perm (lv' := [(0, p_rf g o0), (1, .int i1), (2, .int x1), (3, .int x2)]) [2, 3, 1, 0] rfl ?_
  exact hr x1 x2 h
set_option maxRecDepth 100000 in
set_option maxHeartbeats 4000000 in
theorem tX4_free_J45_4 {K : AC} {g : WG} (hg : p_al g = false)  (C : Cx K g cX4_free 4 RX4 (some .int) "free" 3 0 0) (o0 : Nat) (i1 : Int32) (i3 : Int32) (s0 : Int32)    {rc : Int32 → Int32 → PH → Option (Int32 × PH)} {kx : Int32 → PH → Option (Int32 × PH)} (hr : ∀ (i2' : Int32) (i3' : Int32) (h : PH), VX K g 4 0 0 (a_fin K g 0 0 em_i) 4 [(0, p_rf g o0), (1, .int i1), (2, .int i2'), (3, .int i3')] [] h (rc i2' i3' h)) (hk : ∀ (i2' : Int32) (h : PH), VX K g 4 0 0 (a_fin K g 0 0 em_i) 54 [(2, .int i2')] [] h (kx i2' h)) (h : PH) : VX K g 4 0 0 (a_fin K g 0 0 em_i) 45 [(0, p_rf g o0), (1, .int i1), (3, .int i3)] [.int s0] h (fX4_free_J45_4 rc kx o0 i1 i3 s0 h) := by
  unfold fX4_free_J45_4
  refine r_iconst C dX4_free_45 k_i0 ?_
  exact tX4_free_J46_4 hg C o0 i1 i3 (0 : Int32) s0 hr hk h
set_option maxRecDepth 100000 in
set_option maxHeartbeats 4000000 in
theorem tX4_free_L4 {K : AC} {g : WG} (hg : p_al g = false)  (C : Cx K g cX4_free 4 RX4 (some .int) "free" 3 0 0) (o0 : Nat) (i1 : Int32) {kx : Int32 → PH → Option (Int32 × PH)} (hk : ∀ (i2 : Int32) (h : PH), VX K g 4 0 0 (a_fin K g 0 0 em_i) 54 [(2, .int i2)] [] h (kx i2 h)) : ∀ (n : Nat) (i2 : Int32) (i3 : Int32) (h : PH), VX K g 4 0 0 (a_fin K g 0 0 em_i) 4 [(0, p_rf g o0), (1, .int i1), (2, .int i2), (3, .int i3)] [] h (fX4_free_L4 o0 i1 kx n i2 i3 h) := by
  intro n
  induction n with
  | zero =>
    intros
    exact r_none
  | succ n ih =>
    intro i2 i3 h
    rw [fX4_free_L4]
    refine r_iload_n C dX4_free_4 3 rfl ?_
    refine r_aload_n C dX4_free_5 0 rfl ?_
    refine r_gr C wf_X4_39_3 dX4_free_6 (fun q1 => ?_)
    refine r_cvi (As := []) (st := [.int i3]) C wv_X4_60 (tcX0_groundSize K.2.1 g hg q1 h) (Nat.le_of_ble_eq_true rfl) rfl rfl (Nat.le_of_ble_eq_true rfl) dX4_free_9 ⟨Nat.le_of_ble_eq_true rfl, Nat.le_of_ble_eq_true rfl⟩ (fun x2 h3 => ?_)
    refine r_icmp_ge (tgt := 54) C dX4_free_12 (by decide) ?_ ?_
    · refine r_perm (lv' := [(2, .int i2)]) [2] rfl ?_
      exact hk i2 h3
    · refine r_iload_n C dX4_free_15 2 rfl ?_
      refine r_aload_n C dX4_free_16 0 rfl ?_
      refine r_gr C wf_X4_43_3 dX4_free_17 (fun q4 => ?_)
      refine r_iload_n C dX4_free_20 3 rfl ?_
      refine r_cvi (As := [.int i3]) (st := [.int i2]) C wv_X4_89 (tcX8_stockOf K.2.1 g hg q4 i3 h3) (Nat.le_of_ble_eq_true rfl) rfl rfl (Nat.le_of_ble_eq_true rfl) dX4_free_21 ⟨Nat.le_of_ble_eq_true rfl, Nat.le_of_ble_eq_true rfl⟩ (fun x5 h6 => ?_)
      refine r_if_le (tgt := 45) C dX4_free_24 (by decide) ?_ ?_
      · refine r_perm (lv' := [(0, p_rf g o0), (1, .int i1), (3, .int i3)]) [0, 1, 3] rfl ?_
        exact tX4_free_J45_4 hg C o0 i1 i3 i2 ih hk h6
      · refine r_aload_n C dX4_free_27 0 rfl ?_
        refine r_gr C wf_X4_43_3 dX4_free_28 (fun q7 => ?_)
        refine r_iload_n C dX4_free_31 1 rfl ?_
        refine r_iload_n C dX4_free_32 3 rfl ?_
        refine r_cvi (As := [.int i1, .int i3]) (st := [.int i2]) C wv_X4_92 (tcX8_holds K.2.1 g hg q7 i1 i3 h6) (Nat.le_of_ble_eq_true rfl) rfl rfl (Nat.le_of_ble_eq_true rfl) dX4_free_33 ⟨Nat.le_of_ble_eq_true rfl, Nat.le_of_ble_eq_true rfl⟩ (fun x8 h9 => ?_)
        refine r_if_ne (tgt := 45) C dX4_free_36 (by decide) ?_ ?_
        · refine r_perm (lv' := [(0, p_rf g o0), (1, .int i1), (3, .int i3)]) [0, 1, 3] rfl ?_
          exact tX4_free_J45_4 hg C o0 i1 i3 i2 ih hk h9
        · refine r_iconst C dX4_free_39 k_i1 ?_
          refine r_iload_n C dX4_free_40 3 rfl ?_
          refine r_ishl C dX4_free_41 ?_
          refine r_goto (tgt := 46) C dX4_free_42 (by decide) ?_
          refine r_perm (lv' := [(0, p_rf g o0), (1, .int i1), (3, .int i3)]) [0, 1, 3] rfl ?_
          exact tX4_free_J46_4 hg C o0 i1 i3 ((1 : Int32) <<< (i3 &&& 31)) i2 ih hk h9
set_option maxRecDepth 100000 in
set_option maxHeartbeats 4000000 in
theorem tcX4_free (l : Launch) (g : WG) (hg : p_al g = false) (o0 : Nat) (i1 : Int32) (h : PH) : CT l g 3 0 0 yX4_free cX4_free 4 (some .int) em_i [p_rf g o0, .int i1] h (fX4_free o0 i1 h) := by
  refine CT_of (own := RX4) (nm := "free") (by decide +kernel) (Nat.le_of_ble_eq_true rfl) rfl rfl rfl ⟨rfl, rfl⟩ (fun K hK C => ?_)
  subst hK
  unfold fX4_free
  show VX K g _ _ _ _ _ [(0, p_rf g o0), (1, .int i1)] _ _ _
  refine r_iconst C dX4_free_0 k_i0 ?_
  refine r_istore_n (lv9 := [(2, .int (0 : Int32)), (0, p_rf g o0), (1, .int i1)]) C dX4_free_1 (by decide) rfl ?_
  refine r_iconst C dX4_free_2 k_i0 ?_
  refine r_istore_n (lv9 := [(3, .int (0 : Int32)), (2, .int (0 : Int32)), (0, p_rf g o0), (1, .int i1)]) C dX4_free_3 (by decide) rfl ?_
  refine r_perm (lv' := [(0, p_rf g o0), (1, .int i1), (2, .int (0 : Int32)), (3, .int (0 : Int32))]) [2, 3, 1, 0] rfl ?_
  refine tX4_free_L4 hg C o0 i1 (fun x1 h2 => ?_) FU (0 : Int32) (0 : Int32) h
  refine r_iload_n C dX4_free_54 0 rfl ?_
  exact r_iret C dX4_free_55
set_option maxRecDepth 100000 in
set_option maxHeartbeats 4000000 in
theorem tX4_gradesOf_J36_4 {K : AC} {g : WG} (hg : p_al g = false)  (C : Cx K g cX4_gradesOf 4 RX4 (some .int) "gradesOf" 3 0 0) (o0 : Nat) (i1 : Int32) (i3 : Int32) (s0 : Int32) (s1 : Int32)    {rc : Int32 → Int32 → PH → Option (Int32 × PH)} {kx : Int32 → PH → Option (Int32 × PH)} (hr : ∀ (i2' : Int32) (i3' : Int32) (h : PH), VX K g 4 0 0 (a_fin K g 0 0 em_i) 4 [(0, p_rf g o0), (1, .int i1), (2, .int i2'), (3, .int i3')] [] h (rc i2' i3' h)) (hk : ∀ (i2' : Int32) (h : PH), VX K g 4 0 0 (a_fin K g 0 0 em_i) 44 [(2, .int i2')] [] h (kx i2' h)) (h : PH) : VX K g 4 0 0 (a_fin K g 0 0 em_i) 36 [(0, p_rf g o0), (1, .int i1), (3, .int i3)] [.int s0, .int s1] h (fX4_gradesOf_J36_4 rc kx o0 i1 i3 s0 s1 h) := by
  unfold fX4_gradesOf_J36_4
  refine r_iadd C dX4_gradesOf_36 ?_
  refine r_topi (fun x1 => ?_)
  refine r_istore_n (lv9 := [(2, .int x1), (0, p_rf g o0), (1, .int i1), (3, .int i3)]) C dX4_gradesOf_37 (by decide) rfl ?_
  refine r_iinc (lv' := [(2, .int x1), (0, p_rf g o0), (1, .int i1)]) C dX4_gradesOf_38 3 rfl k_i1 (by decide) (fun _ => rfl) (fun x2 => ?_)
  refine r_goto (tgt := 4) C dX4_gradesOf_41 (by decide) ?_
  refine r_perm (lv' := [(0, p_rf g o0), (1, .int i1), (2, .int x1), (3, .int x2)]) [2, 3, 1, 0] rfl ?_
  exact hr x1 x2 h
set_option maxRecDepth 100000 in
set_option maxHeartbeats 4000000 in
theorem tX4_gradesOf_L4 {K : AC} {g : WG} (hg : p_al g = false)  (C : Cx K g cX4_gradesOf 4 RX4 (some .int) "gradesOf" 3 0 0) (o0 : Nat) (i1 : Int32) {kx : Int32 → PH → Option (Int32 × PH)} (hk : ∀ (i2 : Int32) (h : PH), VX K g 4 0 0 (a_fin K g 0 0 em_i) 44 [(2, .int i2)] [] h (kx i2 h)) : ∀ (n : Nat) (i2 : Int32) (i3 : Int32) (h : PH), VX K g 4 0 0 (a_fin K g 0 0 em_i) 4 [(0, p_rf g o0), (1, .int i1), (2, .int i2), (3, .int i3)] [] h (fX4_gradesOf_L4 o0 i1 kx n i2 i3 h) := by
  intro n
  induction n with
  | zero =>
    intros
    exact r_none
  | succ n ih =>
    intro i2 i3 h
    rw [fX4_gradesOf_L4]
    refine r_iload_n C dX4_gradesOf_4 3 rfl ?_
    refine r_aload_n C dX4_gradesOf_5 0 rfl ?_
    refine r_gr C wf_X4_39_3 dX4_gradesOf_6 (fun q1 => ?_)
    refine r_cvi (As := []) (st := [.int i3]) C wv_X4_60 (tcX0_groundSize K.2.1 g hg q1 h) (Nat.le_of_ble_eq_true rfl) rfl rfl (Nat.le_of_ble_eq_true rfl) dX4_gradesOf_9 ⟨Nat.le_of_ble_eq_true rfl, Nat.le_of_ble_eq_true rfl⟩ (fun x2 h3 => ?_)
    refine r_icmp_ge (tgt := 44) C dX4_gradesOf_12 (by decide) ?_ ?_
    · refine r_perm (lv' := [(2, .int i2)]) [2] rfl ?_
      exact hk i2 h3
    · refine r_iload_n C dX4_gradesOf_15 2 rfl ?_
      refine r_iload_n C dX4_gradesOf_16 3 rfl ?_
      refine r_iload_n C dX4_gradesOf_17 1 rfl ?_
      refine r_cni (As := [.int i3, .int i1]) (st := [.int i2]) C wn_X4_66 (tcX11_isIn K.2.1 g hg i3 i1 h3) (Nat.le_of_ble_eq_true rfl) rfl rfl (Nat.le_of_ble_eq_true rfl) dX4_gradesOf_18 ⟨Nat.le_of_ble_eq_true rfl, Nat.le_of_ble_eq_true rfl⟩ (fun x4 h5 => ?_)
      refine r_if_eq (tgt := 35) C dX4_gradesOf_21 (by decide) ?_ ?_
      · refine r_iconst C dX4_gradesOf_35 k_i0 ?_
        refine r_perm (lv' := [(0, p_rf g o0), (1, .int i1), (3, .int i3)]) [0, 1, 3] rfl ?_
        exact tX4_gradesOf_J36_4 hg C o0 i1 i3 (0 : Int32) i2 ih hk h5
      · refine r_aload_n C dX4_gradesOf_24 0 rfl ?_
        refine r_gr C wf_X4_39_3 dX4_gradesOf_25 (fun q6 => ?_)
        refine r_iload_n C dX4_gradesOf_28 3 rfl ?_
        refine r_cvi (As := [.int i3]) (st := [.int i2]) C wv_X4_95 (tcX0_gradeOf K.2.1 g hg q6 i3 h5) (Nat.le_of_ble_eq_true rfl) rfl rfl (Nat.le_of_ble_eq_true rfl) dX4_gradesOf_29 ⟨Nat.le_of_ble_eq_true rfl, Nat.le_of_ble_eq_true rfl⟩ (fun x7 h8 => ?_)
        refine r_goto (tgt := 36) C dX4_gradesOf_32 (by decide) ?_
        refine r_perm (lv' := [(0, p_rf g o0), (1, .int i1), (3, .int i3)]) [0, 1, 3] rfl ?_
        exact tX4_gradesOf_J36_4 hg C o0 i1 i3 x7 i2 ih hk h8
set_option maxRecDepth 100000 in
set_option maxHeartbeats 4000000 in
theorem tcX4_gradesOf (l : Launch) (g : WG) (hg : p_al g = false) (o0 : Nat) (i1 : Int32) (h : PH) : CT l g 3 0 0 yX4_gradesOf cX4_gradesOf 4 (some .int) em_i [p_rf g o0, .int i1] h (fX4_gradesOf o0 i1 h) := by
  refine CT_of (own := RX4) (nm := "gradesOf") (by decide +kernel) (Nat.le_of_ble_eq_true rfl) rfl rfl rfl ⟨rfl, rfl⟩ (fun K hK C => ?_)
  subst hK
  unfold fX4_gradesOf
  show VX K g _ _ _ _ _ [(0, p_rf g o0), (1, .int i1)] _ _ _
  refine r_iconst C dX4_gradesOf_0 k_i0 ?_
  refine r_istore_n (lv9 := [(2, .int (0 : Int32)), (0, p_rf g o0), (1, .int i1)]) C dX4_gradesOf_1 (by decide) rfl ?_
  refine r_iconst C dX4_gradesOf_2 k_i0 ?_
  refine r_istore_n (lv9 := [(3, .int (0 : Int32)), (2, .int (0 : Int32)), (0, p_rf g o0), (1, .int i1)]) C dX4_gradesOf_3 (by decide) rfl ?_
  refine r_perm (lv' := [(0, p_rf g o0), (1, .int i1), (2, .int (0 : Int32)), (3, .int (0 : Int32))]) [2, 3, 1, 0] rfl ?_
  refine tX4_gradesOf_L4 hg C o0 i1 (fun x1 h2 => ?_) FU (0 : Int32) (0 : Int32) h
  refine r_iload_n C dX4_gradesOf_44 0 rfl ?_
  exact r_iret C dX4_gradesOf_45
set_option maxRecDepth 100000 in
set_option maxHeartbeats 4000000 in
theorem tX4_isLess_J39 {K : AC} {g : WG} (hg : p_al g = false)  (C : Cx K g cX4_isLess 4 RX4 (some .boolean) "isLess" 4 0 0)   (h : PH) : VX K g 4 0 0 (a_fin K g 0 0 em_i) 39 [] [] h (fX4_isLess_J39  h) := by
  unfold fX4_isLess_J39
  refine r_iconst C dX4_isLess_39 k_i1 ?_
  refine r_goto (tgt := 44) C dX4_isLess_40 (by decide) ?_
  exact r_zret C dX4_isLess_44
set_option maxRecDepth 100000 in
set_option maxHeartbeats 4000000 in
theorem tX4_isLess_J17 {K : AC} {g : WG} (hg : p_al g = false)  (C : Cx K g cX4_isLess 4 RX4 (some .boolean) "isLess" 4 0 0) (o0 : Nat) (i1 : Int32) (i2 : Int32) (s0 : Int32)  (h : PH) : VX K g 4 0 0 (a_fin K g 0 0 em_i) 17 [(0, p_rf g o0), (1, .int i1), (2, .int i2)] [.int s0] h (fX4_isLess_J17 o0 i1 i2 s0 h) := by
  unfold fX4_isLess_J17
  refine r_istore_n (lv9 := [(3, .int s0), (0, p_rf g o0), (1, .int i1), (2, .int i2)]) C dX4_isLess_17 (by decide) rfl ?_
  refine r_iload_n C dX4_isLess_18 0 rfl ?_
  refine r_if_lt (tgt := 39) C dX4_isLess_19 (by decide) ?_ ?_
  · refine r_perm (lv' := []) [] rfl ?_
    exact tX4_isLess_J39 hg C  h
  · refine r_iload_n C dX4_isLess_22 0 rfl ?_
    refine r_if_ne (tgt := 43) C dX4_isLess_23 (by decide) ?_ ?_
    · refine r_iconst C dX4_isLess_43 k_i0 ?_
      exact r_zret C dX4_isLess_44
    · refine r_aload_n C dX4_isLess_26 1 rfl ?_
      refine r_iload_n C dX4_isLess_27 2 rfl ?_
      refine r_cvi (As := [.int i1]) (st := []) C wv_X4_117 (tcX4_gradesOf K.2.1 g hg o0 i1 h) (Nat.le_of_ble_eq_true rfl) rfl rfl (Nat.le_of_ble_eq_true rfl) dX4_isLess_28 ⟨Nat.le_of_ble_eq_true rfl, Nat.le_of_ble_eq_true rfl⟩ (fun x1 h2 => ?_)
      refine r_aload_n C dX4_isLess_31 1 rfl ?_
      refine r_iload_n C dX4_isLess_32 3 rfl ?_
      refine r_cvi (As := [.int i2]) (st := [.int x1]) C wv_X4_117 (tcX4_gradesOf K.2.1 g hg o0 i2 h2) (Nat.le_of_ble_eq_true rfl) rfl rfl (Nat.le_of_ble_eq_true rfl) dX4_isLess_33 ⟨Nat.le_of_ble_eq_true rfl, Nat.le_of_ble_eq_true rfl⟩ (fun x3 h4 => ?_)
      refine r_icmp_ge (tgt := 43) C dX4_isLess_36 (by decide) ?_ ?_
      · refine r_iconst C dX4_isLess_43 k_i0 ?_
        exact r_zret C dX4_isLess_44
      · refine r_perm (lv' := []) [] rfl ?_
        exact tX4_isLess_J39 hg C  h4
set_option maxRecDepth 100000 in
set_option maxHeartbeats 4000000 in
theorem tcX4_isLess (l : Launch) (g : WG) (hg : p_al g = false) (o0 : Nat) (i1 : Int32) (i2 : Int32) (h : PH) : CT l g 4 0 0 yX4_isLess cX4_isLess 4 (some .boolean) em_i [p_rf g o0, .int i1, .int i2] h (fX4_isLess o0 i1 i2 h) := by
  refine CT_of (own := RX4) (nm := "isLess") (by decide +kernel) (Nat.le_of_ble_eq_true rfl) rfl rfl rfl ⟨rfl, rfl⟩ (fun K hK C => ?_)
  subst hK
  unfold fX4_isLess
  show VX K g _ _ _ _ _ [(0, p_rf g o0), (1, .int i1), (2, .int i2)] _ _ _
  refine r_iload_n C dX4_isLess_0 2 rfl ?_
  refine r_if_ge (tgt := 8) C dX4_isLess_1 (by decide) ?_ ?_
  · refine r_iload_n C dX4_isLess_8 1 rfl ?_
    refine r_csi (As := [.int i1]) (st := []) C ws_X4_120 (tcJ6_bitCount_0f7a4 K.2.1 g hg i1 h) (Nat.le_of_ble_eq_true rfl) rfl rfl (Nat.le_of_ble_eq_true rfl) dX4_isLess_9 ⟨Nat.le_of_ble_eq_true rfl, Nat.le_of_ble_eq_true rfl⟩ (fun x1 h2 => ?_)
    refine r_iload_n C dX4_isLess_12 2 rfl ?_
    refine r_csi (As := [.int i2]) (st := [.int x1]) C ws_X4_120 (tcJ6_bitCount_0f7a4 K.2.1 g hg i2 h2) (Nat.le_of_ble_eq_true rfl) rfl rfl (Nat.le_of_ble_eq_true rfl) dX4_isLess_13 ⟨Nat.le_of_ble_eq_true rfl, Nat.le_of_ble_eq_true rfl⟩ (fun x3 h4 => ?_)
    refine r_isub C dX4_isLess_16 ?_
    exact tX4_isLess_J17 hg C o0 i1 i2 (x1 - x3) h4
  · refine r_iconst C dX4_isLess_4 k_im1 ?_
    refine r_goto (tgt := 17) C dX4_isLess_5 (by decide) ?_
    exact tX4_isLess_J17 hg C o0 i1 i2 (-1 : Int32) h
