set_option maxRecDepth 100000 in
set_option maxHeartbeats 4000000 in
theorem tX4_fewestFor_J76_14 {K : AC} {g : WG} (hg : p_al g = false)  (C : Cx K g cX4_fewestFor 8 RX4 (some .int) "fewestFor" 7 0 0) (o0 : Nat) (i1 : Int32) (i2 : Int32) (i3 : Int32) (i4 : Int32) (i6 : Int32) (s0 : Int32)    {rc : Int32 → Int32 → PH → Option (Int32 × PH)} {kx : Int32 → PH → Option (Int32 × PH)} (hr : ∀ (i5' : Int32) (i6' : Int32) (h : PH), VX K g 8 0 0 (a_fin K g 0 0 em_i) 14 [(0, p_rf g o0), (1, .int i1), (2, .int i2), (3, .int i3), (4, .int i4), (5, .int i5'), (6, .int i6')] [] h (rc i5' i6' h)) (hk : ∀ (i5' : Int32) (h : PH), VX K g 8 0 0 (a_fin K g 0 0 em_i) 84 [(0, p_rf g o0), (5, .int i5')] [] h (kx i5' h)) (h : PH) : VX K g 8 0 0 (a_fin K g 0 0 em_i) 76 [(0, p_rf g o0), (1, .int i1), (2, .int i2), (3, .int i3), (4, .int i4), (6, .int i6)] [.int s0] h (fX4_fewestFor_J76_14 rc kx o0 i1 i2 i3 i4 i6 s0 h) := by
  unfold fX4_fewestFor_J76_14
  refine r_istore (lv9 := [(5, .int s0), (0, p_rf g o0), (1, .int i1), (2, .int i2), (3, .int i3), (4, .int i4), (6, .int i6)]) C dX4_fewestFor_76 (by decide) rfl ?_
  refine r_iinc (lv' := [(5, .int s0), (0, p_rf g o0), (1, .int i1), (2, .int i2), (3, .int i3), (4, .int i4)]) C dX4_fewestFor_78 6 rfl k_i1 (by decide) (fun _ => rfl) (fun x1 => ?_)
  refine r_goto (tgt := 14) C dX4_fewestFor_81 (by decide) ?_
  refine r_perm (lv' := [(0, p_rf g o0), (1, .int i1), (2, .int i2), (3, .int i3), (4, .int i4), (5, .int s0), (6, .int x1)]) [2, 3, 4, 5, 6, 1, 0] rfl ?_
  exact hr s0 x1 h
set_option maxRecDepth 100000 in
set_option maxHeartbeats 4000000 in
theorem tX4_fewestFor_J74_14 {K : AC} {g : WG} (hg : p_al g = false)  (C : Cx K g cX4_fewestFor 8 RX4 (some .int) "fewestFor" 7 0 0) (o0 : Nat) (i1 : Int32) (i2 : Int32) (i3 : Int32) (i4 : Int32) (i5 : Int32) (i6 : Int32)    {rc : Int32 → Int32 → PH → Option (Int32 × PH)} {kx : Int32 → PH → Option (Int32 × PH)} (hr : ∀ (i5' : Int32) (i6' : Int32) (h : PH), VX K g 8 0 0 (a_fin K g 0 0 em_i) 14 [(0, p_rf g o0), (1, .int i1), (2, .int i2), (3, .int i3), (4, .int i4), (5, .int i5'), (6, .int i6')] [] h (rc i5' i6' h)) (hk : ∀ (i5' : Int32) (h : PH), VX K g 8 0 0 (a_fin K g 0 0 em_i) 84 [(0, p_rf g o0), (5, .int i5')] [] h (kx i5' h)) (h : PH) : VX K g 8 0 0 (a_fin K g 0 0 em_i) 74 [(0, p_rf g o0), (1, .int i1), (2, .int i2), (3, .int i3), (4, .int i4), (5, .int i5), (6, .int i6)] [] h (fX4_fewestFor_J74_14 rc kx o0 i1 i2 i3 i4 i5 i6 h) := by
  unfold fX4_fewestFor_J74_14
  refine r_iload C dX4_fewestFor_74 5 rfl ?_
  refine r_perm (lv' := [(0, p_rf g o0), (1, .int i1), (2, .int i2), (3, .int i3), (4, .int i4), (6, .int i6)]) [0, 1, 2, 3, 4, 6] rfl ?_
  exact tX4_fewestFor_J76_14 hg C o0 i1 i2 i3 i4 i6 i5 hr hk h
set_option maxRecDepth 100000 in
set_option maxHeartbeats 4000000 in
theorem tX4_fewestFor_J47_14 {K : AC} {g : WG} (hg : p_al g = false)  (C : Cx K g cX4_fewestFor 8 RX4 (some .int) "fewestFor" 7 0 0) (o0 : Nat) (i1 : Int32) (i2 : Int32) (i3 : Int32) (i4 : Int32) (i5 : Int32) (i6 : Int32) (s0 : Int32)    {rc : Int32 → Int32 → PH → Option (Int32 × PH)} {kx : Int32 → PH → Option (Int32 × PH)} (hr : ∀ (i5' : Int32) (i6' : Int32) (h : PH), VX K g 8 0 0 (a_fin K g 0 0 em_i) 14 [(0, p_rf g o0), (1, .int i1), (2, .int i2), (3, .int i3), (4, .int i4), (5, .int i5'), (6, .int i6')] [] h (rc i5' i6' h)) (hk : ∀ (i5' : Int32) (h : PH), VX K g 8 0 0 (a_fin K g 0 0 em_i) 84 [(0, p_rf g o0), (5, .int i5')] [] h (kx i5' h)) (h : PH) : VX K g 8 0 0 (a_fin K g 0 0 em_i) 47 [(0, p_rf g o0), (1, .int i1), (2, .int i2), (3, .int i3), (4, .int i4), (5, .int i5), (6, .int i6)] [.int s0] h (fX4_fewestFor_J47_14 rc kx o0 i1 i2 i3 i4 i5 i6 s0 h) := by
  unfold fX4_fewestFor_J47_14
  refine r_istore (lv9 := [(7, .int s0), (0, p_rf g o0), (1, .int i1), (2, .int i2), (3, .int i3), (4, .int i4), (5, .int i5), (6, .int i6)]) C dX4_fewestFor_47 (by decide) rfl ?_
  refine r_iload C dX4_fewestFor_49 0 rfl ?_
  refine r_if_eq (tgt := 74) C dX4_fewestFor_51 (by decide) ?_ ?_
  · refine r_perm (lv' := [(0, p_rf g o0), (1, .int i1), (2, .int i2), (3, .int i3), (4, .int i4), (5, .int i5), (6, .int i6)]) [1, 2, 3, 4, 5, 6, 7] rfl ?_
    exact tX4_fewestFor_J74_14 hg C o0 i1 i2 i3 i4 i5 i6 hr hk h
  · refine r_iload_n C dX4_fewestFor_54 3 rfl ?_
    refine r_aload_n C dX4_fewestFor_55 1 rfl ?_
    refine r_iload_n C dX4_fewestFor_56 2 rfl ?_
    refine r_iload C dX4_fewestFor_57 7 rfl ?_
    refine r_iload_n C dX4_fewestFor_59 4 rfl ?_
    refine r_cvi (As := [.int i1, .int i6, .int i3]) (st := [.int i2]) C wv_X4_104 (tcX4_wantsWith K.2.1 g hg o0 i1 i6 i3 h) (Nat.le_of_ble_eq_true rfl) rfl rfl (Nat.le_of_ble_eq_true rfl) dX4_fewestFor_60 ⟨Nat.le_of_ble_eq_true rfl, Nat.le_of_ble_eq_true rfl⟩ (fun x1 h2 => ?_)
    refine r_cni (As := [.int i2, .int x1]) (st := []) C wn_X4_66 (tcX11_isIn K.2.1 g hg i2 x1 h2) (Nat.le_of_ble_eq_true rfl) rfl rfl (Nat.le_of_ble_eq_true rfl) dX4_fewestFor_63 ⟨Nat.le_of_ble_eq_true rfl, Nat.le_of_ble_eq_true rfl⟩ (fun x3 h4 => ?_)
    refine r_if_eq (tgt := 74) C dX4_fewestFor_66 (by decide) ?_ ?_
    · refine r_perm (lv' := [(0, p_rf g o0), (1, .int i1), (2, .int i2), (3, .int i3), (4, .int i4), (5, .int i5), (6, .int i6)]) [1, 2, 3, 4, 5, 6, 7] rfl ?_
      exact tX4_fewestFor_J74_14 hg C o0 i1 i2 i3 i4 i5 i6 hr hk h4
    · refine r_iload C dX4_fewestFor_69 7 rfl ?_
      refine r_goto (tgt := 76) C dX4_fewestFor_71 (by decide) ?_
      refine r_perm (lv' := [(0, p_rf g o0), (1, .int i1), (2, .int i2), (3, .int i3), (4, .int i4), (6, .int i6)]) [1, 2, 3, 4, 5, 7] rfl ?_
      exact tX4_fewestFor_J76_14 hg C o0 i1 i2 i3 i4 i6 i6 hr hk h4
set_option maxRecDepth 100000 in
set_option maxHeartbeats 4000000 in
theorem tX4_fewestFor_J46_14 {K : AC} {g : WG} (hg : p_al g = false)  (C : Cx K g cX4_fewestFor 8 RX4 (some .int) "fewestFor" 7 0 0) (o0 : Nat) (i1 : Int32) (i2 : Int32) (i3 : Int32) (i4 : Int32) (i5 : Int32) (i6 : Int32)    {rc : Int32 → Int32 → PH → Option (Int32 × PH)} {kx : Int32 → PH → Option (Int32 × PH)} (hr : ∀ (i5' : Int32) (i6' : Int32) (h : PH), VX K g 8 0 0 (a_fin K g 0 0 em_i) 14 [(0, p_rf g o0), (1, .int i1), (2, .int i2), (3, .int i3), (4, .int i4), (5, .int i5'), (6, .int i6')] [] h (rc i5' i6' h)) (hk : ∀ (i5' : Int32) (h : PH), VX K g 8 0 0 (a_fin K g 0 0 em_i) 84 [(0, p_rf g o0), (5, .int i5')] [] h (kx i5' h)) (h : PH) : VX K g 8 0 0 (a_fin K g 0 0 em_i) 46 [(0, p_rf g o0), (1, .int i1), (2, .int i2), (3, .int i3), (4, .int i4), (5, .int i5), (6, .int i6)] [] h (fX4_fewestFor_J46_14 rc kx o0 i1 i2 i3 i4 i5 i6 h) := by
  unfold fX4_fewestFor_J46_14
  refine r_iconst C dX4_fewestFor_46 k_i0 ?_
  exact tX4_fewestFor_J47_14 hg C o0 i1 i2 i3 i4 i5 i6 (0 : Int32) hr hk h
set_option maxRecDepth 100000 in
set_option maxHeartbeats 4000000 in
theorem tX4_fewestFor_L14 {K : AC} {g : WG} (hg : p_al g = false)  (C : Cx K g cX4_fewestFor 8 RX4 (some .int) "fewestFor" 7 0 0) (o0 : Nat) (i1 : Int32) (i2 : Int32) (i3 : Int32) (i4 : Int32) {kx : Int32 → PH → Option (Int32 × PH)} (hk : ∀ (i5 : Int32) (h : PH), VX K g 8 0 0 (a_fin K g 0 0 em_i) 84 [(0, p_rf g o0), (5, .int i5)] [] h (kx i5 h)) : ∀ (n : Nat) (i5 : Int32) (i6 : Int32) (h : PH), VX K g 8 0 0 (a_fin K g 0 0 em_i) 14 [(0, p_rf g o0), (1, .int i1), (2, .int i2), (3, .int i3), (4, .int i4), (5, .int i5), (6, .int i6)] [] h (fX4_fewestFor_L14 o0 i1 i2 i3 i4 kx n i5 i6 h) := by
  intro n
  induction n with
  | zero =>
    intros
    exact r_none
  | succ n ih =>
    intro i5 i6 h
    rw [fX4_fewestFor_L14]
    refine r_iload C dX4_fewestFor_14 6 rfl ?_
    refine r_iload C dX4_fewestFor_16 4 rfl ?_
    refine r_icmp_gt (tgt := 84) C dX4_fewestFor_18 (by decide) ?_ ?_
    · refine r_perm (lv' := [(0, p_rf g o0), (5, .int i5)]) [0, 5] rfl ?_
      exact hk i5 h
    · refine r_iload C dX4_fewestFor_21 6 rfl ?_
      refine r_iload C dX4_fewestFor_23 4 rfl ?_
      refine r_iconst C dX4_fewestFor_25 k_im1 ?_
      refine r_ixor C dX4_fewestFor_26 ?_
      refine r_iand C dX4_fewestFor_27 ?_
      refine r_if_ne (tgt := 46) C dX4_fewestFor_28 (by decide) ?_ ?_
      · exact tX4_fewestFor_J46_14 hg C o0 i1 i2 i3 i4 i5 i6 ih hk h
      · refine r_aload_n C dX4_fewestFor_31 0 rfl ?_
        refine r_iload C dX4_fewestFor_32 6 rfl ?_
        refine r_iload C dX4_fewestFor_34 5 rfl ?_
        refine r_cvi (As := [.int i6, .int i5]) (st := []) C wv_X4_101 (tcX4_isLess K.2.1 g hg o0 i6 i5 h) (Nat.le_of_ble_eq_true rfl) rfl rfl (Nat.le_of_ble_eq_true rfl) dX4_fewestFor_36 ⟨Nat.le_of_ble_eq_true rfl, Nat.le_of_ble_eq_true rfl⟩ (fun x1 h2 => ?_)
        refine r_if_eq (tgt := 46) C dX4_fewestFor_39 (by decide) ?_ ?_
        · exact tX4_fewestFor_J46_14 hg C o0 i1 i2 i3 i4 i5 i6 ih hk h2
        · refine r_iconst C dX4_fewestFor_42 k_i1 ?_
          refine r_goto (tgt := 47) C dX4_fewestFor_43 (by decide) ?_
          exact tX4_fewestFor_J47_14 hg C o0 i1 i2 i3 i4 i5 i6 (1 : Int32) ih hk h2
set_option maxRecDepth 100000 in
set_option maxHeartbeats 4000000 in
theorem tcX4_fewestFor (l : Launch) (g : WG) (hg : p_al g = false) (o0 : Nat) (i1 : Int32) (i2 : Int32) (i3 : Int32) (h : PH) : CT l g 7 0 0 yX4_fewestFor cX4_fewestFor 8 (some .int) em_i [p_rf g o0, .int i1, .int i2, .int i3] h (fX4_fewestFor o0 i1 i2 i3 h) := by
  refine CT_of (own := RX4) (nm := "fewestFor") (by decide +kernel) (Nat.le_of_ble_eq_true rfl) rfl rfl rfl ⟨rfl, rfl⟩ (fun K hK C => ?_)
  subst hK
  unfold fX4_fewestFor
  show VX K g _ _ _ _ _ [(0, p_rf g o0), (1, .int i1), (2, .int i2), (3, .int i3)] _ _ _
  refine r_aload_n C dX4_fewestFor_0 0 rfl ?_
  refine r_iload_n C dX4_fewestFor_1 1 rfl ?_
  refine r_cvi (As := [.int i1]) (st := []) C wv_X4_98 (tcX4_free K.2.1 g hg o0 i1 h) (Nat.le_of_ble_eq_true rfl) rfl rfl (Nat.le_of_ble_eq_true rfl) dX4_fewestFor_2 ⟨Nat.le_of_ble_eq_true rfl, Nat.le_of_ble_eq_true rfl⟩ (fun x1 h2 => ?_)
  refine r_istore (lv9 := [(4, .int x1), (0, p_rf g o0), (1, .int i1), (2, .int i2), (3, .int i3)]) C dX4_fewestFor_5 (by decide) rfl ?_
  refine r_bipush C dX4_fewestFor_7 k_bm2 ?_
  refine r_istore (lv9 := [(5, .int (-2 : Int32)), (4, .int x1), (0, p_rf g o0), (1, .int i1), (2, .int i2), (3, .int i3)]) C dX4_fewestFor_9 (by decide) rfl ?_
  refine r_iconst C dX4_fewestFor_11 k_i0 ?_
  refine r_istore (lv9 := [(6, .int (0 : Int32)), (5, .int (-2 : Int32)), (4, .int x1), (0, p_rf g o0), (1, .int i1), (2, .int i2), (3, .int i3)]) C dX4_fewestFor_12 (by decide) rfl ?_
  refine r_perm (lv' := [(0, p_rf g o0), (1, .int i1), (2, .int i2), (3, .int i3), (4, .int x1), (5, .int (-2 : Int32)), (6, .int (0 : Int32))]) [3, 4, 5, 6, 2, 1, 0] rfl ?_
  refine tX4_fewestFor_L14 hg C o0 i1 i2 i3 x1 (fun x3 h4 => ?_) FU (-2 : Int32) (0 : Int32) h2
  refine r_iload C dX4_fewestFor_84 1 rfl ?_
  refine r_if_ge (tgt := 92) C dX4_fewestFor_86 (by decide) ?_ ?_
  · refine r_aload_n C dX4_fewestFor_92 0 rfl ?_
    refine r_gr C wf_X4_50_3 dX4_fewestFor_93 (fun q5 => ?_)
    refine r_cvv (As := []) (st := []) C wv_X4_108 (tcX3_start K.2.1 g hg q5 h4) (Nat.le_of_ble_eq_true rfl) rfl rfl (Nat.le_of_ble_eq_true rfl) dX4_fewestFor_96 ⟨Nat.le_of_ble_eq_true rfl, Nat.le_of_ble_eq_true rfl⟩ (fun h6 => ?_)
    refine r_aload_n C dX4_fewestFor_99 0 rfl ?_
    refine r_gr C wf_X4_50_3 dX4_fewestFor_100 (fun q7 => ?_)
    refine r_iload C dX4_fewestFor_103 1 rfl ?_
    refine r_i2l C dX4_fewestFor_105 ?_
    refine r_cvv (As := [.long (x3.toInt64)]) (st := []) C wv_X4_113 (tcX3_add K.2.1 g hg q7 (x3.toInt64) h6) (Nat.le_of_ble_eq_true rfl) rfl rfl (Nat.le_of_ble_eq_true rfl) dX4_fewestFor_106 ⟨Nat.le_of_ble_eq_true rfl, Nat.le_of_ble_eq_true rfl⟩ (fun h8 => ?_)
    refine r_aload_n C dX4_fewestFor_109 0 rfl ?_
    refine r_gr C wf_X4_50_3 dX4_fewestFor_110 (fun q9 => ?_)
    refine r_aload_n C dX4_fewestFor_113 0 rfl ?_
    refine r_iload C dX4_fewestFor_114 1 rfl ?_
    refine r_cvi (As := [.int x3]) (st := [p_rf g q9]) C wv_X4_117 (tcX4_gradesOf K.2.1 g hg o0 x3 h8) (Nat.le_of_ble_eq_true rfl) rfl rfl (Nat.le_of_ble_eq_true rfl) dX4_fewestFor_116 ⟨Nat.le_of_ble_eq_true rfl, Nat.le_of_ble_eq_true rfl⟩ (fun x10 h11 => ?_)
    refine r_i2l C dX4_fewestFor_119 ?_
    refine r_cvv (As := [.long (x10.toInt64)]) (st := []) C wv_X4_113 (tcX3_add K.2.1 g hg q9 (x10.toInt64) h11) (Nat.le_of_ble_eq_true rfl) rfl rfl (Nat.le_of_ble_eq_true rfl) dX4_fewestFor_120 ⟨Nat.le_of_ble_eq_true rfl, Nat.le_of_ble_eq_true rfl⟩ (fun h12 => ?_)
    refine r_iload C dX4_fewestFor_123 1 rfl ?_
    refine r_csi (As := [.int x3]) (st := []) C ws_X4_120 (tcJ6_bitCount_0f7a4 K.2.1 g hg x3 h12) (Nat.le_of_ble_eq_true rfl) rfl rfl (Nat.le_of_ble_eq_true rfl) dX4_fewestFor_125 ⟨Nat.le_of_ble_eq_true rfl, Nat.le_of_ble_eq_true rfl⟩ (fun x13 h14 => ?_)
    exact r_iret C dX4_fewestFor_128
  · refine r_bipush C dX4_fewestFor_89 k_bm2 ?_
    exact r_iret C dX4_fewestFor_91
set_option maxRecDepth 100000 in
set_option maxHeartbeats 4000000 in
theorem tX4_bestServing_J75_16 {K : AC} {g : WG} (hg : p_al g = false)  (C : Cx K g cX4_bestServing 8 RX4 (some .int) "bestServing" 7 0 0) (o0 : Nat) (i1 : Int32) (i2 : Int32) (i3 : Int32) (i4 : Int32) (i5 : Int32) (i6 : Int32)    {rc : Int32 → Int32 → Int32 → PH → Option (Int32 × PH)} {kx : Int32 → Int32 → PH → Option (Int32 × PH)} (hr : ∀ (i4' : Int32) (i5' : Int32) (i6' : Int32) (h : PH), VX K g 8 0 0 (a_fin K g 0 0 em_i) 16 [(0, p_rf g o0), (1, .int i1), (2, .int i2), (3, .int i3), (4, .int i4'), (5, .int i5'), (6, .int i6')] [] h (rc i4' i5' i6' h)) (hk : ∀ (i4' : Int32) (i5' : Int32) (h : PH), VX K g 8 0 0 (a_fin K g 0 0 em_i) 81 [(0, p_rf g o0), (1, .int i1), (2, .int i2), (4, .int i4'), (5, .int i5')] [] h (kx i4' i5' h)) (h : PH) : VX K g 8 0 0 (a_fin K g 0 0 em_i) 75 [(0, p_rf g o0), (1, .int i1), (2, .int i2), (3, .int i3), (4, .int i4), (5, .int i5), (6, .int i6)] [] h (fX4_bestServing_J75_16 rc kx o0 i1 i2 i3 i4 i5 i6 h) := by
  unfold fX4_bestServing_J75_16
  refine r_iinc (lv' := [(0, p_rf g o0), (1, .int i1), (2, .int i2), (3, .int i3), (4, .int i4), (5, .int i5)]) C dX4_bestServing_75 6 rfl k_i1 (by decide) (fun _ => rfl) (fun x1 => ?_)
  refine r_goto (tgt := 16) C dX4_bestServing_78 (by decide) ?_
  refine r_perm (lv' := [(0, p_rf g o0), (1, .int i1), (2, .int i2), (3, .int i3), (4, .int i4), (5, .int i5), (6, .int x1)]) [1, 2, 3, 4, 5, 6, 0] rfl ?_
  exact hr i4 i5 x1 h
set_option maxRecDepth 100000 in
set_option maxHeartbeats 4000000 in
theorem tX4_bestServing_J67_16 {K : AC} {g : WG} (hg : p_al g = false)  (C : Cx K g cX4_bestServing 8 RX4 (some .int) "bestServing" 7 0 0) (o0 : Nat) (i1 : Int32) (i2 : Int32) (i3 : Int32) (i6 : Int32) (i7 : Int32)    {rc : Int32 → Int32 → Int32 → PH → Option (Int32 × PH)} {kx : Int32 → Int32 → PH → Option (Int32 × PH)} (hr : ∀ (i4' : Int32) (i5' : Int32) (i6' : Int32) (h : PH), VX K g 8 0 0 (a_fin K g 0 0 em_i) 16 [(0, p_rf g o0), (1, .int i1), (2, .int i2), (3, .int i3), (4, .int i4'), (5, .int i5'), (6, .int i6')] [] h (rc i4' i5' i6' h)) (hk : ∀ (i4' : Int32) (i5' : Int32) (h : PH), VX K g 8 0 0 (a_fin K g 0 0 em_i) 81 [(0, p_rf g o0), (1, .int i1), (2, .int i2), (4, .int i4'), (5, .int i5')] [] h (kx i4' i5' h)) (h : PH) : VX K g 8 0 0 (a_fin K g 0 0 em_i) 67 [(0, p_rf g o0), (1, .int i1), (2, .int i2), (3, .int i3), (6, .int i6), (7, .int i7)] [] h (fX4_bestServing_J67_16 rc kx o0 i1 i2 i3 i6 i7 h) := by
  unfold fX4_bestServing_J67_16
  refine r_iload C dX4_bestServing_67 4 rfl ?_
  refine r_istore (lv9 := [(4, .int i6), (0, p_rf g o0), (1, .int i1), (2, .int i2), (3, .int i3), (6, .int i6), (7, .int i7)]) C dX4_bestServing_69 (by decide) rfl ?_
  refine r_iload C dX4_bestServing_71 6 rfl ?_
  refine r_istore (lv9 := [(5, .int i7), (4, .int i6), (0, p_rf g o0), (1, .int i1), (2, .int i2), (3, .int i3), (6, .int i6), (7, .int i7)]) C dX4_bestServing_73 (by decide) rfl ?_
  refine r_perm (lv' := [(0, p_rf g o0), (1, .int i1), (2, .int i2), (3, .int i3), (4, .int i6), (5, .int i7), (6, .int i6)]) [2, 3, 4, 5, 1, 0, 6] rfl ?_
  exact tX4_bestServing_J75_16 hg C o0 i1 i2 i3 i6 i7 i6 hr hk h
set_option maxRecDepth 100000 in
set_option maxHeartbeats 4000000 in
theorem tX4_bestServing_L16 {K : AC} {g : WG} (hg : p_al g = false)  (C : Cx K g cX4_bestServing 8 RX4 (some .int) "bestServing" 7 0 0) (o0 : Nat) (i1 : Int32) (i2 : Int32) (i3 : Int32) {kx : Int32 → Int32 → PH → Option (Int32 × PH)} (hk : ∀ (i4 : Int32) (i5 : Int32) (h : PH), VX K g 8 0 0 (a_fin K g 0 0 em_i) 81 [(0, p_rf g o0), (1, .int i1), (2, .int i2), (4, .int i4), (5, .int i5)] [] h (kx i4 i5 h)) : ∀ (n : Nat) (i4 : Int32) (i5 : Int32) (i6 : Int32) (h : PH), VX K g 8 0 0 (a_fin K g 0 0 em_i) 16 [(0, p_rf g o0), (1, .int i1), (2, .int i2), (3, .int i3), (4, .int i4), (5, .int i5), (6, .int i6)] [] h (fX4_bestServing_L16 o0 i1 i2 i3 kx n i4 i5 i6 h) := by
  intro n
  induction n with
  | zero =>
    intros
    exact r_none
  | succ n ih =>
    intro i4 i5 i6 h
    rw [fX4_bestServing_L16]
    refine r_iload C dX4_bestServing_16 6 rfl ?_
    refine r_aload_n C dX4_bestServing_18 0 rfl ?_
    refine r_gr C wf_X4_39_3 dX4_bestServing_19 (fun q1 => ?_)
    refine r_cvi (As := []) (st := [.int i6]) C wv_X4_60 (tcX0_groundSize K.2.1 g hg q1 h) (Nat.le_of_ble_eq_true rfl) rfl rfl (Nat.le_of_ble_eq_true rfl) dX4_bestServing_22 ⟨Nat.le_of_ble_eq_true rfl, Nat.le_of_ble_eq_true rfl⟩ (fun x2 h3 => ?_)
    refine r_icmp_ge (tgt := 81) C dX4_bestServing_25 (by decide) ?_ ?_
    · refine r_perm (lv' := [(0, p_rf g o0), (1, .int i1), (2, .int i2), (4, .int i4), (5, .int i5)]) [0, 1, 2, 4, 5] rfl ?_
      exact hk i4 i5 h3
    · refine r_iload C dX4_bestServing_28 6 rfl ?_
      refine r_iload_n C dX4_bestServing_30 3 rfl ?_
      refine r_cni (As := [.int i6, .int i3]) (st := []) C wn_X4_66 (tcX11_isIn K.2.1 g hg i6 i3 h3) (Nat.le_of_ble_eq_true rfl) rfl rfl (Nat.le_of_ble_eq_true rfl) dX4_bestServing_31 ⟨Nat.le_of_ble_eq_true rfl, Nat.le_of_ble_eq_true rfl⟩ (fun x4 h5 => ?_)
      refine r_if_eq (tgt := 75) C dX4_bestServing_34 (by decide) ?_ ?_
      · exact tX4_bestServing_J75_16 hg C o0 i1 i2 i3 i4 i5 i6 ih hk h5
      · refine r_aload_n C dX4_bestServing_37 0 rfl ?_
        refine r_iload_n C dX4_bestServing_38 1 rfl ?_
        refine r_iconst C dX4_bestServing_39 k_i1 ?_
        refine r_iload C dX4_bestServing_40 6 rfl ?_
        refine r_ishl C dX4_bestServing_42 ?_
        refine r_iload_n C dX4_bestServing_43 2 rfl ?_
        refine r_cvi (As := [.int i1, .int ((1 : Int32) <<< (i6 &&& 31)), .int i2]) (st := []) C wv_X4_104 (tcX4_wantsWith K.2.1 g hg o0 i1 ((1 : Int32) <<< (i6 &&& 31)) i2 h5) (Nat.le_of_ble_eq_true rfl) rfl rfl (Nat.le_of_ble_eq_true rfl) dX4_bestServing_44 ⟨Nat.le_of_ble_eq_true rfl, Nat.le_of_ble_eq_true rfl⟩ (fun x6 h7 => ?_)
        refine r_istore (lv9 := [(7, .int x6), (0, p_rf g o0), (1, .int i1), (2, .int i2), (3, .int i3), (4, .int i4), (5, .int i5), (6, .int i6)]) C dX4_bestServing_47 (by decide) rfl ?_
        refine r_iload C dX4_bestServing_49 5 rfl ?_
        refine r_if_lt (tgt := 67) C dX4_bestServing_51 (by decide) ?_ ?_
        · refine r_perm (lv' := [(0, p_rf g o0), (1, .int i1), (2, .int i2), (3, .int i3), (6, .int i6), (7, .int x6)]) [1, 2, 3, 4, 7, 0] rfl ?_
          exact tX4_bestServing_J67_16 hg C o0 i1 i2 i3 i6 x6 ih hk h7
        · refine r_iload C dX4_bestServing_54 0 rfl ?_
          refine r_csi (As := [.int x6]) (st := []) C ws_X4_120 (tcJ6_bitCount_0f7a4 K.2.1 g hg x6 h7) (Nat.le_of_ble_eq_true rfl) rfl rfl (Nat.le_of_ble_eq_true rfl) dX4_bestServing_56 ⟨Nat.le_of_ble_eq_true rfl, Nat.le_of_ble_eq_true rfl⟩ (fun x8 h9 => ?_)
          refine r_iload C dX4_bestServing_59 6 rfl ?_
          refine r_csi (As := [.int i5]) (st := [.int x8]) C ws_X4_120 (tcJ6_bitCount_0f7a4 K.2.1 g hg i5 h9) (Nat.le_of_ble_eq_true rfl) rfl rfl (Nat.le_of_ble_eq_true rfl) dX4_bestServing_61 ⟨Nat.le_of_ble_eq_true rfl, Nat.le_of_ble_eq_true rfl⟩ (fun x10 h11 => ?_)
          refine r_icmp_le (tgt := 75) C dX4_bestServing_64 (by decide) ?_ ?_
          · refine r_perm (lv' := [(0, p_rf g o0), (1, .int i1), (2, .int i2), (3, .int i3), (4, .int i4), (5, .int i5), (6, .int i6)]) [1, 2, 3, 4, 5, 6, 7] rfl ?_
            exact tX4_bestServing_J75_16 hg C o0 i1 i2 i3 i4 i5 i6 ih hk h11
          · refine r_perm (lv' := [(0, p_rf g o0), (1, .int i1), (2, .int i2), (3, .int i3), (6, .int i6), (7, .int x6)]) [1, 2, 3, 4, 7, 0] rfl ?_
            exact tX4_bestServing_J67_16 hg C o0 i1 i2 i3 i6 x6 ih hk h11
set_option maxRecDepth 100000 in
set_option maxHeartbeats 4000000 in
theorem tcX4_bestServing (l : Launch) (g : WG) (hg : p_al g = false) (o0 : Nat) (i1 : Int32) (i2 : Int32) (h : PH) : CT l g 7 0 0 yX4_bestServing cX4_bestServing 8 (some .int) em_i [p_rf g o0, .int i1, .int i2] h (fX4_bestServing o0 i1 i2 h) := by
  refine CT_of (own := RX4) (nm := "bestServing") (by decide +kernel) (Nat.le_of_ble_eq_true rfl) rfl rfl rfl ⟨rfl, rfl⟩ (fun K hK C => ?_)
  subst hK
  unfold fX4_bestServing
  show VX K g _ _ _ _ _ [(0, p_rf g o0), (1, .int i1), (2, .int i2)] _ _ _
  refine r_aload_n C dX4_bestServing_0 0 rfl ?_
  refine r_iload_n C dX4_bestServing_1 1 rfl ?_
  refine r_cvi (As := [.int i1]) (st := []) C wv_X4_98 (tcX4_free K.2.1 g hg o0 i1 h) (Nat.le_of_ble_eq_true rfl) rfl rfl (Nat.le_of_ble_eq_true rfl) dX4_bestServing_2 ⟨Nat.le_of_ble_eq_true rfl, Nat.le_of_ble_eq_true rfl⟩ (fun x1 h2 => ?_)
  refine r_istore_n (lv9 := [(3, .int x1), (0, p_rf g o0), (1, .int i1), (2, .int i2)]) C dX4_bestServing_5 (by decide) rfl ?_
  refine r_bipush C dX4_bestServing_6 k_bm2 ?_
  refine r_istore (lv9 := [(4, .int (-2 : Int32)), (3, .int x1), (0, p_rf g o0), (1, .int i1), (2, .int i2)]) C dX4_bestServing_8 (by decide) rfl ?_
  refine r_iconst C dX4_bestServing_10 k_i0 ?_
  refine r_istore (lv9 := [(5, .int (0 : Int32)), (4, .int (-2 : Int32)), (3, .int x1), (0, p_rf g o0), (1, .int i1), (2, .int i2)]) C dX4_bestServing_11 (by decide) rfl ?_
  refine r_iconst C dX4_bestServing_13 k_i0 ?_
  refine r_istore (lv9 := [(6, .int (0 : Int32)), (5, .int (0 : Int32)), (4, .int (-2 : Int32)), (3, .int x1), (0, p_rf g o0), (1, .int i1), (2, .int i2)]) C dX4_bestServing_14 (by decide) rfl ?_
  refine r_perm (lv' := [(0, p_rf g o0), (1, .int i1), (2, .int i2), (3, .int x1), (4, .int (-2 : Int32)), (5, .int (0 : Int32)), (6, .int (0 : Int32))]) [4, 5, 6, 3, 2, 1, 0] rfl ?_
  refine tX4_bestServing_L16 hg C o0 i1 i2 x1 (fun x3 x4 h5 => ?_) FU (-2 : Int32) (0 : Int32) (0 : Int32) h2
  refine r_iload C dX4_bestServing_81 3 rfl ?_
  refine r_if_lt (tgt := 118) C dX4_bestServing_83 (by decide) ?_ ?_
  · refine r_iload C dX4_bestServing_118 3 rfl ?_
    exact r_iret C dX4_bestServing_120
  · refine r_aload_n C dX4_bestServing_86 0 rfl ?_
    refine r_gr C wf_X4_50_3 dX4_bestServing_87 (fun q6 => ?_)
    refine r_cvv (As := []) (st := []) C wv_X4_108 (tcX3_start K.2.1 g hg q6 h5) (Nat.le_of_ble_eq_true rfl) rfl rfl (Nat.le_of_ble_eq_true rfl) dX4_bestServing_90 ⟨Nat.le_of_ble_eq_true rfl, Nat.le_of_ble_eq_true rfl⟩ (fun h7 => ?_)
    refine r_aload_n C dX4_bestServing_93 0 rfl ?_
    refine r_gr C wf_X4_50_3 dX4_bestServing_94 (fun q8 => ?_)
    refine r_iload C dX4_bestServing_97 4 rfl ?_
    refine r_i2l C dX4_bestServing_99 ?_
    refine r_cvv (As := [.long (x4.toInt64)]) (st := []) C wv_X4_113 (tcX3_add K.2.1 g hg q8 (x4.toInt64) h7) (Nat.le_of_ble_eq_true rfl) rfl rfl (Nat.le_of_ble_eq_true rfl) dX4_bestServing_100 ⟨Nat.le_of_ble_eq_true rfl, Nat.le_of_ble_eq_true rfl⟩ (fun h9 => ?_)
    refine r_aload_n C dX4_bestServing_103 0 rfl ?_
    refine r_gr C wf_X4_50_3 dX4_bestServing_104 (fun q10 => ?_)
    refine r_aload_n C dX4_bestServing_107 0 rfl ?_
    refine r_iload_n C dX4_bestServing_108 1 rfl ?_
    refine r_iconst C dX4_bestServing_109 k_i0 ?_
    refine r_iload_n C dX4_bestServing_110 2 rfl ?_
    refine r_cvi (As := [.int i1, .int (0 : Int32), .int i2]) (st := [p_rf g q10]) C wv_X4_104 (tcX4_wantsWith K.2.1 g hg o0 i1 (0 : Int32) i2 h9) (Nat.le_of_ble_eq_true rfl) rfl rfl (Nat.le_of_ble_eq_true rfl) dX4_bestServing_111 ⟨Nat.le_of_ble_eq_true rfl, Nat.le_of_ble_eq_true rfl⟩ (fun x11 h12 => ?_)
    refine r_i2l C dX4_bestServing_114 ?_
    refine r_cvv (As := [.long (x11.toInt64)]) (st := []) C wv_X4_113 (tcX3_add K.2.1 g hg q10 (x11.toInt64) h12) (Nat.le_of_ble_eq_true rfl) rfl rfl (Nat.le_of_ble_eq_true rfl) dX4_bestServing_115 ⟨Nat.le_of_ble_eq_true rfl, Nat.le_of_ble_eq_true rfl⟩ (fun h13 => ?_)
    refine r_iload C dX4_bestServing_118 3 rfl ?_
    exact r_iret C dX4_bestServing_120
set_option maxRecDepth 100000 in
set_option maxHeartbeats 4000000 in
theorem tX4_worstHeld_J68_9 {K : AC} {g : WG} (hg : p_al g = false)  (C : Cx K g cX4_worstHeld 7 RX4 (some .int) "worstHeld" 7 0 0) (o0 : Nat) (i1 : Int32) (i2 : Int32) (i3 : Int32) (i4 : Int32) (i5 : Int32)    {rc : Int32 → Int32 → Int32 → PH → Option (Int32 × PH)} {kx : Int32 → Int32 → PH → Option (Int32 × PH)} (hr : ∀ (i3' : Int32) (i4' : Int32) (i5' : Int32) (h : PH), VX K g 7 0 0 (a_fin K g 0 0 em_i) 9 [(0, p_rf g o0), (1, .int i1), (2, .int i2), (3, .int i3'), (4, .int i4'), (5, .int i5')] [] h (rc i3' i4' i5' h)) (hk : ∀ (i3' : Int32) (i4' : Int32) (h : PH), VX K g 7 0 0 (a_fin K g 0 0 em_i) 74 [(0, p_rf g o0), (3, .int i3'), (4, .int i4')] [] h (kx i3' i4' h)) (h : PH) : VX K g 7 0 0 (a_fin K g 0 0 em_i) 68 [(0, p_rf g o0), (1, .int i1), (2, .int i2), (3, .int i3), (4, .int i4), (5, .int i5)] [] h (fX4_worstHeld_J68_9 rc kx o0 i1 i2 i3 i4 i5 h) := by
  unfold fX4_worstHeld_J68_9
  refine r_iinc (lv' := [(0, p_rf g o0), (1, .int i1), (2, .int i2), (3, .int i3), (4, .int i4)]) C dX4_worstHeld_68 5 rfl k_i1 (by decide) (fun _ => rfl) (fun x1 => ?_)
  refine r_goto (tgt := 9) C dX4_worstHeld_71 (by decide) ?_
  refine r_perm (lv' := [(0, p_rf g o0), (1, .int i1), (2, .int i2), (3, .int i3), (4, .int i4), (5, .int x1)]) [1, 2, 3, 4, 5, 0] rfl ?_
  exact hr i3 i4 x1 h
set_option maxRecDepth 100000 in
set_option maxHeartbeats 4000000 in
theorem tX4_worstHeld_J61_9 {K : AC} {g : WG} (hg : p_al g = false)  (C : Cx K g cX4_worstHeld 7 RX4 (some .int) "worstHeld" 7 0 0) (o0 : Nat) (i1 : Int32) (i2 : Int32) (i5 : Int32) (i6 : Int32)    {rc : Int32 → Int32 → Int32 → PH → Option (Int32 × PH)} {kx : Int32 → Int32 → PH → Option (Int32 × PH)} (hr : ∀ (i3' : Int32) (i4' : Int32) (i5' : Int32) (h : PH), VX K g 7 0 0 (a_fin K g 0 0 em_i) 9 [(0, p_rf g o0), (1, .int i1), (2, .int i2), (3, .int i3'), (4, .int i4'), (5, .int i5')] [] h (rc i3' i4' i5' h)) (hk : ∀ (i3' : Int32) (i4' : Int32) (h : PH), VX K g 7 0 0 (a_fin K g 0 0 em_i) 74 [(0, p_rf g o0), (3, .int i3'), (4, .int i4')] [] h (kx i3' i4' h)) (h : PH) : VX K g 7 0 0 (a_fin K g 0 0 em_i) 61 [(0, p_rf g o0), (1, .int i1), (2, .int i2), (5, .int i5), (6, .int i6)] [] h (fX4_worstHeld_J61_9 rc kx o0 i1 i2 i5 i6 h) := by
  unfold fX4_worstHeld_J61_9
  refine r_iload C dX4_worstHeld_61 3 rfl ?_
  refine r_istore_n (lv9 := [(3, .int i5), (0, p_rf g o0), (1, .int i1), (2, .int i2), (5, .int i5), (6, .int i6)]) C dX4_worstHeld_63 (by decide) rfl ?_
  refine r_iload C dX4_worstHeld_64 5 rfl ?_
  refine r_istore (lv9 := [(4, .int i6), (3, .int i5), (0, p_rf g o0), (1, .int i1), (2, .int i2), (5, .int i5), (6, .int i6)]) C dX4_worstHeld_66 (by decide) rfl ?_
  refine r_perm (lv' := [(0, p_rf g o0), (1, .int i1), (2, .int i2), (3, .int i5), (4, .int i6), (5, .int i5)]) [2, 3, 4, 1, 0, 5] rfl ?_
  exact tX4_worstHeld_J68_9 hg C o0 i1 i2 i5 i6 i5 hr hk h
set_option maxRecDepth 100000 in
set_option maxHeartbeats 4000000 in
theorem tX4_worstHeld_L9 {K : AC} {g : WG} (hg : p_al g = false)  (C : Cx K g cX4_worstHeld 7 RX4 (some .int) "worstHeld" 7 0 0) (o0 : Nat) (i1 : Int32) (i2 : Int32) {kx : Int32 → Int32 → PH → Option (Int32 × PH)} (hk : ∀ (i3 : Int32) (i4 : Int32) (h : PH), VX K g 7 0 0 (a_fin K g 0 0 em_i) 74 [(0, p_rf g o0), (3, .int i3), (4, .int i4)] [] h (kx i3 i4 h)) : ∀ (n : Nat) (i3 : Int32) (i4 : Int32) (i5 : Int32) (h : PH), VX K g 7 0 0 (a_fin K g 0 0 em_i) 9 [(0, p_rf g o0), (1, .int i1), (2, .int i2), (3, .int i3), (4, .int i4), (5, .int i5)] [] h (fX4_worstHeld_L9 o0 i1 i2 kx n i3 i4 i5 h) := by
  intro n
  induction n with
  | zero =>
    intros
    exact r_none
  | succ n ih =>
    intro i3 i4 i5 h
    rw [fX4_worstHeld_L9]
    refine r_iload C dX4_worstHeld_9 5 rfl ?_
    refine r_aload_n C dX4_worstHeld_11 0 rfl ?_
    refine r_gr C wf_X4_39_3 dX4_worstHeld_12 (fun q1 => ?_)
    refine r_cvi (As := []) (st := [.int i5]) C wv_X4_60 (tcX0_groundSize K.2.1 g hg q1 h) (Nat.le_of_ble_eq_true rfl) rfl rfl (Nat.le_of_ble_eq_true rfl) dX4_worstHeld_15 ⟨Nat.le_of_ble_eq_true rfl, Nat.le_of_ble_eq_true rfl⟩ (fun x2 h3 => ?_)
    refine r_icmp_ge (tgt := 74) C dX4_worstHeld_18 (by decide) ?_ ?_
    · refine r_perm (lv' := [(0, p_rf g o0), (3, .int i3), (4, .int i4)]) [0, 3, 4] rfl ?_
      exact hk i3 i4 h3
    · refine r_aload_n C dX4_worstHeld_21 0 rfl ?_
      refine r_gr C wf_X4_43_3 dX4_worstHeld_22 (fun q4 => ?_)
      refine r_iload_n C dX4_worstHeld_25 1 rfl ?_
      refine r_iload C dX4_worstHeld_26 5 rfl ?_
      refine r_cvi (As := [.int i1, .int i5]) (st := []) C wv_X4_92 (tcX8_holds K.2.1 g hg q4 i1 i5 h3) (Nat.le_of_ble_eq_true rfl) rfl rfl (Nat.le_of_ble_eq_true rfl) dX4_worstHeld_28 ⟨Nat.le_of_ble_eq_true rfl, Nat.le_of_ble_eq_true rfl⟩ (fun x5 h6 => ?_)
      refine r_if_eq (tgt := 68) C dX4_worstHeld_31 (by decide) ?_ ?_
      · exact tX4_worstHeld_J68_9 hg C o0 i1 i2 i3 i4 i5 ih hk h6
      · refine r_aload_n C dX4_worstHeld_34 0 rfl ?_
        refine r_iload_n C dX4_worstHeld_35 1 rfl ?_
        refine r_iload C dX4_worstHeld_36 5 rfl ?_
        refine r_iload_n C dX4_worstHeld_38 2 rfl ?_
        refine r_cvi (As := [.int i1, .int i5, .int i2]) (st := []) C wv_X4_125 (tcX4_wantsBare K.2.1 g hg o0 i1 i5 i2 h6) (Nat.le_of_ble_eq_true rfl) rfl rfl (Nat.le_of_ble_eq_true rfl) dX4_worstHeld_39 ⟨Nat.le_of_ble_eq_true rfl, Nat.le_of_ble_eq_true rfl⟩ (fun x7 h8 => ?_)
        refine r_istore (lv9 := [(6, .int x7), (0, p_rf g o0), (1, .int i1), (2, .int i2), (3, .int i3), (4, .int i4), (5, .int i5)]) C dX4_worstHeld_42 (by decide) rfl ?_
        refine r_iload_n C dX4_worstHeld_44 4 rfl ?_
        refine r_if_lt (tgt := 61) C dX4_worstHeld_45 (by decide) ?_ ?_
        · refine r_perm (lv' := [(0, p_rf g o0), (1, .int i1), (2, .int i2), (5, .int i5), (6, .int x7)]) [1, 2, 3, 6, 0] rfl ?_
          exact tX4_worstHeld_J61_9 hg C o0 i1 i2 i5 x7 ih hk h8
        · refine r_iload C dX4_worstHeld_48 0 rfl ?_
          refine r_csi (As := [.int x7]) (st := []) C ws_X4_120 (tcJ6_bitCount_0f7a4 K.2.1 g hg x7 h8) (Nat.le_of_ble_eq_true rfl) rfl rfl (Nat.le_of_ble_eq_true rfl) dX4_worstHeld_50 ⟨Nat.le_of_ble_eq_true rfl, Nat.le_of_ble_eq_true rfl⟩ (fun x9 h10 => ?_)
          refine r_iload C dX4_worstHeld_53 5 rfl ?_
          refine r_csi (As := [.int i4]) (st := [.int x9]) C ws_X4_120 (tcJ6_bitCount_0f7a4 K.2.1 g hg i4 h10) (Nat.le_of_ble_eq_true rfl) rfl rfl (Nat.le_of_ble_eq_true rfl) dX4_worstHeld_55 ⟨Nat.le_of_ble_eq_true rfl, Nat.le_of_ble_eq_true rfl⟩ (fun x11 h12 => ?_)
          refine r_icmp_le (tgt := 68) C dX4_worstHeld_58 (by decide) ?_ ?_
          · refine r_perm (lv' := [(0, p_rf g o0), (1, .int i1), (2, .int i2), (3, .int i3), (4, .int i4), (5, .int i5)]) [1, 2, 3, 4, 5, 6] rfl ?_
            exact tX4_worstHeld_J68_9 hg C o0 i1 i2 i3 i4 i5 ih hk h12
          · refine r_perm (lv' := [(0, p_rf g o0), (1, .int i1), (2, .int i2), (5, .int i5), (6, .int x7)]) [1, 2, 3, 6, 0] rfl ?_
            exact tX4_worstHeld_J61_9 hg C o0 i1 i2 i5 x7 ih hk h12
set_option maxRecDepth 100000 in
set_option maxHeartbeats 4000000 in
theorem tcX4_worstHeld (l : Launch) (g : WG) (hg : p_al g = false) (o0 : Nat) (i1 : Int32) (i2 : Int32) (h : PH) : CT l g 7 0 0 yX4_worstHeld cX4_worstHeld 7 (some .int) em_i [p_rf g o0, .int i1, .int i2] h (fX4_worstHeld o0 i1 i2 h) := by
  refine CT_of (own := RX4) (nm := "worstHeld") (by decide +kernel) (Nat.le_of_ble_eq_true rfl) rfl rfl rfl ⟨rfl, rfl⟩ (fun K hK C => ?_)
  subst hK
  unfold fX4_worstHeld
  show VX K g _ _ _ _ _ [(0, p_rf g o0), (1, .int i1), (2, .int i2)] _ _ _
  refine r_bipush C dX4_worstHeld_0 k_bm2 ?_
  refine r_istore_n (lv9 := [(3, .int (-2 : Int32)), (0, p_rf g o0), (1, .int i1), (2, .int i2)]) C dX4_worstHeld_2 (by decide) rfl ?_
  refine r_iconst C dX4_worstHeld_3 k_i0 ?_
  refine r_istore (lv9 := [(4, .int (0 : Int32)), (3, .int (-2 : Int32)), (0, p_rf g o0), (1, .int i1), (2, .int i2)]) C dX4_worstHeld_4 (by decide) rfl ?_
  refine r_iconst C dX4_worstHeld_6 k_i0 ?_
  refine r_istore (lv9 := [(5, .int (0 : Int32)), (4, .int (0 : Int32)), (3, .int (-2 : Int32)), (0, p_rf g o0), (1, .int i1), (2, .int i2)]) C dX4_worstHeld_7 (by decide) rfl ?_
  refine r_perm (lv' := [(0, p_rf g o0), (1, .int i1), (2, .int i2), (3, .int (-2 : Int32)), (4, .int (0 : Int32)), (5, .int (0 : Int32))]) [3, 4, 5, 2, 1, 0] rfl ?_
  refine tX4_worstHeld_L9 hg C o0 i1 i2 (fun x1 x2 h3 => ?_) FU (-2 : Int32) (0 : Int32) (0 : Int32) h
  refine r_iload_n C dX4_worstHeld_74 1 rfl ?_
  refine r_if_lt (tgt := 95) C dX4_worstHeld_75 (by decide) ?_ ?_
  · refine r_iload_n C dX4_worstHeld_95 1 rfl ?_
    exact r_iret C dX4_worstHeld_96
  · refine r_aload_n C dX4_worstHeld_78 0 rfl ?_
    refine r_gr C wf_X4_50_3 dX4_worstHeld_79 (fun q4 => ?_)
    refine r_cvv (As := []) (st := []) C wv_X4_108 (tcX3_start K.2.1 g hg q4 h3) (Nat.le_of_ble_eq_true rfl) rfl rfl (Nat.le_of_ble_eq_true rfl) dX4_worstHeld_82 ⟨Nat.le_of_ble_eq_true rfl, Nat.le_of_ble_eq_true rfl⟩ (fun h5 => ?_)
    refine r_aload_n C dX4_worstHeld_85 0 rfl ?_
    refine r_gr C wf_X4_50_3 dX4_worstHeld_86 (fun q6 => ?_)
    refine r_iload C dX4_worstHeld_89 2 rfl ?_
    refine r_i2l C dX4_worstHeld_91 ?_
    refine r_cvv (As := [.long (x2.toInt64)]) (st := []) C wv_X4_113 (tcX3_add K.2.1 g hg q6 (x2.toInt64) h5) (Nat.le_of_ble_eq_true rfl) rfl rfl (Nat.le_of_ble_eq_true rfl) dX4_worstHeld_92 ⟨Nat.le_of_ble_eq_true rfl, Nat.le_of_ble_eq_true rfl⟩ (fun h7 => ?_)
    refine r_iload_n C dX4_worstHeld_95 1 rfl ?_
    exact r_iret C dX4_worstHeld_96
set_option maxRecDepth 100000 in
set_option maxHeartbeats 4000000 in
theorem tcX4_note (l : Launch) (g : WG) (hg : p_al g = false) (o0 : Nat) (i1 : Int32) (i2 : Int32) (i3 : Int32) (h : PH) : CT l g 1 0 0 yX4_note cX4_note 4 (some .boolean) em_i [p_rf g o0, .int i1, .int i2, .int i3] h (fX4_note o0 i1 i2 i3 h) := by
  refine CT_of (own := RX4) (nm := "note") (by decide +kernel) (Nat.le_of_ble_eq_true rfl) rfl rfl rfl ⟨rfl, rfl⟩ (fun K hK C => ?_)
  subst hK
  unfold fX4_note
  show VX K g _ _ _ _ _ [(0, p_rf g o0), (1, .int i1), (2, .int i2), (3, .int i3)] _ _ _
  refine r_aload_n C dX4_note_0 0 rfl ?_
  refine r_gi C wf_X4_128_3 dX4_note_1 (fun x1 => ?_)
  refine r_bipush C dX4_note_4 k_b12 ?_
  refine r_icmp_lt (tgt := 11) C dX4_note_6 (by decide) ?_ ?_
  · refine r_aload_n C dX4_note_11 0 rfl ?_
    refine r_gr C wf_X4_11_3 dX4_note_12 (fun q2 => ?_)
    refine r_aload_n C dX4_note_15 0 rfl ?_
    refine r_gi C wf_X4_128_3 dX4_note_16 (fun x3 => ?_)
    refine r_iload_n C dX4_note_19 1 rfl ?_
    refine r_iast C dX4_note_20 (fun h4 => ?_)
    refine r_aload_n C dX4_note_21 0 rfl ?_
    refine r_gr C wf_X4_15_3 dX4_note_22 (fun q5 => ?_)
    refine r_aload_n C dX4_note_25 0 rfl ?_
    refine r_gi C wf_X4_128_3 dX4_note_26 (fun x6 => ?_)
    refine r_iload_n C dX4_note_29 2 rfl ?_
    refine r_iast C dX4_note_30 (fun h7 => ?_)
    refine r_aload_n C dX4_note_31 0 rfl ?_
    refine r_gr C wf_X4_18_3 dX4_note_32 (fun q8 => ?_)
    refine r_aload_n C dX4_note_35 0 rfl ?_
    refine r_gi C wf_X4_128_3 dX4_note_36 (fun x9 => ?_)
    refine r_iload_n C dX4_note_39 3 rfl ?_
    refine r_iast C dX4_note_40 (fun h10 => ?_)
    refine r_aload_n C dX4_note_41 0 rfl ?_
    refine r_dup C dX4_note_42 rfl ?_
    refine r_gi C wf_X4_128_3 dX4_note_43 (fun x11 => ?_)
    refine r_iconst C dX4_note_46 k_i1 ?_
    refine r_iadd C dX4_note_47 ?_
    refine r_pi C wf_X4_128_3 dX4_note_48 (fun h12 => ?_)
    refine r_iconst C dX4_note_51 k_i1 ?_
    exact r_zret C dX4_note_52
  · refine r_iconst C dX4_note_9 k_i0 ?_
    exact r_zret C dX4_note_10
set_option maxRecDepth 100000 in
set_option maxHeartbeats 4000000 in
theorem tcX4_notes (l : Launch) (g : WG) (hg : p_al g = false) (o0 : Nat) (h : PH) : CT l g 1 0 0 yX4_notes cX4_notes 1 (some .int) em_i [p_rf g o0] h (fX4_notes o0 h) := by
  refine CT_of (own := RX4) (nm := "notes") (by decide +kernel) (Nat.le_of_ble_eq_true rfl) rfl rfl rfl ⟨rfl, rfl⟩ (fun K hK C => ?_)
  subst hK
  unfold fX4_notes
  show VX K g _ _ _ _ _ [(0, p_rf g o0)] _ _ _
  refine r_aload_n C dX4_notes_0 0 rfl ?_
  refine r_gi C wf_X4_128_3 dX4_notes_1 (fun x1 => ?_)
  exact r_iret C dX4_notes_4
set_option maxRecDepth 100000 in
set_option maxHeartbeats 4000000 in
theorem tcX4_dropNotes (l : Launch) (g : WG) (hg : p_al g = false) (o0 : Nat) (h : PH) : CT l g 1 0 0 yX4_dropNotes cX4_dropNotes 2 (some .int) em_i [p_rf g o0] h (fX4_dropNotes o0 h) := by
  refine CT_of (own := RX4) (nm := "dropNotes") (by decide +kernel) (Nat.le_of_ble_eq_true rfl) rfl rfl rfl ⟨rfl, rfl⟩ (fun K hK C => ?_)
  subst hK
  unfold fX4_dropNotes
  show VX K g _ _ _ _ _ [(0, p_rf g o0)] _ _ _
  refine r_aload_n C dX4_dropNotes_0 0 rfl ?_
  refine r_gi C wf_X4_128_3 dX4_dropNotes_1 (fun x1 => ?_)
  refine r_istore_n (lv9 := [(1, .int x1), (0, p_rf g o0)]) C dX4_dropNotes_4 (by decide) rfl ?_
  refine r_aload_n C dX4_dropNotes_5 1 rfl ?_
  refine r_iconst C dX4_dropNotes_6 k_i0 ?_
  refine r_pi C wf_X4_128_3 dX4_dropNotes_7 (fun h2 => ?_)
  refine r_iload_n C dX4_dropNotes_10 0 rfl ?_
  exact r_iret C dX4_dropNotes_11
set_option maxRecDepth 100000 in
set_option maxHeartbeats 4000000 in
theorem tX4_wouldFit_L4 {K : AC} {g : WG} (hg : p_al g = false)  (C : Cx K g cX4_wouldFit 5 RX4 (some .boolean) "wouldFit" 6 0 0) (o0 : Nat) (i1 : Int32) {kx : Int32 → PH → Option (Int32 × PH)} (hk : ∀ (i2 : Int32) (h : PH), VX K g 5 0 0 (a_fin K g 0 0 em_i) 29 [(0, p_rf g o0), (1, .int i1), (2, .int i2)] [] h (kx i2 h)) : ∀ (n : Nat) (i2 : Int32) (i3 : Int32) (h : PH), VX K g 5 0 0 (a_fin K g 0 0 em_i) 4 [(0, p_rf g o0), (1, .int i1), (2, .int i2), (3, .int i3)] [] h (fX4_wouldFit_L4 o0 i1 kx n i2 i3 h) := by
  intro n
  induction n with
  | zero =>
    intros
    exact r_none
  | succ n ih =>
    intro i2 i3 h
    rw [fX4_wouldFit_L4]
    refine r_iload_n C dX4_wouldFit_4 3 rfl ?_
    refine r_aload_n C dX4_wouldFit_5 0 rfl ?_
    refine r_gi C wf_X4_128_3 dX4_wouldFit_6 (fun x1 => ?_)
    refine r_icmp_ge (tgt := 29) C dX4_wouldFit_9 (by decide) ?_ ?_
    · refine r_perm (lv' := [(0, p_rf g o0), (1, .int i1), (2, .int i2)]) [0, 1, 2] rfl ?_
      exact hk i2 h
    · refine r_iload_n C dX4_wouldFit_12 2 rfl ?_
      refine r_aload_n C dX4_wouldFit_13 0 rfl ?_
      refine r_gr C wf_X4_11_3 dX4_wouldFit_14 (fun q2 => ?_)
      refine r_iload_n C dX4_wouldFit_17 3 rfl ?_
      refine r_iald C dX4_wouldFit_18 (fun x3 => ?_)
      refine r_max C wm_X4_132 (Nat.le_of_ble_eq_true rfl) (Nat.le_of_ble_eq_true rfl) ⟨Nat.le_of_ble_eq_true rfl, Nat.le_of_ble_eq_true rfl⟩ dX4_wouldFit_19 ?_
      refine r_topi (fun x4 => ?_)
      refine r_istore_n (lv9 := [(2, .int x4), (0, p_rf g o0), (1, .int i1), (3, .int i3)]) C dX4_wouldFit_22 (by decide) rfl ?_
      refine r_iinc (lv' := [(2, .int x4), (0, p_rf g o0), (1, .int i1)]) C dX4_wouldFit_23 3 rfl k_i1 (by decide) (fun _ => rfl) (fun x5 => ?_)
      refine r_goto (tgt := 4) C dX4_wouldFit_26 (by decide) ?_
      refine r_perm (lv' := [(0, p_rf g o0), (1, .int i1), (2, .int x4), (3, .int x5)]) [2, 3, 1, 0] rfl ?_
      exact ih x4 x5 h
set_option maxRecDepth 100000 in
set_option maxHeartbeats 4000000 in
theorem tX4_wouldFit_J86_39 {K : AC} {g : WG} (hg : p_al g = false)  (C : Cx K g cX4_wouldFit 5 RX4 (some .boolean) "wouldFit" 6 0 0) (o0 : Nat) (i1 : Int32) (i2 : Int32) (i3 : Int32) (i4 : Int32)    {rc : Int32 → PH → Option (Int32 × PH)} {kx : PH → Option (Int32 × PH)} (hr : ∀ (i4' : Int32) (h : PH), VX K g 5 0 0 (a_fin K g 0 0 em_i) 39 [(0, p_rf g o0), (1, .int i1), (2, .int i2), (3, .int i3), (4, .int i4')] [] h (rc i4' h)) (hk : ∀  (h : PH), VX K g 5 0 0 (a_fin K g 0 0 em_i) 92 [(0, p_rf g o0), (1, .int i1), (2, .int i2), (3, .int i3)] [] h (kx  h)) (h : PH) : VX K g 5 0 0 (a_fin K g 0 0 em_i) 86 [(0, p_rf g o0), (1, .int i1), (2, .int i2), (3, .int i3), (4, .int i4)] [] h (fX4_wouldFit_J86_39 rc kx o0 i1 i2 i3 i4 h) := by
  unfold fX4_wouldFit_J86_39
  refine r_iinc (lv' := [(0, p_rf g o0), (1, .int i1), (2, .int i2), (3, .int i3)]) C dX4_wouldFit_86 4 rfl k_i1 (by decide) (fun _ => rfl) (fun x1 => ?_)
  refine r_goto (tgt := 39) C dX4_wouldFit_89 (by decide) ?_
  refine r_perm (lv' := [(0, p_rf g o0), (1, .int i1), (2, .int i2), (3, .int i3), (4, .int x1)]) [1, 2, 3, 4, 0] rfl ?_
  exact hr x1 h
set_option maxRecDepth 100000 in
set_option maxHeartbeats 4000000 in
theorem tX4_wouldFit_L39 {K : AC} {g : WG} (hg : p_al g = false)  (C : Cx K g cX4_wouldFit 5 RX4 (some .boolean) "wouldFit" 6 0 0) (o0 : Nat) (i1 : Int32) (i2 : Int32) (i3 : Int32) {kx : PH → Option (Int32 × PH)} (hk : ∀  (h : PH), VX K g 5 0 0 (a_fin K g 0 0 em_i) 92 [(0, p_rf g o0), (1, .int i1), (2, .int i2), (3, .int i3)] [] h (kx h)) : ∀ (n : Nat) (i4 : Int32) (h : PH), VX K g 5 0 0 (a_fin K g 0 0 em_i) 39 [(0, p_rf g o0), (1, .int i1), (2, .int i2), (3, .int i3), (4, .int i4)] [] h (fX4_wouldFit_L39 o0 i1 i2 i3 kx n i4 h) := by
  intro n
  induction n with
  | zero =>
    intros
    exact r_none
  | succ n ih =>
    intro i4 h
    rw [fX4_wouldFit_L39]
    refine r_iload C dX4_wouldFit_39 4 rfl ?_
    refine r_aload_n C dX4_wouldFit_41 0 rfl ?_
    refine r_gi C wf_X4_128_3 dX4_wouldFit_42 (fun x1 => ?_)
    refine r_icmp_ge (tgt := 92) C dX4_wouldFit_45 (by decide) ?_ ?_
    · refine r_perm (lv' := [(0, p_rf g o0), (1, .int i1), (2, .int i2), (3, .int i3)]) [0, 1, 2, 3] rfl ?_
      exact hk h
    · refine r_aload_n C dX4_wouldFit_48 0 rfl ?_
      refine r_gr C wf_X4_11_3 dX4_wouldFit_49 (fun q2 => ?_)
      refine r_iload C dX4_wouldFit_52 4 rfl ?_
      refine r_iald C dX4_wouldFit_54 (fun x3 => ?_)
      refine r_iload_n C dX4_wouldFit_55 3 rfl ?_
      refine r_icmp_ne (tgt := 86) C dX4_wouldFit_56 (by decide) ?_ ?_
      · exact tX4_wouldFit_J86_39 hg C o0 i1 i2 i3 i4 ih hk h
      · refine r_aload_n C dX4_wouldFit_59 0 rfl ?_
        refine r_gr C wf_X4_47_3 dX4_wouldFit_60 (fun q4 => ?_)
        refine r_iload_n C dX4_wouldFit_63 1 rfl ?_
        refine r_aload_n C dX4_wouldFit_64 0 rfl ?_
        refine r_gr C wf_X4_15_3 dX4_wouldFit_65 (fun q5 => ?_)
        refine r_iload C dX4_wouldFit_68 4 rfl ?_
        refine r_iald C dX4_wouldFit_70 (fun x6 => ?_)
        refine r_cvi (As := [.int i1, .int x6]) (st := []) C wv_X4_138 (tcX8_humourOf K.2.1 g hg q4 i1 x6 h) (Nat.le_of_ble_eq_true rfl) rfl rfl (Nat.le_of_ble_eq_true rfl) dX4_wouldFit_71 ⟨Nat.le_of_ble_eq_true rfl, Nat.le_of_ble_eq_true rfl⟩ (fun x7 h8 => ?_)
        refine r_aload_n C dX4_wouldFit_74 0 rfl ?_
        refine r_gr C wf_X4_18_3 dX4_wouldFit_75 (fun q9 => ?_)
        refine r_iload C dX4_wouldFit_78 4 rfl ?_
        refine r_iald C dX4_wouldFit_80 (fun x10 => ?_)
        refine r_icmp_eq (tgt := 86) C dX4_wouldFit_81 (by decide) ?_ ?_
        · exact tX4_wouldFit_J86_39 hg C o0 i1 i2 i3 i4 ih hk h8
        · refine r_iconst C dX4_wouldFit_84 k_i0 ?_
          exact r_zret C dX4_wouldFit_85
set_option maxRecDepth 100000 in
set_option maxHeartbeats 4000000 in
theorem tX4_wouldFit_L31 {K : AC} {g : WG} (hg : p_al g = false)  (C : Cx K g cX4_wouldFit 5 RX4 (some .boolean) "wouldFit" 6 0 0) (o0 : Nat) (i1 : Int32) (i2 : Int32) {kx : PH → Option (Int32 × PH)} (hk : ∀  (h : PH), VX K g 5 0 0 (a_fin K g 0 0 em_i) 114 [] [] h (kx h)) : ∀ (n : Nat) (i3 : Int32) (h : PH), VX K g 5 0 0 (a_fin K g 0 0 em_i) 31 [(0, p_rf g o0), (1, .int i1), (2, .int i2), (3, .int i3)] [] h (fX4_wouldFit_L31 o0 i1 i2 kx n i3 h) := by
  intro n
  induction n with
  | zero =>
    intros
    exact r_none
  | succ n ih =>
    intro i3 h
    rw [fX4_wouldFit_L31]
    refine r_iload_n C dX4_wouldFit_31 3 rfl ?_
    refine r_iload_n C dX4_wouldFit_32 2 rfl ?_
    refine r_icmp_gt (tgt := 114) C dX4_wouldFit_33 (by decide) ?_ ?_
    · refine r_perm (lv' := []) [] rfl ?_
      exact hk h
    · refine r_iconst C dX4_wouldFit_36 k_i0 ?_
      refine r_istore (lv9 := [(4, .int (0 : Int32)), (0, p_rf g o0), (1, .int i1), (2, .int i2), (3, .int i3)]) C dX4_wouldFit_37 (by decide) rfl ?_
      refine r_perm (lv' := [(0, p_rf g o0), (1, .int i1), (2, .int i2), (3, .int i3), (4, .int (0 : Int32))]) [1, 2, 3, 4, 0] rfl ?_
      refine tX4_wouldFit_L39 hg C o0 i1 i2 i3 (fun h1 => ?_) FU (0 : Int32) h
      refine r_aload_n C dX4_wouldFit_92 0 rfl ?_
      refine r_gr C wf_X4_47_3 dX4_wouldFit_93 (fun q2 => ?_)
      refine r_iload_n C dX4_wouldFit_96 1 rfl ?_
      refine r_iconst C dX4_wouldFit_97 k_i1 ?_
      refine r_aload_n C dX4_wouldFit_98 0 rfl ?_
      refine r_gr C wf_X4_39_3 dX4_wouldFit_99 (fun q3 => ?_)
      refine r_cvr (As := []) (st := [.int (1 : Int32), .int i1, p_rf g q2]) C wv_X4_74 (tcX0_presentRule K.2.1 g hg q3 h1) (Nat.le_of_ble_eq_true rfl) rfl rfl (Nat.le_of_ble_eq_true rfl) dX4_wouldFit_102 ⟨Nat.le_of_ble_eq_true rfl, Nat.le_of_ble_eq_true rfl⟩ (fun q4 h5 => ?_)
      refine r_cvv (As := [.int i1, .int (1 : Int32), p_rf g q4]) (st := []) C wv_X4_78 (tcX8_pass K.2.1 g hg q2 i1 (1 : Int32) q4 h5) (Nat.le_of_ble_eq_true rfl) rfl rfl (Nat.le_of_ble_eq_true rfl) dX4_wouldFit_105 ⟨Nat.le_of_ble_eq_true rfl, Nat.le_of_ble_eq_true rfl⟩ (fun h6 => ?_)
      refine r_iinc (lv' := [(0, p_rf g o0), (1, .int i1), (2, .int i2)]) C dX4_wouldFit_108 3 rfl k_i1 (by decide) (fun _ => rfl) (fun x7 => ?_)
      refine r_goto (tgt := 31) C dX4_wouldFit_111 (by decide) ?_
      refine r_perm (lv' := [(0, p_rf g o0), (1, .int i1), (2, .int i2), (3, .int x7)]) [1, 2, 3, 0] rfl ?_
      exact ih x7 h6
set_option maxRecDepth 100000 in
set_option maxHeartbeats 4000000 in
theorem tcX4_wouldFit (l : Launch) (g : WG) (hg : p_al g = false) (o0 : Nat) (i1 : Int32) (h : PH) : CT l g 6 0 0 yX4_wouldFit cX4_wouldFit 5 (some .boolean) em_i [p_rf g o0, .int i1] h (fX4_wouldFit o0 i1 h) := by
  refine CT_of (own := RX4) (nm := "wouldFit") (by decide +kernel) (Nat.le_of_ble_eq_true rfl) rfl rfl rfl ⟨rfl, rfl⟩ (fun K hK C => ?_)
  subst hK
  unfold fX4_wouldFit
  show VX K g _ _ _ _ _ [(0, p_rf g o0), (1, .int i1)] _ _ _
  refine r_iconst C dX4_wouldFit_0 k_i0 ?_
  refine r_istore_n (lv9 := [(2, .int (0 : Int32)), (0, p_rf g o0), (1, .int i1)]) C dX4_wouldFit_1 (by decide) rfl ?_
  refine r_iconst C dX4_wouldFit_2 k_i0 ?_
  refine r_istore_n (lv9 := [(3, .int (0 : Int32)), (2, .int (0 : Int32)), (0, p_rf g o0), (1, .int i1)]) C dX4_wouldFit_3 (by decide) rfl ?_
  refine r_perm (lv' := [(0, p_rf g o0), (1, .int i1), (2, .int (0 : Int32)), (3, .int (0 : Int32))]) [2, 3, 1, 0] rfl ?_
  refine tX4_wouldFit_L4 hg C o0 i1 (fun x1 h2 => ?_) FU (0 : Int32) (0 : Int32) h
  refine r_iconst C dX4_wouldFit_29 k_i0 ?_
  refine r_istore_n (lv9 := [(3, .int (0 : Int32)), (0, p_rf g o0), (1, .int i1), (2, .int x1)]) C dX4_wouldFit_30 (by decide) rfl ?_
  refine r_perm (lv' := [(0, p_rf g o0), (1, .int i1), (2, .int x1), (3, .int (0 : Int32))]) [1, 2, 3, 0] rfl ?_
  refine tX4_wouldFit_L31 hg C o0 i1 x1 (fun h3 => ?_) FU (0 : Int32) h2
  refine r_iconst C dX4_wouldFit_114 k_i1 ?_
  exact r_zret C dX4_wouldFit_115
set_option maxRecDepth 100000 in
set_option maxHeartbeats 4000000 in
theorem tX4_fitting_J65_4 {K : AC} {g : WG} (hg : p_al g = false)  (C : Cx K g cX4_fitting 4 RX4 (some .int) "fitting" 7 0 0) (o0 : Nat) (i1 : Int32) (i2 : Int32) (i3 : Int32)    {rc : Int32 → Int32 → PH → Option (Int32 × PH)} {kx : Int32 → PH → Option (Int32 × PH)} (hr : ∀ (i2' : Int32) (i3' : Int32) (h : PH), VX K g 4 0 0 (a_fin K g 0 0 em_i) 4 [(0, p_rf g o0), (1, .int i1), (2, .int i2'), (3, .int i3')] [] h (rc i2' i3' h)) (hk : ∀ (i2' : Int32) (h : PH), VX K g 4 0 0 (a_fin K g 0 0 em_i) 71 [(2, .int i2')] [] h (kx i2' h)) (h : PH) : VX K g 4 0 0 (a_fin K g 0 0 em_i) 65 [(0, p_rf g o0), (1, .int i1), (2, .int i2), (3, .int i3)] [] h (fX4_fitting_J65_4 rc kx o0 i1 i2 i3 h) := by
  unfold fX4_fitting_J65_4
  refine r_iinc (lv' := [(0, p_rf g o0), (1, .int i1), (2, .int i2)]) C dX4_fitting_65 3 rfl k_i1 (by decide) (fun _ => rfl) (fun x1 => ?_)
  refine r_goto (tgt := 4) C dX4_fitting_68 (by decide) ?_
  refine r_perm (lv' := [(0, p_rf g o0), (1, .int i1), (2, .int i2), (3, .int x1)]) [1, 2, 3, 0] rfl ?_
  exact hr i2 x1 h
set_option maxRecDepth 100000 in
set_option maxHeartbeats 4000000 in
theorem tX4_fitting_J63_4 {K : AC} {g : WG} (hg : p_al g = false)  (C : Cx K g cX4_fitting 4 RX4 (some .int) "fitting" 7 0 0) (o0 : Nat) (i1 : Int32) (i3 : Int32) (s0 : Int32) (s1 : Int32)    {rc : Int32 → Int32 → PH → Option (Int32 × PH)} {kx : Int32 → PH → Option (Int32 × PH)} (hr : ∀ (i2' : Int32) (i3' : Int32) (h : PH), VX K g 4 0 0 (a_fin K g 0 0 em_i) 4 [(0, p_rf g o0), (1, .int i1), (2, .int i2'), (3, .int i3')] [] h (rc i2' i3' h)) (hk : ∀ (i2' : Int32) (h : PH), VX K g 4 0 0 (a_fin K g 0 0 em_i) 71 [(2, .int i2')] [] h (kx i2' h)) (h : PH) : VX K g 4 0 0 (a_fin K g 0 0 em_i) 63 [(0, p_rf g o0), (1, .int i1), (3, .int i3)] [.int s0, .int s1] h (fX4_fitting_J63_4 rc kx o0 i1 i3 s0 s1 h) := by
  unfold fX4_fitting_J63_4
  refine r_ior C dX4_fitting_63 ?_
  refine r_topi (fun x1 => ?_)
  refine r_istore_n (lv9 := [(2, .int x1), (0, p_rf g o0), (1, .int i1), (3, .int i3)]) C dX4_fitting_64 (by decide) rfl ?_
  refine r_perm (lv' := [(0, p_rf g o0), (1, .int i1), (2, .int x1), (3, .int i3)]) [1, 2, 0, 3] rfl ?_
  exact tX4_fitting_J65_4 hg C o0 i1 x1 i3 hr hk h
set_option maxRecDepth 100000 in
set_option maxHeartbeats 4000000 in
theorem tX4_fitting_L4 {K : AC} {g : WG} (hg : p_al g = false)  (C : Cx K g cX4_fitting 4 RX4 (some .int) "fitting" 7 0 0) (o0 : Nat) (i1 : Int32) {kx : Int32 → PH → Option (Int32 × PH)} (hk : ∀ (i2 : Int32) (h : PH), VX K g 4 0 0 (a_fin K g 0 0 em_i) 71 [(2, .int i2)] [] h (kx i2 h)) : ∀ (n : Nat) (i2 : Int32) (i3 : Int32) (h : PH), VX K g 4 0 0 (a_fin K g 0 0 em_i) 4 [(0, p_rf g o0), (1, .int i1), (2, .int i2), (3, .int i3)] [] h (fX4_fitting_L4 o0 i1 kx n i2 i3 h) := by
  intro n
  induction n with
  | zero =>
    intros
    exact r_none
  | succ n ih =>
    intro i2 i3 h
    rw [fX4_fitting_L4]
    refine r_iload_n C dX4_fitting_4 3 rfl ?_
    refine r_aload_n C dX4_fitting_5 0 rfl ?_
    refine r_gr C wf_X4_39_3 dX4_fitting_6 (fun q1 => ?_)
    refine r_cvi (As := []) (st := [.int i3]) C wv_X4_60 (tcX0_groundSize K.2.1 g hg q1 h) (Nat.le_of_ble_eq_true rfl) rfl rfl (Nat.le_of_ble_eq_true rfl) dX4_fitting_9 ⟨Nat.le_of_ble_eq_true rfl, Nat.le_of_ble_eq_true rfl⟩ (fun x2 h3 => ?_)
    refine r_icmp_ge (tgt := 71) C dX4_fitting_12 (by decide) ?_ ?_
    · refine r_perm (lv' := [(2, .int i2)]) [2] rfl ?_
      exact hk i2 h3
    · refine r_aload_n C dX4_fitting_15 0 rfl ?_
      refine r_gr C wf_X4_43_3 dX4_fitting_16 (fun q4 => ?_)
      refine r_iload_n C dX4_fitting_19 1 rfl ?_
      refine r_iload_n C dX4_fitting_20 3 rfl ?_
      refine r_cvi (As := [.int i1, .int i3]) (st := []) C wv_X4_92 (tcX8_holds K.2.1 g hg q4 i1 i3 h3) (Nat.le_of_ble_eq_true rfl) rfl rfl (Nat.le_of_ble_eq_true rfl) dX4_fitting_21 ⟨Nat.le_of_ble_eq_true rfl, Nat.le_of_ble_eq_true rfl⟩ (fun x5 h6 => ?_)
      refine r_if_ne (tgt := 65) C dX4_fitting_24 (by decide) ?_ ?_
      · exact tX4_fitting_J65_4 hg C o0 i1 i2 i3 ih hk h6
      · refine r_aload_n C dX4_fitting_27 0 rfl ?_
        refine r_gr C wf_X4_47_3 dX4_fitting_28 (fun q7 => ?_)
        refine r_aload_n C dX4_fitting_31 0 rfl ?_
        refine r_gr C wf_X4_43_3 dX4_fitting_32 (fun q8 => ?_)
        refine r_cvv (As := [p_rf g q8]) (st := []) C wv_X4_54 (tcX8_copy K.2.1 g hg q7 q8 h6) (Nat.le_of_ble_eq_true rfl) rfl rfl (Nat.le_of_ble_eq_true rfl) dX4_fitting_35 ⟨Nat.le_of_ble_eq_true rfl, Nat.le_of_ble_eq_true rfl⟩ (fun h9 => ?_)
        refine r_aload_n C dX4_fitting_38 0 rfl ?_
        refine r_gr C wf_X4_47_3 dX4_fitting_39 (fun q10 => ?_)
        refine r_iload_n C dX4_fitting_42 1 rfl ?_
        refine r_iload_n C dX4_fitting_43 3 rfl ?_
        refine r_cvv (As := [.int i1, .int i3]) (st := []) C wv_X4_70 (tcX8_lend K.2.1 g hg q10 i1 i3 h9) (Nat.le_of_ble_eq_true rfl) rfl rfl (Nat.le_of_ble_eq_true rfl) dX4_fitting_44 ⟨Nat.le_of_ble_eq_true rfl, Nat.le_of_ble_eq_true rfl⟩ (fun h11 => ?_)
        refine r_iload_n C dX4_fitting_47 2 rfl ?_
        refine r_aload_n C dX4_fitting_48 0 rfl ?_
        refine r_iload_n C dX4_fitting_49 1 rfl ?_
        refine r_cvi (As := [.int i1]) (st := [.int i2]) C wv_X4_141 (tcX4_wouldFit K.2.1 g hg o0 i1 h11) (Nat.le_of_ble_eq_true rfl) rfl rfl (Nat.le_of_ble_eq_true rfl) dX4_fitting_50 ⟨Nat.le_of_ble_eq_true rfl, Nat.le_of_ble_eq_true rfl⟩ (fun x12 h13 => ?_)
        refine r_if_eq (tgt := 62) C dX4_fitting_53 (by decide) ?_ ?_
        · refine r_iconst C dX4_fitting_62 k_i0 ?_
          refine r_perm (lv' := [(0, p_rf g o0), (1, .int i1), (3, .int i3)]) [0, 1, 3] rfl ?_
          exact tX4_fitting_J63_4 hg C o0 i1 i3 (0 : Int32) i2 ih hk h13
        · refine r_iconst C dX4_fitting_56 k_i1 ?_
          refine r_iload_n C dX4_fitting_57 3 rfl ?_
          refine r_ishl C dX4_fitting_58 ?_
          refine r_goto (tgt := 63) C dX4_fitting_59 (by decide) ?_
          refine r_perm (lv' := [(0, p_rf g o0), (1, .int i1), (3, .int i3)]) [0, 1, 3] rfl ?_
          exact tX4_fitting_J63_4 hg C o0 i1 i3 ((1 : Int32) <<< (i3 &&& 31)) i2 ih hk h13
set_option maxRecDepth 100000 in
set_option maxHeartbeats 4000000 in
theorem tcX4_fitting (l : Launch) (g : WG) (hg : p_al g = false) (o0 : Nat) (i1 : Int32) (h : PH) : CT l g 7 0 0 yX4_fitting cX4_fitting 4 (some .int) em_i [p_rf g o0, .int i1] h (fX4_fitting o0 i1 h) := by
  refine CT_of (own := RX4) (nm := "fitting") (by decide +kernel) (Nat.le_of_ble_eq_true rfl) rfl rfl rfl ⟨rfl, rfl⟩ (fun K hK C => ?_)
  subst hK
  unfold fX4_fitting
  show VX K g _ _ _ _ _ [(0, p_rf g o0), (1, .int i1)] _ _ _
  refine r_iconst C dX4_fitting_0 k_i0 ?_
  refine r_istore_n (lv9 := [(2, .int (0 : Int32)), (0, p_rf g o0), (1, .int i1)]) C dX4_fitting_1 (by decide) rfl ?_
  refine r_iconst C dX4_fitting_2 k_i0 ?_
  refine r_istore_n (lv9 := [(3, .int (0 : Int32)), (2, .int (0 : Int32)), (0, p_rf g o0), (1, .int i1)]) C dX4_fitting_3 (by decide) rfl ?_
  refine r_perm (lv' := [(0, p_rf g o0), (1, .int i1), (2, .int (0 : Int32)), (3, .int (0 : Int32))]) [2, 3, 1, 0] rfl ?_
  refine tX4_fitting_L4 hg C o0 i1 (fun x1 h2 => ?_) FU (0 : Int32) (0 : Int32) h
  refine r_iload_n C dX4_fitting_71 0 rfl ?_
  exact r_iret C dX4_fitting_72
set_option maxRecDepth 100000 in
set_option maxHeartbeats 4000000 in
theorem tcX4_fitsBare (l : Launch) (g : WG) (hg : p_al g = false) (o0 : Nat) (i1 : Int32) (h : PH) : CT l g 7 0 0 yX4_fitsBare cX4_fitsBare 2 (some .boolean) em_i [p_rf g o0, .int i1] h (fX4_fitsBare o0 i1 h) := by
  refine CT_of (own := RX4) (nm := "fitsBare") (by decide +kernel) (Nat.le_of_ble_eq_true rfl) rfl rfl rfl ⟨rfl, rfl⟩ (fun K hK C => ?_)
  subst hK
  unfold fX4_fitsBare
  show VX K g _ _ _ _ _ [(0, p_rf g o0), (1, .int i1)] _ _ _
  refine r_aload_n C dX4_fitsBare_0 0 rfl ?_
  refine r_gr C wf_X4_47_3 dX4_fitsBare_1 (fun q1 => ?_)
  refine r_aload_n C dX4_fitsBare_4 0 rfl ?_
  refine r_gr C wf_X4_43_3 dX4_fitsBare_5 (fun q2 => ?_)
  refine r_cvv (As := [p_rf g q2]) (st := []) C wv_X4_54 (tcX8_copy K.2.1 g hg q1 q2 h) (Nat.le_of_ble_eq_true rfl) rfl rfl (Nat.le_of_ble_eq_true rfl) dX4_fitsBare_8 ⟨Nat.le_of_ble_eq_true rfl, Nat.le_of_ble_eq_true rfl⟩ (fun h3 => ?_)
  refine r_aload_n C dX4_fitsBare_11 0 rfl ?_
  refine r_iload_n C dX4_fitsBare_12 1 rfl ?_
  refine r_cvi (As := [.int i1]) (st := []) C wv_X4_141 (tcX4_wouldFit K.2.1 g hg o0 i1 h3) (Nat.le_of_ble_eq_true rfl) rfl rfl (Nat.le_of_ble_eq_true rfl) dX4_fitsBare_13 ⟨Nat.le_of_ble_eq_true rfl, Nat.le_of_ble_eq_true rfl⟩ (fun x4 h5 => ?_)
  exact r_zret C dX4_fitsBare_16
set_option maxRecDepth 100000 in
set_option maxHeartbeats 4000000 in
theorem tX4_tallyHumours_L2 {K : AC} {g : WG} (hg : p_al g = false)  (C : Cx K g cX4_tallyHumours 3 RX4 none "tallyHumours" 2 0 0) (o0 : Nat) (i1 : Int32) {kx : PH → Option (Unit × PH)} (hk : ∀  (h : PH), VX K g 3 0 0 (a_fin K g 0 0 em_v) 42 [] [] h (kx h)) : ∀ (n : Nat) (i2 : Int32) (h : PH), VX K g 3 0 0 (a_fin K g 0 0 em_v) 2 [(0, p_rf g o0), (1, .int i1), (2, .int i2)] [] h (fX4_tallyHumours_L2 o0 i1 kx n i2 h) := by
  intro n
  induction n with
  | zero =>
    intros
    exact r_none
  | succ n ih =>
    intro i2 h
    rw [fX4_tallyHumours_L2]
    refine r_iload_n C dX4_tallyHumours_2 2 rfl ?_
    refine r_iconst C dX4_tallyHumours_3 k_i4 ?_
    refine r_icmp_ge (tgt := 42) C dX4_tallyHumours_4 (by decide) ?_ ?_
    · refine r_perm (lv' := []) [] rfl ?_
      exact hk h
    · refine r_aload_n C dX4_tallyHumours_7 0 rfl ?_
      refine r_gr C wf_X4_21_3 dX4_tallyHumours_8 (fun q1 => ?_)
      refine r_iload_n C dX4_tallyHumours_11 2 rfl ?_
      refine r_bipush C dX4_tallyHumours_12 k_b10 ?_
      refine r_imul C dX4_tallyHumours_14 ?_
      refine r_aload_n C dX4_tallyHumours_15 0 rfl ?_
      refine r_gr C wf_X4_47_3 dX4_tallyHumours_16 (fun q2 => ?_)
      refine r_iload_n C dX4_tallyHumours_19 1 rfl ?_
      refine r_iload_n C dX4_tallyHumours_20 2 rfl ?_
      refine r_cvi (As := [.int i1, .int i2]) (st := [.int (i2 * (10 : Int32)), p_rf g q1]) C wv_X4_138 (tcX8_humourOf K.2.1 g hg q2 i1 i2 h) (Nat.le_of_ble_eq_true rfl) rfl rfl (Nat.le_of_ble_eq_true rfl) dX4_tallyHumours_21 ⟨Nat.le_of_ble_eq_true rfl, Nat.le_of_ble_eq_true rfl⟩ (fun x3 h4 => ?_)
      refine r_iconst C dX4_tallyHumours_24 k_i0 ?_
      refine r_bipush C dX4_tallyHumours_25 k_b9 ?_
      refine r_cni (As := [.int x3, .int (0 : Int32), .int (9 : Int32)]) (st := [.int (i2 * (10 : Int32)), p_rf g q1]) C wn_X4_158 (tcX11_clamp K.2.1 g hg x3 (0 : Int32) (9 : Int32) h4) (Nat.le_of_ble_eq_true rfl) rfl rfl (Nat.le_of_ble_eq_true rfl) dX4_tallyHumours_27 ⟨Nat.le_of_ble_eq_true rfl, Nat.le_of_ble_eq_true rfl⟩ (fun x5 h6 => ?_)
      refine r_iadd C dX4_tallyHumours_30 ?_
      refine r_topi (fun x7 => ?_)
      refine r_dup2 C dX4_tallyHumours_31 rfl rfl ?_
      refine r_iald C dX4_tallyHumours_32 (fun x8 => ?_)
      refine r_iconst C dX4_tallyHumours_33 k_i1 ?_
      refine r_iadd C dX4_tallyHumours_34 ?_
      refine r_iast C dX4_tallyHumours_35 (fun h9 => ?_)
      refine r_iinc (lv' := [(0, p_rf g o0), (1, .int i1)]) C dX4_tallyHumours_36 2 rfl k_i1 (by decide) (fun _ => rfl) (fun x10 => ?_)
      refine r_goto (tgt := 2) C dX4_tallyHumours_39 (by decide) ?_
      refine r_perm (lv' := [(0, p_rf g o0), (1, .int i1), (2, .int x10)]) [1, 2, 0] rfl ?_
      exact ih x10 h9
set_option maxRecDepth 100000 in
set_option maxHeartbeats 4000000 in
theorem tcX4_tallyHumours (l : Launch) (g : WG) (hg : p_al g = false) (o0 : Nat) (i1 : Int32) (h : PH) : CT l g 2 0 0 yX4_tallyHumours cX4_tallyHumours 3 none em_v [p_rf g o0, .int i1] h (fX4_tallyHumours o0 i1 h) := by
  refine CT_of (own := RX4) (nm := "tallyHumours") (by decide +kernel) (Nat.le_of_ble_eq_true rfl) rfl rfl rfl ⟨rfl, rfl⟩ (fun K hK C => ?_)
  subst hK
  unfold fX4_tallyHumours
  show VX K g _ _ _ _ _ [(0, p_rf g o0), (1, .int i1)] _ _ _
  refine r_iconst C dX4_tallyHumours_0 k_i0 ?_
  refine r_istore_n (lv9 := [(2, .int (0 : Int32)), (0, p_rf g o0), (1, .int i1)]) C dX4_tallyHumours_1 (by decide) rfl ?_
  refine r_perm (lv' := [(0, p_rf g o0), (1, .int i1), (2, .int (0 : Int32))]) [1, 2, 0] rfl ?_
  refine tX4_tallyHumours_L2 hg C o0 i1 (fun h1 => ?_) FU (0 : Int32) h
  exact r_vret C dX4_tallyHumours_42
set_option maxRecDepth 100000 in
set_option maxHeartbeats 4000000 in
theorem tX4_mostLeft_L4 {K : AC} {g : WG} (hg : p_al g = false)  (C : Cx K g cX4_mostLeft 4 RX4 (some .int) "mostLeft" 1 0 0) (o0 : Nat) (i1 : Int32) {kx : Int32 → PH → Option (Int32 × PH)} (hk : ∀ (i2 : Int32) (h : PH), VX K g 4 0 0 (a_fin K g 0 0 em_i) 32 [(2, .int i2)] [] h (kx i2 h)) : ∀ (n : Nat) (i2 : Int32) (i3 : Int32) (h : PH), VX K g 4 0 0 (a_fin K g 0 0 em_i) 4 [(0, p_rf g o0), (1, .int i1), (2, .int i2), (3, .int i3)] [] h (fX4_mostLeft_L4 o0 i1 kx n i2 i3 h) := by
  intro n
  induction n with
  | zero =>
    intros
    exact r_none
  | succ n ih =>
    intro i2 i3 h
    rw [fX4_mostLeft_L4]
    refine r_iload_n C dX4_mostLeft_4 3 rfl ?_
    refine r_bipush C dX4_mostLeft_5 k_b9 ?_
    refine r_icmp_gt (tgt := 32) C dX4_mostLeft_7 (by decide) ?_ ?_
    · refine r_perm (lv' := [(2, .int i2)]) [2] rfl ?_
      exact hk i2 h
    · refine r_iload_n C dX4_mostLeft_10 2 rfl ?_
      refine r_aload_n C dX4_mostLeft_11 0 rfl ?_
      refine r_gr C wf_X4_21_3 dX4_mostLeft_12 (fun q1 => ?_)
      refine r_iload_n C dX4_mostLeft_15 1 rfl ?_
      refine r_bipush C dX4_mostLeft_16 k_b10 ?_
      refine r_imul C dX4_mostLeft_18 ?_
      refine r_iload_n C dX4_mostLeft_19 3 rfl ?_
      refine r_iadd C dX4_mostLeft_20 ?_
      refine r_iald C dX4_mostLeft_21 (fun x2 => ?_)
      refine r_max C wm_X4_132 (Nat.le_of_ble_eq_true rfl) (Nat.le_of_ble_eq_true rfl) ⟨Nat.le_of_ble_eq_true rfl, Nat.le_of_ble_eq_true rfl⟩ dX4_mostLeft_22 ?_
      refine r_topi (fun x3 => ?_)
      refine r_istore_n (lv9 := [(2, .int x3), (0, p_rf g o0), (1, .int i1), (3, .int i3)]) C dX4_mostLeft_25 (by decide) rfl ?_
      refine r_iinc (lv' := [(2, .int x3), (0, p_rf g o0), (1, .int i1)]) C dX4_mostLeft_26 3 rfl k_i1 (by decide) (fun _ => rfl) (fun x4 => ?_)
      refine r_goto (tgt := 4) C dX4_mostLeft_29 (by decide) ?_
      refine r_perm (lv' := [(0, p_rf g o0), (1, .int i1), (2, .int x3), (3, .int x4)]) [2, 3, 1, 0] rfl ?_
      exact ih x3 x4 h
set_option maxRecDepth 100000 in
set_option maxHeartbeats 4000000 in
theorem tcX4_mostLeft (l : Launch) (g : WG) (hg : p_al g = false) (o0 : Nat) (i1 : Int32) (h : PH) : CT l g 1 0 0 yX4_mostLeft cX4_mostLeft 4 (some .int) em_i [p_rf g o0, .int i1] h (fX4_mostLeft o0 i1 h) := by
  refine CT_of (own := RX4) (nm := "mostLeft") (by decide +kernel) (Nat.le_of_ble_eq_true rfl) rfl rfl rfl ⟨rfl, rfl⟩ (fun K hK C => ?_)
  subst hK
  unfold fX4_mostLeft
  show VX K g _ _ _ _ _ [(0, p_rf g o0), (1, .int i1)] _ _ _
  refine r_iconst C dX4_mostLeft_0 k_i0 ?_
  refine r_istore_n (lv9 := [(2, .int (0 : Int32)), (0, p_rf g o0), (1, .int i1)]) C dX4_mostLeft_1 (by decide) rfl ?_
  refine r_iconst C dX4_mostLeft_2 k_i0 ?_
  refine r_istore_n (lv9 := [(3, .int (0 : Int32)), (2, .int (0 : Int32)), (0, p_rf g o0), (1, .int i1)]) C dX4_mostLeft_3 (by decide) rfl ?_
  refine r_perm (lv' := [(0, p_rf g o0), (1, .int i1), (2, .int (0 : Int32)), (3, .int (0 : Int32))]) [2, 3, 1, 0] rfl ?_
  refine tX4_mostLeft_L4 hg C o0 i1 (fun x1 h2 => ?_) FU (0 : Int32) (0 : Int32) h
  refine r_iload_n C dX4_mostLeft_32 0 rfl ?_
  exact r_iret C dX4_mostLeft_33
set_option maxRecDepth 100000 in
set_option maxHeartbeats 4000000 in
theorem tX4_bestLook_J48_11 {K : AC} {g : WG} (hg : p_al g = false)  (C : Cx K g cX4_bestLook 6 RX4 (some .int) "bestLook" 7 0 0) (o0 : Nat) (i1 : Int32) (i2 : Int32) (i3 : Int32) (i4 : Int32)    {rc : Int32 → PH → Option (Int32 × PH)} {kx : PH → Option (Int32 × PH)} (hr : ∀ (i4' : Int32) (h : PH), VX K g 6 0 0 (a_fin K g 0 0 em_i) 11 [(0, p_rf g o0), (1, .int i1), (2, .int i2), (3, .int i3), (4, .int i4')] [] h (rc i4' h)) (hk : ∀  (h : PH), VX K g 6 0 0 (a_fin K g 0 0 em_i) 54 [(0, p_rf g o0)] [] h (kx  h)) (h : PH) : VX K g 6 0 0 (a_fin K g 0 0 em_i) 48 [(0, p_rf g o0), (1, .int i1), (2, .int i2), (3, .int i3), (4, .int i4)] [] h (fX4_bestLook_J48_11 rc kx o0 i1 i2 i3 i4 h) := by
  unfold fX4_bestLook_J48_11
  refine r_iinc (lv' := [(0, p_rf g o0), (1, .int i1), (2, .int i2), (3, .int i3)]) C dX4_bestLook_48 4 rfl k_i1 (by decide) (fun _ => rfl) (fun x1 => ?_)
  refine r_goto (tgt := 11) C dX4_bestLook_51 (by decide) ?_
  refine r_perm (lv' := [(0, p_rf g o0), (1, .int i1), (2, .int i2), (3, .int i3), (4, .int x1)]) [1, 2, 3, 4, 0] rfl ?_
  exact hr x1 h
set_option maxRecDepth 100000 in
set_option maxHeartbeats 4000000 in
theorem tX4_bestLook_L11 {K : AC} {g : WG} (hg : p_al g = false)  (C : Cx K g cX4_bestLook 6 RX4 (some .int) "bestLook" 7 0 0) (o0 : Nat) (i1 : Int32) (i2 : Int32) (i3 : Int32) {kx : PH → Option (Int32 × PH)} (hk : ∀  (h : PH), VX K g 6 0 0 (a_fin K g 0 0 em_i) 54 [(0, p_rf g o0)] [] h (kx h)) : ∀ (n : Nat) (i4 : Int32) (h : PH), VX K g 6 0 0 (a_fin K g 0 0 em_i) 11 [(0, p_rf g o0), (1, .int i1), (2, .int i2), (3, .int i3), (4, .int i4)] [] h (fX4_bestLook_L11 o0 i1 i2 i3 kx n i4 h) := by
  intro n
  induction n with
  | zero =>
    intros
    exact r_none
  | succ n ih =>
    intro i4 h
    rw [fX4_bestLook_L11]
    refine r_iload C dX4_bestLook_11 4 rfl ?_
    refine r_aload_n C dX4_bestLook_13 0 rfl ?_
    refine r_gr C wf_X4_39_3 dX4_bestLook_14 (fun q1 => ?_)
    refine r_cvi (As := []) (st := [.int i4]) C wv_X4_60 (tcX0_groundSize K.2.1 g hg q1 h) (Nat.le_of_ble_eq_true rfl) rfl rfl (Nat.le_of_ble_eq_true rfl) dX4_bestLook_17 ⟨Nat.le_of_ble_eq_true rfl, Nat.le_of_ble_eq_true rfl⟩ (fun x2 h3 => ?_)
    refine r_icmp_ge (tgt := 54) C dX4_bestLook_20 (by decide) ?_ ?_
    · refine r_perm (lv' := [(0, p_rf g o0)]) [0] rfl ?_
      exact hk h3
    · refine r_iload C dX4_bestLook_23 4 rfl ?_
      refine r_iload_n C dX4_bestLook_25 3 rfl ?_
      refine r_cni (As := [.int i4, .int i3]) (st := []) C wn_X4_66 (tcX11_isIn K.2.1 g hg i4 i3 h3) (Nat.le_of_ble_eq_true rfl) rfl rfl (Nat.le_of_ble_eq_true rfl) dX4_bestLook_26 ⟨Nat.le_of_ble_eq_true rfl, Nat.le_of_ble_eq_true rfl⟩ (fun x4 h5 => ?_)
      refine r_if_eq (tgt := 48) C dX4_bestLook_29 (by decide) ?_ ?_
      · exact tX4_bestLook_J48_11 hg C o0 i1 i2 i3 i4 ih hk h5
      · refine r_aload_n C dX4_bestLook_32 0 rfl ?_
        refine r_iload_n C dX4_bestLook_33 1 rfl ?_
        refine r_iconst C dX4_bestLook_34 k_i1 ?_
        refine r_iload C dX4_bestLook_35 4 rfl ?_
        refine r_ishl C dX4_bestLook_37 ?_
        refine r_iload_n C dX4_bestLook_38 2 rfl ?_
        refine r_cvi (As := [.int i1, .int ((1 : Int32) <<< (i4 &&& 31)), .int i2]) (st := []) C wv_X4_104 (tcX4_wantsWith K.2.1 g hg o0 i1 ((1 : Int32) <<< (i4 &&& 31)) i2 h5) (Nat.le_of_ble_eq_true rfl) rfl rfl (Nat.le_of_ble_eq_true rfl) dX4_bestLook_39 ⟨Nat.le_of_ble_eq_true rfl, Nat.le_of_ble_eq_true rfl⟩ (fun x6 h7 => ?_)
        refine r_pop C dX4_bestLook_42 rfl ?_
        refine r_aload_n C dX4_bestLook_43 0 rfl ?_
        refine r_iload_n C dX4_bestLook_44 1 rfl ?_
        refine r_cvv (As := [.int i1]) (st := []) C wv_X4_151 (tcX4_tallyHumours K.2.1 g hg o0 i1 h7) (Nat.le_of_ble_eq_true rfl) rfl rfl (Nat.le_of_ble_eq_true rfl) dX4_bestLook_45 ⟨Nat.le_of_ble_eq_true rfl, Nat.le_of_ble_eq_true rfl⟩ (fun h8 => ?_)
        exact tX4_bestLook_J48_11 hg C o0 i1 i2 i3 i4 ih hk h8
set_option maxRecDepth 100000 in
set_option maxHeartbeats 4000000 in
theorem tX4_bestLook_J88_60 {K : AC} {g : WG} (hg : p_al g = false)  (C : Cx K g cX4_bestLook 6 RX4 (some .int) "bestLook" 7 0 0) (o0 : Nat) (i5 : Int32) (s0 : Int32)    {rc : Int32 → Int32 → PH → Option (Int32 × PH)} {kx : Int32 → PH → Option (Int32 × PH)} (hr : ∀ (i4' : Int32) (i5' : Int32) (h : PH), VX K g 6 0 0 (a_fin K g 0 0 em_i) 60 [(0, p_rf g o0), (4, .int i4'), (5, .int i5')] [] h (rc i4' i5' h)) (hk : ∀ (i4' : Int32) (h : PH), VX K g 6 0 0 (a_fin K g 0 0 em_i) 96 [(0, p_rf g o0), (4, .int i4')] [] h (kx i4' h)) (h : PH) : VX K g 6 0 0 (a_fin K g 0 0 em_i) 88 [(0, p_rf g o0), (5, .int i5)] [.int s0] h (fX4_bestLook_J88_60 rc kx o0 i5 s0 h) := by
  unfold fX4_bestLook_J88_60
  refine r_istore (lv9 := [(4, .int s0), (0, p_rf g o0), (5, .int i5)]) C dX4_bestLook_88 (by decide) rfl ?_
  refine r_iinc (lv' := [(4, .int s0), (0, p_rf g o0)]) C dX4_bestLook_90 2 rfl k_i1 (by decide) (fun _ => rfl) (fun x1 => ?_)
  refine r_goto (tgt := 60) C dX4_bestLook_93 (by decide) ?_
  refine r_perm (lv' := [(0, p_rf g o0), (4, .int s0), (5, .int x1)]) [2, 1, 0] rfl ?_
  exact hr s0 x1 h
set_option maxRecDepth 100000 in
set_option maxHeartbeats 4000000 in
theorem tX4_bestLook_L60 {K : AC} {g : WG} (hg : p_al g = false)  (C : Cx K g cX4_bestLook 6 RX4 (some .int) "bestLook" 7 0 0) (o0 : Nat) {kx : Int32 → PH → Option (Int32 × PH)} (hk : ∀ (i4 : Int32) (h : PH), VX K g 6 0 0 (a_fin K g 0 0 em_i) 96 [(0, p_rf g o0), (4, .int i4)] [] h (kx i4 h)) : ∀ (n : Nat) (i4 : Int32) (i5 : Int32) (h : PH), VX K g 6 0 0 (a_fin K g 0 0 em_i) 60 [(0, p_rf g o0), (4, .int i4), (5, .int i5)] [] h (fX4_bestLook_L60 o0 kx n i4 i5 h) := by
  intro n
  induction n with
  | zero =>
    intros
    exact r_none
  | succ n ih =>
    intro i4 i5 h
    rw [fX4_bestLook_L60]
    refine r_iload C dX4_bestLook_60 2 rfl ?_
    refine r_iconst C dX4_bestLook_62 k_i4 ?_
    refine r_icmp_ge (tgt := 96) C dX4_bestLook_63 (by decide) ?_ ?_
    · refine r_perm (lv' := [(0, p_rf g o0), (4, .int i4)]) [0, 1] rfl ?_
      exact hk i4 h
    · refine r_aload_n C dX4_bestLook_66 0 rfl ?_
      refine r_iload C dX4_bestLook_67 2 rfl ?_
      refine r_cvi (As := [.int i5]) (st := []) C wv_X4_155 (tcX4_mostLeft K.2.1 g hg o0 i5 h) (Nat.le_of_ble_eq_true rfl) rfl rfl (Nat.le_of_ble_eq_true rfl) dX4_bestLook_69 ⟨Nat.le_of_ble_eq_true rfl, Nat.le_of_ble_eq_true rfl⟩ (fun x1 h2 => ?_)
      refine r_aload_n C dX4_bestLook_72 0 rfl ?_
      refine r_iload C dX4_bestLook_73 1 rfl ?_
      refine r_cvi (As := [.int i4]) (st := [.int x1]) C wv_X4_155 (tcX4_mostLeft K.2.1 g hg o0 i4 h2) (Nat.le_of_ble_eq_true rfl) rfl rfl (Nat.le_of_ble_eq_true rfl) dX4_bestLook_75 ⟨Nat.le_of_ble_eq_true rfl, Nat.le_of_ble_eq_true rfl⟩ (fun x3 h4 => ?_)
      refine r_icmp_ge (tgt := 86) C dX4_bestLook_78 (by decide) ?_ ?_
      · refine r_iload C dX4_bestLook_86 1 rfl ?_
        refine r_perm (lv' := [(0, p_rf g o0), (5, .int i5)]) [0, 2] rfl ?_
        exact tX4_bestLook_J88_60 hg C o0 i5 i4 ih hk h4
      · refine r_iload C dX4_bestLook_81 2 rfl ?_
        refine r_goto (tgt := 88) C dX4_bestLook_83 (by decide) ?_
        refine r_perm (lv' := [(0, p_rf g o0), (5, .int i5)]) [0, 2] rfl ?_
        exact tX4_bestLook_J88_60 hg C o0 i5 i5 ih hk h4
set_option maxRecDepth 100000 in
set_option maxHeartbeats 4000000 in
theorem tcX4_bestLook (l : Launch) (g : WG) (hg : p_al g = false) (o0 : Nat) (i1 : Int32) (i2 : Int32) (i3 : Int32) (h : PH) : CT l g 7 0 0 yX4_bestLook cX4_bestLook 6 (some .int) em_i [p_rf g o0, .int i1, .int i2, .int i3] h (fX4_bestLook o0 i1 i2 i3 h) := by
  refine CT_of (own := RX4) (nm := "bestLook") (by decide +kernel) (Nat.le_of_ble_eq_true rfl) rfl rfl rfl ⟨rfl, rfl⟩ (fun K hK C => ?_)
  subst hK
  unfold fX4_bestLook
  show VX K g _ _ _ _ _ [(0, p_rf g o0), (1, .int i1), (2, .int i2), (3, .int i3)] _ _ _
  refine r_aload_n C dX4_bestLook_0 0 rfl ?_
  refine r_gr C wf_X4_21_3 dX4_bestLook_1 (fun q1 => ?_)
  refine r_iconst C dX4_bestLook_4 k_i0 ?_
  refine r_csv (As := [p_rf g q1, .int (0 : Int32)]) (st := []) C ws_X4_145 (tcJ7_fill_53178 K.2.1 g hg q1 (0 : Int32) h) (Nat.le_of_ble_eq_true rfl) rfl rfl (Nat.le_of_ble_eq_true rfl) dX4_bestLook_5 ⟨Nat.le_of_ble_eq_true rfl, Nat.le_of_ble_eq_true rfl⟩ (fun h2 => ?_)
  refine r_iconst C dX4_bestLook_8 k_i0 ?_
  refine r_istore (lv9 := [(4, .int (0 : Int32)), (0, p_rf g o0), (1, .int i1), (2, .int i2), (3, .int i3)]) C dX4_bestLook_9 (by decide) rfl ?_
  refine r_perm (lv' := [(0, p_rf g o0), (1, .int i1), (2, .int i2), (3, .int i3), (4, .int (0 : Int32))]) [1, 2, 3, 4, 0] rfl ?_
  refine tX4_bestLook_L11 hg C o0 i1 i2 i3 (fun h3 => ?_) FU (0 : Int32) h2
  refine r_iconst C dX4_bestLook_54 k_i0 ?_
  refine r_istore (lv9 := [(4, .int (0 : Int32)), (0, p_rf g o0)]) C dX4_bestLook_55 (by decide) rfl ?_
  refine r_iconst C dX4_bestLook_57 k_i1 ?_
  refine r_istore (lv9 := [(5, .int (1 : Int32)), (4, .int (0 : Int32)), (0, p_rf g o0)]) C dX4_bestLook_58 (by decide) rfl ?_
  refine r_perm (lv' := [(0, p_rf g o0), (4, .int (0 : Int32)), (5, .int (1 : Int32))]) [2, 1, 0] rfl ?_
  refine tX4_bestLook_L60 hg C o0 (fun x4 h5 => ?_) FU (0 : Int32) (1 : Int32) h3
  refine r_aload_n C dX4_bestLook_96 0 rfl ?_
  refine r_gr C wf_X4_50_3 dX4_bestLook_97 (fun q6 => ?_)
  refine r_cvv (As := []) (st := []) C wv_X4_108 (tcX3_start K.2.1 g hg q6 h5) (Nat.le_of_ble_eq_true rfl) rfl rfl (Nat.le_of_ble_eq_true rfl) dX4_bestLook_100 ⟨Nat.le_of_ble_eq_true rfl, Nat.le_of_ble_eq_true rfl⟩ (fun h7 => ?_)
  refine r_aload_n C dX4_bestLook_103 0 rfl ?_
  refine r_gr C wf_X4_50_3 dX4_bestLook_104 (fun q8 => ?_)
  refine r_aload_n C dX4_bestLook_107 0 rfl ?_
  refine r_iload C dX4_bestLook_108 1 rfl ?_
  refine r_cvi (As := [.int x4]) (st := [p_rf g q8]) C wv_X4_155 (tcX4_mostLeft K.2.1 g hg o0 x4 h7) (Nat.le_of_ble_eq_true rfl) rfl rfl (Nat.le_of_ble_eq_true rfl) dX4_bestLook_110 ⟨Nat.le_of_ble_eq_true rfl, Nat.le_of_ble_eq_true rfl⟩ (fun x9 h10 => ?_)
  refine r_i2l C dX4_bestLook_113 ?_
  refine r_cvv (As := [.long (x9.toInt64)]) (st := []) C wv_X4_113 (tcX3_add K.2.1 g hg q8 (x9.toInt64) h10) (Nat.le_of_ble_eq_true rfl) rfl rfl (Nat.le_of_ble_eq_true rfl) dX4_bestLook_114 ⟨Nat.le_of_ble_eq_true rfl, Nat.le_of_ble_eq_true rfl⟩ (fun h11 => ?_)
  refine r_iload C dX4_bestLook_117 1 rfl ?_
  exact r_iret C dX4_bestLook_119
set_option maxRecDepth 100000 in
set_option maxHeartbeats 4000000 in
theorem tX4_servedTogether_J34_4 {K : AC} {g : WG} (hg : p_al g = false)  (C : Cx K g cX4_servedTogether 4 RX4 (some .int) "servedTogether" 2 0 0) (o0 : Nat) (i1 : Int32) (i3 : Int32) (s0 : Int32) (s1 : Int32)    {rc : Int32 → Int32 → PH → Option (Int32 × PH)} {kx : Int32 → PH → Option (Int32 × PH)} (hr : ∀ (i2' : Int32) (i3' : Int32) (h : PH), VX K g 4 0 0 (a_fin K g 0 0 em_i) 4 [(0, p_rf g o0), (1, .int i1), (2, .int i2'), (3, .int i3')] [] h (rc i2' i3' h)) (hk : ∀ (i2' : Int32) (h : PH), VX K g 4 0 0 (a_fin K g 0 0 em_i) 42 [(2, .int i2')] [] h (kx i2' h)) (h : PH) : VX K g 4 0 0 (a_fin K g 0 0 em_i) 34 [(0, p_rf g o0), (1, .int i1), (3, .int i3)] [.int s0, .int s1] h (fX4_servedTogether_J34_4 rc kx o0 i1 i3 s0 s1 h) := by
  unfold fX4_servedTogether_J34_4
  refine r_ior C dX4_servedTogether_34 ?_
  refine r_topi (fun x1 => ?_)
  refine r_istore_n (lv9 := [(2, .int x1), (0, p_rf g o0), (1, .int i1), (3, .int i3)]) C dX4_servedTogether_35 (by decide) rfl ?_
  refine r_iinc (lv' := [(2, .int x1), (0, p_rf g o0), (1, .int i1)]) C dX4_servedTogether_36 3 rfl k_i1 (by decide) (fun _ => rfl) (fun x2 => ?_)
  refine r_goto (tgt := 4) C dX4_servedTogether_39 (by decide) ?_
  refine r_perm (lv' := [(0, p_rf g o0), (1, .int i1), (2, .int x1), (3, .int x2)]) [2, 3, 1, 0] rfl ?_
  exact hr x1 x2 h
set_option maxRecDepth 100000 in
set_option maxHeartbeats 4000000 in
theorem tX4_servedTogether_L4 {K : AC} {g : WG} (hg : p_al g = false)  (C : Cx K g cX4_servedTogether 4 RX4 (some .int) "servedTogether" 2 0 0) (o0 : Nat) (i1 : Int32) {kx : Int32 → PH → Option (Int32 × PH)} (hk : ∀ (i2 : Int32) (h : PH), VX K g 4 0 0 (a_fin K g 0 0 em_i) 42 [(2, .int i2)] [] h (kx i2 h)) : ∀ (n : Nat) (i2 : Int32) (i3 : Int32) (h : PH), VX K g 4 0 0 (a_fin K g 0 0 em_i) 4 [(0, p_rf g o0), (1, .int i1), (2, .int i2), (3, .int i3)] [] h (fX4_servedTogether_L4 o0 i1 kx n i2 i3 h) := by
  intro n
  induction n with
  | zero =>
    intros
    exact r_none
  | succ n ih =>
    intro i2 i3 h
    rw [fX4_servedTogether_L4]
    refine r_iload_n C dX4_servedTogether_4 3 rfl ?_
    refine r_aload_n C dX4_servedTogether_5 0 rfl ?_
    refine r_gr C wf_X4_39_3 dX4_servedTogether_6 (fun q1 => ?_)
    refine r_cvi (As := []) (st := [.int i3]) C wv_X4_60 (tcX0_groundSize K.2.1 g hg q1 h) (Nat.le_of_ble_eq_true rfl) rfl rfl (Nat.le_of_ble_eq_true rfl) dX4_servedTogether_9 ⟨Nat.le_of_ble_eq_true rfl, Nat.le_of_ble_eq_true rfl⟩ (fun x2 h3 => ?_)
    refine r_icmp_ge (tgt := 42) C dX4_servedTogether_12 (by decide) ?_ ?_
    · refine r_perm (lv' := [(2, .int i2)]) [2] rfl ?_
      exact hk i2 h3
    · refine r_iload_n C dX4_servedTogether_15 2 rfl ?_
      refine r_iload_n C dX4_servedTogether_16 3 rfl ?_
      refine r_iload_n C dX4_servedTogether_17 1 rfl ?_
      refine r_cni (As := [.int i3, .int i1]) (st := [.int i2]) C wn_X4_66 (tcX11_isIn K.2.1 g hg i3 i1 h3) (Nat.le_of_ble_eq_true rfl) rfl rfl (Nat.le_of_ble_eq_true rfl) dX4_servedTogether_18 ⟨Nat.le_of_ble_eq_true rfl, Nat.le_of_ble_eq_true rfl⟩ (fun x4 h5 => ?_)
      refine r_if_eq (tgt := 33) C dX4_servedTogether_21 (by decide) ?_ ?_
      · refine r_iconst C dX4_servedTogether_33 k_i0 ?_
        refine r_perm (lv' := [(0, p_rf g o0), (1, .int i1), (3, .int i3)]) [0, 1, 3] rfl ?_
        exact tX4_servedTogether_J34_4 hg C o0 i1 i3 (0 : Int32) i2 ih hk h5
      · refine r_aload_n C dX4_servedTogether_24 0 rfl ?_
        refine r_gr C wf_X4_24_3 dX4_servedTogether_25 (fun q6 => ?_)
        refine r_iload_n C dX4_servedTogether_28 3 rfl ?_
        refine r_iald C dX4_servedTogether_29 (fun x7 => ?_)
        refine r_goto (tgt := 34) C dX4_servedTogether_30 (by decide) ?_
        refine r_perm (lv' := [(0, p_rf g o0), (1, .int i1), (3, .int i3)]) [0, 1, 3] rfl ?_
        exact tX4_servedTogether_J34_4 hg C o0 i1 i3 x7 i2 ih hk h5
set_option maxRecDepth 100000 in
set_option maxHeartbeats 4000000 in
theorem tcX4_servedTogether (l : Launch) (g : WG) (hg : p_al g = false) (o0 : Nat) (i1 : Int32) (h : PH) : CT l g 2 0 0 yX4_servedTogether cX4_servedTogether 4 (some .int) em_i [p_rf g o0, .int i1] h (fX4_servedTogether o0 i1 h) := by
  refine CT_of (own := RX4) (nm := "servedTogether") (by decide +kernel) (Nat.le_of_ble_eq_true rfl) rfl rfl rfl ⟨rfl, rfl⟩ (fun K hK C => ?_)
  subst hK
  unfold fX4_servedTogether
  show VX K g _ _ _ _ _ [(0, p_rf g o0), (1, .int i1)] _ _ _
  refine r_iconst C dX4_servedTogether_0 k_i0 ?_
  refine r_istore_n (lv9 := [(2, .int (0 : Int32)), (0, p_rf g o0), (1, .int i1)]) C dX4_servedTogether_1 (by decide) rfl ?_
  refine r_iconst C dX4_servedTogether_2 k_i0 ?_
  refine r_istore_n (lv9 := [(3, .int (0 : Int32)), (2, .int (0 : Int32)), (0, p_rf g o0), (1, .int i1)]) C dX4_servedTogether_3 (by decide) rfl ?_
  refine r_perm (lv' := [(0, p_rf g o0), (1, .int i1), (2, .int (0 : Int32)), (3, .int (0 : Int32))]) [2, 3, 1, 0] rfl ?_
  refine tX4_servedTogether_L4 hg C o0 i1 (fun x1 h2 => ?_) FU (0 : Int32) (0 : Int32) h
  refine r_iload_n C dX4_servedTogether_42 0 rfl ?_
  exact r_iret C dX4_servedTogether_43
set_option maxRecDepth 100000 in
set_option maxHeartbeats 4000000 in
theorem tX4_fewestForAll_J65_22 {K : AC} {g : WG} (hg : p_al g = false)  (C : Cx K g cX4_fewestForAll 5 RX4 (some .int) "fewestForAll" 7 0 0) (o0 : Nat) (i1 : Int32) (i2 : Int32) (i3 : Int32) (s0 : Int32) (s1 : Int32) (s2 : Int32) (s3 : Nat)    {rc : Int32 → PH → Option (Int32 × PH)} {kx : PH → Option (Int32 × PH)} (hr : ∀ (i3' : Int32) (h : PH), VX K g 5 0 0 (a_fin K g 0 0 em_i) 22 [(0, p_rf g o0), (1, .int i1), (2, .int i2), (3, .int i3')] [] h (rc i3' h)) (hk : ∀  (h : PH), VX K g 5 0 0 (a_fin K g 0 0 em_i) 73 [(0, p_rf g o0), (1, .int i1), (2, .int i2)] [] h (kx  h)) (h : PH) : VX K g 5 0 0 (a_fin K g 0 0 em_i) 65 [(0, p_rf g o0), (1, .int i1), (2, .int i2), (3, .int i3)] [.int s0, .int s1, .int s2, p_rf g s3] h (fX4_fewestForAll_J65_22 rc kx o0 i1 i2 i3 s0 s1 s2 s3 h) := by
  unfold fX4_fewestForAll_J65_22
  refine r_ior C dX4_fewestForAll_65 ?_
  refine r_iast C dX4_fewestForAll_66 (fun h1 => ?_)
  refine r_iinc (lv' := [(0, p_rf g o0), (1, .int i1), (2, .int i2)]) C dX4_fewestForAll_67 3 rfl k_i1 (by decide) (fun _ => rfl) (fun x2 => ?_)
  refine r_goto (tgt := 22) C dX4_fewestForAll_70 (by decide) ?_
  refine r_perm (lv' := [(0, p_rf g o0), (1, .int i1), (2, .int i2), (3, .int x2)]) [1, 2, 3, 0] rfl ?_
  exact hr x2 h1
set_option maxRecDepth 100000 in
set_option maxHeartbeats 4000000 in
theorem tX4_fewestForAll_L22 {K : AC} {g : WG} (hg : p_al g = false)  (C : Cx K g cX4_fewestForAll 5 RX4 (some .int) "fewestForAll" 7 0 0) (o0 : Nat) (i1 : Int32) (i2 : Int32) {kx : PH → Option (Int32 × PH)} (hk : ∀  (h : PH), VX K g 5 0 0 (a_fin K g 0 0 em_i) 73 [(0, p_rf g o0), (1, .int i1), (2, .int i2)] [] h (kx h)) : ∀ (n : Nat) (i3 : Int32) (h : PH), VX K g 5 0 0 (a_fin K g 0 0 em_i) 22 [(0, p_rf g o0), (1, .int i1), (2, .int i2), (3, .int i3)] [] h (fX4_fewestForAll_L22 o0 i1 i2 kx n i3 h) := by
  intro n
  induction n with
  | zero =>
    intros
    exact r_none
  | succ n ih =>
    intro i3 h
    rw [fX4_fewestForAll_L22]
    refine r_iload_n C dX4_fewestForAll_22 3 rfl ?_
    refine r_aload_n C dX4_fewestForAll_23 0 rfl ?_
    refine r_gr C wf_X4_39_3 dX4_fewestForAll_24 (fun q1 => ?_)
    refine r_cvi (As := []) (st := [.int i3]) C wv_X4_161 (tcX0_personSize K.2.1 g hg q1 h) (Nat.le_of_ble_eq_true rfl) rfl rfl (Nat.le_of_ble_eq_true rfl) dX4_fewestForAll_27 ⟨Nat.le_of_ble_eq_true rfl, Nat.le_of_ble_eq_true rfl⟩ (fun x2 h3 => ?_)
    refine r_icmp_ge (tgt := 73) C dX4_fewestForAll_30 (by decide) ?_ ?_
    · refine r_perm (lv' := [(0, p_rf g o0), (1, .int i1), (2, .int i2)]) [0, 1, 2] rfl ?_
      exact hk h3
    · refine r_aload_n C dX4_fewestForAll_33 0 rfl ?_
      refine r_gr C wf_X4_24_3 dX4_fewestForAll_34 (fun q4 => ?_)
      refine r_iload_n C dX4_fewestForAll_37 2 rfl ?_
      refine r_dup2 C dX4_fewestForAll_38 rfl rfl ?_
      refine r_iald C dX4_fewestForAll_39 (fun x5 => ?_)
      refine r_aload_n C dX4_fewestForAll_40 0 rfl ?_
      refine r_gr C wf_X4_43_3 dX4_fewestForAll_41 (fun q6 => ?_)
      refine r_iload_n C dX4_fewestForAll_44 3 rfl ?_
      refine r_iload_n C dX4_fewestForAll_45 2 rfl ?_
      refine r_cvi (As := [.int i3, .int i2]) (st := [.int x5, .int i2, p_rf g q4]) C wv_X4_92 (tcX8_holds K.2.1 g hg q6 i3 i2 h3) (Nat.le_of_ble_eq_true rfl) rfl rfl (Nat.le_of_ble_eq_true rfl) dX4_fewestForAll_46 ⟨Nat.le_of_ble_eq_true rfl, Nat.le_of_ble_eq_true rfl⟩ (fun x7 h8 => ?_)
      refine r_if_eq (tgt := 56) C dX4_fewestForAll_49 (by decide) ?_ ?_
      · refine r_aload_n C dX4_fewestForAll_56 0 rfl ?_
        refine r_iload_n C dX4_fewestForAll_57 3 rfl ?_
        refine r_iconst C dX4_fewestForAll_58 k_i1 ?_
        refine r_iload_n C dX4_fewestForAll_59 2 rfl ?_
        refine r_ishl C dX4_fewestForAll_60 ?_
        refine r_iload_n C dX4_fewestForAll_61 1 rfl ?_
        refine r_cvi (As := [.int i3, .int ((1 : Int32) <<< (i2 &&& 31)), .int i1]) (st := [.int x5, .int i2, p_rf g q4]) C wv_X4_104 (tcX4_wantsWith K.2.1 g hg o0 i3 ((1 : Int32) <<< (i2 &&& 31)) i1 h8) (Nat.le_of_ble_eq_true rfl) rfl rfl (Nat.le_of_ble_eq_true rfl) dX4_fewestForAll_62 ⟨Nat.le_of_ble_eq_true rfl, Nat.le_of_ble_eq_true rfl⟩ (fun x9 h10 => ?_)
        exact tX4_fewestForAll_J65_22 hg C o0 i1 i2 i3 x9 x5 i2 q4 ih hk h10
      · refine r_iconst C dX4_fewestForAll_52 k_i0 ?_
        refine r_goto (tgt := 65) C dX4_fewestForAll_53 (by decide) ?_
        exact tX4_fewestForAll_J65_22 hg C o0 i1 i2 i3 (0 : Int32) x5 i2 q4 ih hk h8
set_option maxRecDepth 100000 in
set_option maxHeartbeats 4000000 in
theorem tX4_fewestForAll_L2 {K : AC} {g : WG} (hg : p_al g = false)  (C : Cx K g cX4_fewestForAll 5 RX4 (some .int) "fewestForAll" 7 0 0) (o0 : Nat) (i1 : Int32) {kx : PH → Option (Int32 × PH)} (hk : ∀  (h : PH), VX K g 5 0 0 (a_fin K g 0 0 em_i) 79 [(0, p_rf g o0)] [] h (kx h)) : ∀ (n : Nat) (i2 : Int32) (h : PH), VX K g 5 0 0 (a_fin K g 0 0 em_i) 2 [(0, p_rf g o0), (1, .int i1), (2, .int i2)] [] h (fX4_fewestForAll_L2 o0 i1 kx n i2 h) := by
  intro n
  induction n with
  | zero =>
    intros
    exact r_none
  | succ n ih =>
    intro i2 h
    rw [fX4_fewestForAll_L2]
    refine r_iload_n C dX4_fewestForAll_2 2 rfl ?_
    refine r_aload_n C dX4_fewestForAll_3 0 rfl ?_
    refine r_gr C wf_X4_39_3 dX4_fewestForAll_4 (fun q1 => ?_)
    refine r_cvi (As := []) (st := [.int i2]) C wv_X4_60 (tcX0_groundSize K.2.1 g hg q1 h) (Nat.le_of_ble_eq_true rfl) rfl rfl (Nat.le_of_ble_eq_true rfl) dX4_fewestForAll_7 ⟨Nat.le_of_ble_eq_true rfl, Nat.le_of_ble_eq_true rfl⟩ (fun x2 h3 => ?_)
    refine r_icmp_ge (tgt := 79) C dX4_fewestForAll_10 (by decide) ?_ ?_
    · refine r_perm (lv' := [(0, p_rf g o0)]) [0] rfl ?_
      exact hk h3
    · refine r_aload_n C dX4_fewestForAll_13 0 rfl ?_
      refine r_gr C wf_X4_24_3 dX4_fewestForAll_14 (fun q4 => ?_)
      refine r_iload_n C dX4_fewestForAll_17 2 rfl ?_
      refine r_iconst C dX4_fewestForAll_18 k_i0 ?_
      refine r_iast C dX4_fewestForAll_19 (fun h5 => ?_)
      refine r_iconst C dX4_fewestForAll_20 k_i0 ?_
      refine r_istore_n (lv9 := [(3, .int (0 : Int32)), (0, p_rf g o0), (1, .int i1), (2, .int i2)]) C dX4_fewestForAll_21 (by decide) rfl ?_
      refine r_perm (lv' := [(0, p_rf g o0), (1, .int i1), (2, .int i2), (3, .int (0 : Int32))]) [1, 2, 3, 0] rfl ?_
      refine tX4_fewestForAll_L22 hg C o0 i1 i2 (fun h6 => ?_) FU (0 : Int32) h5
      refine r_iinc (lv' := [(0, p_rf g o0), (1, .int i1)]) C dX4_fewestForAll_73 2 rfl k_i1 (by decide) (fun _ => rfl) (fun x7 => ?_)
      refine r_goto (tgt := 2) C dX4_fewestForAll_76 (by decide) ?_
      refine r_perm (lv' := [(0, p_rf g o0), (1, .int i1), (2, .int x7)]) [1, 2, 0] rfl ?_
      exact ih x7 h6
set_option maxRecDepth 100000 in
set_option maxHeartbeats 4000000 in
theorem tX4_fewestForAll_J144_84 {K : AC} {g : WG} (hg : p_al g = false)  (C : Cx K g cX4_fewestForAll 5 RX4 (some .int) "fewestForAll" 7 0 0) (o0 : Nat) (i3 : Int32) (s0 : Int32)    {rc : Int32 → Int32 → PH → Option (Int32 × PH)} {kx : Int32 → PH → Option (Int32 × PH)} (hr : ∀ (i2' : Int32) (i3' : Int32) (h : PH), VX K g 5 0 0 (a_fin K g 0 0 em_i) 84 [(0, p_rf g o0), (2, .int i2'), (3, .int i3')] [] h (rc i2' i3' h)) (hk : ∀ (i2' : Int32) (h : PH), VX K g 5 0 0 (a_fin K g 0 0 em_i) 151 [(0, p_rf g o0), (2, .int i2')] [] h (kx i2' h)) (h : PH) : VX K g 5 0 0 (a_fin K g 0 0 em_i) 144 [(0, p_rf g o0), (3, .int i3)] [.int s0] h (fX4_fewestForAll_J144_84 rc kx o0 i3 s0 h) := by
  unfold fX4_fewestForAll_J144_84
  refine r_istore_n (lv9 := [(2, .int s0), (0, p_rf g o0), (3, .int i3)]) C dX4_fewestForAll_144 (by decide) rfl ?_
  refine r_iinc (lv' := [(2, .int s0), (0, p_rf g o0)]) C dX4_fewestForAll_145 2 rfl k_i1 (by decide) (fun _ => rfl) (fun x1 => ?_)
  refine r_goto (tgt := 84) C dX4_fewestForAll_148 (by decide) ?_
  refine r_perm (lv' := [(0, p_rf g o0), (2, .int s0), (3, .int x1)]) [2, 1, 0] rfl ?_
  exact hr s0 x1 h
set_option maxRecDepth 100000 in
set_option maxHeartbeats 4000000 in
theorem tX4_fewestForAll_J143_84 {K : AC} {g : WG} (hg : p_al g = false)  (C : Cx K g cX4_fewestForAll 5 RX4 (some .int) "fewestForAll" 7 0 0) (o0 : Nat) (i2 : Int32) (i3 : Int32)    {rc : Int32 → Int32 → PH → Option (Int32 × PH)} {kx : Int32 → PH → Option (Int32 × PH)} (hr : ∀ (i2' : Int32) (i3' : Int32) (h : PH), VX K g 5 0 0 (a_fin K g 0 0 em_i) 84 [(0, p_rf g o0), (2, .int i2'), (3, .int i3')] [] h (rc i2' i3' h)) (hk : ∀ (i2' : Int32) (h : PH), VX K g 5 0 0 (a_fin K g 0 0 em_i) 151 [(0, p_rf g o0), (2, .int i2')] [] h (kx i2' h)) (h : PH) : VX K g 5 0 0 (a_fin K g 0 0 em_i) 143 [(0, p_rf g o0), (2, .int i2), (3, .int i3)] [] h (fX4_fewestForAll_J143_84 rc kx o0 i2 i3 h) := by
  unfold fX4_fewestForAll_J143_84
  refine r_iload_n C dX4_fewestForAll_143 1 rfl ?_
  refine r_perm (lv' := [(0, p_rf g o0), (3, .int i3)]) [0, 2] rfl ?_
  exact tX4_fewestForAll_J144_84 hg C o0 i3 i2 hr hk h
set_option maxRecDepth 100000 in
set_option maxHeartbeats 4000000 in
theorem tX4_fewestForAll_J117_84 {K : AC} {g : WG} (hg : p_al g = false)  (C : Cx K g cX4_fewestForAll 5 RX4 (some .int) "fewestForAll" 7 0 0) (o0 : Nat) (i2 : Int32) (i3 : Int32) (s0 : Int32)    {rc : Int32 → Int32 → PH → Option (Int32 × PH)} {kx : Int32 → PH → Option (Int32 × PH)} (hr : ∀ (i2' : Int32) (i3' : Int32) (h : PH), VX K g 5 0 0 (a_fin K g 0 0 em_i) 84 [(0, p_rf g o0), (2, .int i2'), (3, .int i3')] [] h (rc i2' i3' h)) (hk : ∀ (i2' : Int32) (h : PH), VX K g 5 0 0 (a_fin K g 0 0 em_i) 151 [(0, p_rf g o0), (2, .int i2')] [] h (kx i2' h)) (h : PH) : VX K g 5 0 0 (a_fin K g 0 0 em_i) 117 [(0, p_rf g o0), (2, .int i2), (3, .int i3)] [.int s0] h (fX4_fewestForAll_J117_84 rc kx o0 i2 i3 s0 h) := by
  unfold fX4_fewestForAll_J117_84
  refine r_istore (lv9 := [(4, .int s0), (0, p_rf g o0), (2, .int i2), (3, .int i3)]) C dX4_fewestForAll_117 (by decide) rfl ?_
  refine r_iload C dX4_fewestForAll_119 0 rfl ?_
  refine r_if_eq (tgt := 143) C dX4_fewestForAll_121 (by decide) ?_ ?_
  · refine r_perm (lv' := [(0, p_rf g o0), (2, .int i2), (3, .int i3)]) [1, 2, 3] rfl ?_
    exact tX4_fewestForAll_J143_84 hg C o0 i2 i3 hr hk h
  · refine r_aload_n C dX4_fewestForAll_124 1 rfl ?_
    refine r_iload_n C dX4_fewestForAll_125 3 rfl ?_
    refine r_cvi (As := [.int i3]) (st := []) C wv_X4_164 (tcX4_servedTogether K.2.1 g hg o0 i3 h) (Nat.le_of_ble_eq_true rfl) rfl rfl (Nat.le_of_ble_eq_true rfl) dX4_fewestForAll_126 ⟨Nat.le_of_ble_eq_true rfl, Nat.le_of_ble_eq_true rfl⟩ (fun x1 h2 => ?_)
    refine r_aload_n C dX4_fewestForAll_129 1 rfl ?_
    refine r_gr C wf_X4_39_3 dX4_fewestForAll_130 (fun q3 => ?_)
    refine r_cvi (As := []) (st := [.int x1]) C wv_X4_167 (tcX0_allWants K.2.1 g hg q3 h2) (Nat.le_of_ble_eq_true rfl) rfl rfl (Nat.le_of_ble_eq_true rfl) dX4_fewestForAll_133 ⟨Nat.le_of_ble_eq_true rfl, Nat.le_of_ble_eq_true rfl⟩ (fun x4 h5 => ?_)
    refine r_icmp_ne (tgt := 143) C dX4_fewestForAll_136 (by decide) ?_ ?_
    · refine r_perm (lv' := [(0, p_rf g o0), (2, .int i2), (3, .int i3)]) [1, 2, 3] rfl ?_
      exact tX4_fewestForAll_J143_84 hg C o0 i2 i3 hr hk h5
    · refine r_iload_n C dX4_fewestForAll_139 3 rfl ?_
      refine r_goto (tgt := 144) C dX4_fewestForAll_140 (by decide) ?_
      refine r_perm (lv' := [(0, p_rf g o0), (3, .int i3)]) [1, 3] rfl ?_
      exact tX4_fewestForAll_J144_84 hg C o0 i3 i3 hr hk h5
set_option maxRecDepth 100000 in
set_option maxHeartbeats 4000000 in
theorem tX4_fewestForAll_J112_84 {K : AC} {g : WG} (hg : p_al g = false)  (C : Cx K g cX4_fewestForAll 5 RX4 (some .int) "fewestForAll" 7 0 0) (o0 : Nat) (i2 : Int32) (i3 : Int32)    {rc : Int32 → Int32 → PH → Option (Int32 × PH)} {kx : Int32 → PH → Option (Int32 × PH)} (hr : ∀ (i2' : Int32) (i3' : Int32) (h : PH), VX K g 5 0 0 (a_fin K g 0 0 em_i) 84 [(0, p_rf g o0), (2, .int i2'), (3, .int i3')] [] h (rc i2' i3' h)) (hk : ∀ (i2' : Int32) (h : PH), VX K g 5 0 0 (a_fin K g 0 0 em_i) 151 [(0, p_rf g o0), (2, .int i2')] [] h (kx i2' h)) (h : PH) : VX K g 5 0 0 (a_fin K g 0 0 em_i) 112 [(0, p_rf g o0), (2, .int i2), (3, .int i3)] [] h (fX4_fewestForAll_J112_84 rc kx o0 i2 i3 h) := by
  unfold fX4_fewestForAll_J112_84
  refine r_iconst C dX4_fewestForAll_112 k_i1 ?_
  refine r_goto (tgt := 117) C dX4_fewestForAll_113 (by decide) ?_
  exact tX4_fewestForAll_J117_84 hg C o0 i2 i3 (1 : Int32) hr hk h
set_option maxRecDepth 100000 in
set_option maxHeartbeats 4000000 in
theorem tX4_fewestForAll_L84 {K : AC} {g : WG} (hg : p_al g = false)  (C : Cx K g cX4_fewestForAll 5 RX4 (some .int) "fewestForAll" 7 0 0) (o0 : Nat) {kx : Int32 → PH → Option (Int32 × PH)} (hk : ∀ (i2 : Int32) (h : PH), VX K g 5 0 0 (a_fin K g 0 0 em_i) 151 [(0, p_rf g o0), (2, .int i2)] [] h (kx i2 h)) : ∀ (n : Nat) (i2 : Int32) (i3 : Int32) (h : PH), VX K g 5 0 0 (a_fin K g 0 0 em_i) 84 [(0, p_rf g o0), (2, .int i2), (3, .int i3)] [] h (fX4_fewestForAll_L84 o0 kx n i2 i3 h) := by
  intro n
  induction n with
  | zero =>
    intros
    exact r_none
  | succ n ih =>
    intro i2 i3 h
    rw [fX4_fewestForAll_L84]
    refine r_iload_n C dX4_fewestForAll_84 2 rfl ?_
    refine r_iconst C dX4_fewestForAll_85 k_i1 ?_
    refine r_aload_n C dX4_fewestForAll_86 0 rfl ?_
    refine r_gr C wf_X4_39_3 dX4_fewestForAll_87 (fun q1 => ?_)
    refine r_cvi (As := []) (st := [.int (1 : Int32), .int i3]) C wv_X4_60 (tcX0_groundSize K.2.1 g hg q1 h) (Nat.le_of_ble_eq_true rfl) rfl rfl (Nat.le_of_ble_eq_true rfl) dX4_fewestForAll_90 ⟨Nat.le_of_ble_eq_true rfl, Nat.le_of_ble_eq_true rfl⟩ (fun x2 h3 => ?_)
    refine r_ishl C dX4_fewestForAll_93 ?_
    refine r_icmp_ge (tgt := 151) C dX4_fewestForAll_94 (by decide) ?_ ?_
    · refine r_perm (lv' := [(0, p_rf g o0), (2, .int i2)]) [0, 1] rfl ?_
      exact hk i2 h3
    · refine r_iload_n C dX4_fewestForAll_97 1 rfl ?_
      refine r_if_lt (tgt := 112) C dX4_fewestForAll_98 (by decide) ?_ ?_
      · exact tX4_fewestForAll_J112_84 hg C o0 i2 i3 ih hk h3
      · refine r_iload_n C dX4_fewestForAll_101 2 rfl ?_
        refine r_csi (As := [.int i3]) (st := []) C ws_X4_120 (tcJ6_bitCount_0f7a4 K.2.1 g hg i3 h3) (Nat.le_of_ble_eq_true rfl) rfl rfl (Nat.le_of_ble_eq_true rfl) dX4_fewestForAll_102 ⟨Nat.le_of_ble_eq_true rfl, Nat.le_of_ble_eq_true rfl⟩ (fun x4 h5 => ?_)
        refine r_iload_n C dX4_fewestForAll_105 1 rfl ?_
        refine r_csi (As := [.int i2]) (st := [.int x4]) C ws_X4_120 (tcJ6_bitCount_0f7a4 K.2.1 g hg i2 h5) (Nat.le_of_ble_eq_true rfl) rfl rfl (Nat.le_of_ble_eq_true rfl) dX4_fewestForAll_106 ⟨Nat.le_of_ble_eq_true rfl, Nat.le_of_ble_eq_true rfl⟩ (fun x6 h7 => ?_)
        refine r_icmp_ge (tgt := 116) C dX4_fewestForAll_109 (by decide) ?_ ?_
        · refine r_iconst C dX4_fewestForAll_116 k_i0 ?_
          exact tX4_fewestForAll_J117_84 hg C o0 i2 i3 (0 : Int32) ih hk h7
        · exact tX4_fewestForAll_J112_84 hg C o0 i2 i3 ih hk h7
set_option maxRecDepth 100000 in
set_option maxHeartbeats 4000000 in
theorem tcX4_fewestForAll (l : Launch) (g : WG) (hg : p_al g = false) (o0 : Nat) (i1 : Int32) (h : PH) : CT l g 7 0 0 yX4_fewestForAll cX4_fewestForAll 5 (some .int) em_i [p_rf g o0, .int i1] h (fX4_fewestForAll o0 i1 h) := by
  refine CT_of (own := RX4) (nm := "fewestForAll") (by decide +kernel) (Nat.le_of_ble_eq_true rfl) rfl rfl rfl ⟨rfl, rfl⟩ (fun K hK C => ?_)
  subst hK
  unfold fX4_fewestForAll
  show VX K g _ _ _ _ _ [(0, p_rf g o0), (1, .int i1)] _ _ _
  refine r_iconst C dX4_fewestForAll_0 k_i0 ?_
  refine r_istore_n (lv9 := [(2, .int (0 : Int32)), (0, p_rf g o0), (1, .int i1)]) C dX4_fewestForAll_1 (by decide) rfl ?_
  refine r_perm (lv' := [(0, p_rf g o0), (1, .int i1), (2, .int (0 : Int32))]) [1, 2, 0] rfl ?_
  refine tX4_fewestForAll_L2 hg C o0 i1 (fun h1 => ?_) FU (0 : Int32) h
  refine r_bipush C dX4_fewestForAll_79 k_bm2 ?_
  refine r_istore_n (lv9 := [(2, .int (-2 : Int32)), (0, p_rf g o0)]) C dX4_fewestForAll_81 (by decide) rfl ?_
  refine r_iconst C dX4_fewestForAll_82 k_i0 ?_
  refine r_istore_n (lv9 := [(3, .int (0 : Int32)), (2, .int (-2 : Int32)), (0, p_rf g o0)]) C dX4_fewestForAll_83 (by decide) rfl ?_
  refine r_perm (lv' := [(0, p_rf g o0), (2, .int (-2 : Int32)), (3, .int (0 : Int32))]) [2, 1, 0] rfl ?_
  refine tX4_fewestForAll_L84 hg C o0 (fun x2 h3 => ?_) FU (-2 : Int32) (0 : Int32) h1
  refine r_iload_n C dX4_fewestForAll_151 1 rfl ?_
  refine r_if_ge (tgt := 158) C dX4_fewestForAll_152 (by decide) ?_ ?_
  · refine r_aload_n C dX4_fewestForAll_158 0 rfl ?_
    refine r_gr C wf_X4_50_3 dX4_fewestForAll_159 (fun q4 => ?_)
    refine r_cvv (As := []) (st := []) C wv_X4_108 (tcX3_start K.2.1 g hg q4 h3) (Nat.le_of_ble_eq_true rfl) rfl rfl (Nat.le_of_ble_eq_true rfl) dX4_fewestForAll_162 ⟨Nat.le_of_ble_eq_true rfl, Nat.le_of_ble_eq_true rfl⟩ (fun h5 => ?_)
    refine r_aload_n C dX4_fewestForAll_165 0 rfl ?_
    refine r_gr C wf_X4_50_3 dX4_fewestForAll_166 (fun q6 => ?_)
    refine r_iload_n C dX4_fewestForAll_169 1 rfl ?_
    refine r_i2l C dX4_fewestForAll_170 ?_
    refine r_cvv (As := [.long (x2.toInt64)]) (st := []) C wv_X4_113 (tcX3_add K.2.1 g hg q6 (x2.toInt64) h5) (Nat.le_of_ble_eq_true rfl) rfl rfl (Nat.le_of_ble_eq_true rfl) dX4_fewestForAll_171 ⟨Nat.le_of_ble_eq_true rfl, Nat.le_of_ble_eq_true rfl⟩ (fun h7 => ?_)
    refine r_iload_n C dX4_fewestForAll_174 1 rfl ?_
    refine r_csi (As := [.int x2]) (st := []) C ws_X4_120 (tcJ6_bitCount_0f7a4 K.2.1 g hg x2 h7) (Nat.le_of_ble_eq_true rfl) rfl rfl (Nat.le_of_ble_eq_true rfl) dX4_fewestForAll_175 ⟨Nat.le_of_ble_eq_true rfl, Nat.le_of_ble_eq_true rfl⟩ (fun x8 h9 => ?_)
    exact r_iret C dX4_fewestForAll_178
  · refine r_bipush C dX4_fewestForAll_155 k_bm2 ?_
    exact r_iret C dX4_fewestForAll_157
set_option maxRecDepth 100000 in
set_option maxHeartbeats 4000000 in
theorem tX4_reckonGains_J76_37 {K : AC} {g : WG} (hg : p_al g = false)  (C : Cx K g cX4_reckonGains 8 RX4 (some .int) "reckonGains" 7 0 0) (o0 : Nat) (i1 : Int32) (i2 : Int32) (i3 : Int32) (i4 : Int32) (i5 : Int32) (i6 : Int32) (s0 : Int32)    {rc : Int32 → PH → Option (Int32 × PH)} {kx : PH → Option (Int32 × PH)} (hr : ∀ (i6' : Int32) (h : PH), VX K g 8 0 0 (a_fin K g 0 0 em_i) 37 [(0, p_rf g o0), (1, .int i1), (2, .int i2), (3, .int i3), (4, .int i4), (5, .int i5), (6, .int i6')] [] h (rc i6' h)) (hk : ∀  (h : PH), VX K g 8 0 0 (a_fin K g 0 0 em_i) 105 [(0, p_rf g o0), (1, .int i1), (2, .int i2), (3, .int i3), (5, .int i5)] [] h (kx  h)) (h : PH) : VX K g 8 0 0 (a_fin K g 0 0 em_i) 76 [(0, p_rf g o0), (1, .int i1), (2, .int i2), (3, .int i3), (4, .int i4), (5, .int i5), (6, .int i6)] [.int s0] h (fX4_reckonGains_J76_37 rc kx o0 i1 i2 i3 i4 i5 i6 s0 h) := by
  unfold fX4_reckonGains_J76_37
  refine r_istore (lv9 := [(7, .int s0), (0, p_rf g o0), (1, .int i1), (2, .int i2), (3, .int i3), (4, .int i4), (5, .int i5), (6, .int i6)]) C dX4_reckonGains_76 (by decide) rfl ?_
  refine r_aload_n C dX4_reckonGains_78 1 rfl ?_
  refine r_gr C wf_X4_27_3 dX4_reckonGains_79 (fun q1 => ?_)
  refine r_iload_n C dX4_reckonGains_82 4 rfl ?_
  refine r_bipush C dX4_reckonGains_83 k_b8 ?_
  refine r_imul C dX4_reckonGains_85 ?_
  refine r_iload C dX4_reckonGains_86 7 rfl ?_
  refine r_iadd C dX4_reckonGains_88 ?_
  refine r_iconst C dX4_reckonGains_89 k_i0 ?_
  refine r_iload C dX4_reckonGains_90 0 rfl ?_
  refine r_iload C dX4_reckonGains_92 6 rfl ?_
  refine r_isub C dX4_reckonGains_94 ?_
  refine r_topi (fun x2 => ?_)
  refine r_max C wm_X4_132 (Nat.le_of_ble_eq_true rfl) (Nat.le_of_ble_eq_true rfl) ⟨Nat.le_of_ble_eq_true rfl, Nat.le_of_ble_eq_true rfl⟩ dX4_reckonGains_95 ?_
  refine r_iast C dX4_reckonGains_98 (fun h3 => ?_)
  refine r_iinc (lv' := [(7, .int s0), (0, p_rf g o0), (1, .int i1), (2, .int i2), (3, .int i3), (4, .int i4), (5, .int i5)]) C dX4_reckonGains_99 7 rfl k_i1 (by decide) (fun _ => rfl) (fun x4 => ?_)
  refine r_goto (tgt := 37) C dX4_reckonGains_102 (by decide) ?_
  refine r_perm (lv' := [(0, p_rf g o0), (1, .int i1), (2, .int i2), (3, .int i3), (4, .int i4), (5, .int i5), (6, .int x4)]) [2, 3, 4, 5, 6, 7, 0] rfl ?_
  exact hr x4 h3
set_option maxRecDepth 100000 in
set_option maxHeartbeats 4000000 in
theorem tX4_reckonGains_L37 {K : AC} {g : WG} (hg : p_al g = false)  (C : Cx K g cX4_reckonGains 8 RX4 (some .int) "reckonGains" 7 0 0) (o0 : Nat) (i1 : Int32) (i2 : Int32) (i3 : Int32) (i4 : Int32) (i5 : Int32) {kx : PH → Option (Int32 × PH)} (hk : ∀  (h : PH), VX K g 8 0 0 (a_fin K g 0 0 em_i) 105 [(0, p_rf g o0), (1, .int i1), (2, .int i2), (3, .int i3), (5, .int i5)] [] h (kx h)) : ∀ (n : Nat) (i6 : Int32) (h : PH), VX K g 8 0 0 (a_fin K g 0 0 em_i) 37 [(0, p_rf g o0), (1, .int i1), (2, .int i2), (3, .int i3), (4, .int i4), (5, .int i5), (6, .int i6)] [] h (fX4_reckonGains_L37 o0 i1 i2 i3 i4 i5 kx n i6 h) := by
  intro n
  induction n with
  | zero =>
    intros
    exact r_none
  | succ n ih =>
    intro i6 h
    rw [fX4_reckonGains_L37]
    refine r_iload C dX4_reckonGains_37 6 rfl ?_
    refine r_aload_n C dX4_reckonGains_39 0 rfl ?_
    refine r_gr C wf_X4_39_3 dX4_reckonGains_40 (fun q1 => ?_)
    refine r_cvi (As := []) (st := [.int i6]) C wv_X4_60 (tcX0_groundSize K.2.1 g hg q1 h) (Nat.le_of_ble_eq_true rfl) rfl rfl (Nat.le_of_ble_eq_true rfl) dX4_reckonGains_43 ⟨Nat.le_of_ble_eq_true rfl, Nat.le_of_ble_eq_true rfl⟩ (fun x2 h3 => ?_)
    refine r_icmp_ge (tgt := 105) C dX4_reckonGains_46 (by decide) ?_ ?_
    · refine r_perm (lv' := [(0, p_rf g o0), (1, .int i1), (2, .int i2), (3, .int i3), (5, .int i5)]) [0, 1, 2, 3, 5] rfl ?_
      exact hk h3
    · refine r_iload C dX4_reckonGains_49 6 rfl ?_
      refine r_iload C dX4_reckonGains_51 4 rfl ?_
      refine r_cni (As := [.int i6, .int i4]) (st := []) C wn_X4_66 (tcX11_isIn K.2.1 g hg i6 i4 h3) (Nat.le_of_ble_eq_true rfl) rfl rfl (Nat.le_of_ble_eq_true rfl) dX4_reckonGains_53 ⟨Nat.le_of_ble_eq_true rfl, Nat.le_of_ble_eq_true rfl⟩ (fun x4 h5 => ?_)
      refine r_if_eq (tgt := 75) C dX4_reckonGains_56 (by decide) ?_ ?_
      · refine r_iconst C dX4_reckonGains_75 k_i0 ?_
        exact tX4_reckonGains_J76_37 hg C o0 i1 i2 i3 i4 i5 i6 (0 : Int32) ih hk h5
      · refine r_aload_n C dX4_reckonGains_59 0 rfl ?_
        refine r_iload_n C dX4_reckonGains_60 3 rfl ?_
        refine r_iconst C dX4_reckonGains_61 k_i1 ?_
        refine r_iload C dX4_reckonGains_62 6 rfl ?_
        refine r_ishl C dX4_reckonGains_64 ?_
        refine r_iload_n C dX4_reckonGains_65 1 rfl ?_
        refine r_cvi (As := [.int i3, .int ((1 : Int32) <<< (i6 &&& 31)), .int i1]) (st := []) C wv_X4_104 (tcX4_wantsWith K.2.1 g hg o0 i3 ((1 : Int32) <<< (i6 &&& 31)) i1 h5) (Nat.le_of_ble_eq_true rfl) rfl rfl (Nat.le_of_ble_eq_true rfl) dX4_reckonGains_66 ⟨Nat.le_of_ble_eq_true rfl, Nat.le_of_ble_eq_true rfl⟩ (fun x6 h7 => ?_)
        refine r_csi (As := [.int x6]) (st := []) C ws_X4_120 (tcJ6_bitCount_0f7a4 K.2.1 g hg x6 h7) (Nat.le_of_ble_eq_true rfl) rfl rfl (Nat.le_of_ble_eq_true rfl) dX4_reckonGains_69 ⟨Nat.le_of_ble_eq_true rfl, Nat.le_of_ble_eq_true rfl⟩ (fun x8 h9 => ?_)
        refine r_goto (tgt := 76) C dX4_reckonGains_72 (by decide) ?_
        exact tX4_reckonGains_J76_37 hg C o0 i1 i2 i3 i4 i5 i6 x8 ih hk h9
set_option maxRecDepth 100000 in
set_option maxHeartbeats 4000000 in
theorem tX4_reckonGains_L4 {K : AC} {g : WG} (hg : p_al g = false)  (C : Cx K g cX4_reckonGains 8 RX4 (some .int) "reckonGains" 7 0 0) (o0 : Nat) (i1 : Int32) {kx : Int32 → PH → Option (Int32 × PH)} (hk : ∀ (i2 : Int32) (h : PH), VX K g 8 0 0 (a_fin K g 0 0 em_i) 116 [(2, .int i2)] [] h (kx i2 h)) : ∀ (n : Nat) (i2 : Int32) (i3 : Int32) (h : PH), VX K g 8 0 0 (a_fin K g 0 0 em_i) 4 [(0, p_rf g o0), (1, .int i1), (2, .int i2), (3, .int i3)] [] h (fX4_reckonGains_L4 o0 i1 kx n i2 i3 h) := by
  intro n
  induction n with
  | zero =>
    intros
    exact r_none
  | succ n ih =>
    intro i2 i3 h
    rw [fX4_reckonGains_L4]
    refine r_iload_n C dX4_reckonGains_4 3 rfl ?_
    refine r_aload_n C dX4_reckonGains_5 0 rfl ?_
    refine r_gr C wf_X4_39_3 dX4_reckonGains_6 (fun q1 => ?_)
    refine r_cvi (As := []) (st := [.int i3]) C wv_X4_161 (tcX0_personSize K.2.1 g hg q1 h) (Nat.le_of_ble_eq_true rfl) rfl rfl (Nat.le_of_ble_eq_true rfl) dX4_reckonGains_9 ⟨Nat.le_of_ble_eq_true rfl, Nat.le_of_ble_eq_true rfl⟩ (fun x2 h3 => ?_)
    refine r_icmp_ge (tgt := 116) C dX4_reckonGains_12 (by decide) ?_ ?_
    · refine r_perm (lv' := [(2, .int i2)]) [2] rfl ?_
      exact hk i2 h3
    · refine r_aload_n C dX4_reckonGains_15 0 rfl ?_
      refine r_iload_n C dX4_reckonGains_16 3 rfl ?_
      refine r_cvi (As := [.int i3]) (st := []) C wv_X4_98 (tcX4_free K.2.1 g hg o0 i3 h3) (Nat.le_of_ble_eq_true rfl) rfl rfl (Nat.le_of_ble_eq_true rfl) dX4_reckonGains_17 ⟨Nat.le_of_ble_eq_true rfl, Nat.le_of_ble_eq_true rfl⟩ (fun x4 h5 => ?_)
      refine r_istore (lv9 := [(4, .int x4), (0, p_rf g o0), (1, .int i1), (2, .int i2), (3, .int i3)]) C dX4_reckonGains_20 (by decide) rfl ?_
      refine r_aload_n C dX4_reckonGains_22 1 rfl ?_
      refine r_iload_n C dX4_reckonGains_23 4 rfl ?_
      refine r_iconst C dX4_reckonGains_24 k_i0 ?_
      refine r_iload_n C dX4_reckonGains_25 2 rfl ?_
      refine r_cvi (As := [.int i3, .int (0 : Int32), .int i1]) (st := []) C wv_X4_104 (tcX4_wantsWith K.2.1 g hg o0 i3 (0 : Int32) i1 h5) (Nat.le_of_ble_eq_true rfl) rfl rfl (Nat.le_of_ble_eq_true rfl) dX4_reckonGains_26 ⟨Nat.le_of_ble_eq_true rfl, Nat.le_of_ble_eq_true rfl⟩ (fun x6 h7 => ?_)
      refine r_csi (As := [.int x6]) (st := []) C ws_X4_120 (tcJ6_bitCount_0f7a4 K.2.1 g hg x6 h7) (Nat.le_of_ble_eq_true rfl) rfl rfl (Nat.le_of_ble_eq_true rfl) dX4_reckonGains_29 ⟨Nat.le_of_ble_eq_true rfl, Nat.le_of_ble_eq_true rfl⟩ (fun x8 h9 => ?_)
      refine r_istore (lv9 := [(5, .int x8), (4, .int x4), (0, p_rf g o0), (1, .int i1), (2, .int i2), (3, .int i3)]) C dX4_reckonGains_32 (by decide) rfl ?_
      refine r_iconst C dX4_reckonGains_34 k_i0 ?_
      refine r_istore (lv9 := [(6, .int (0 : Int32)), (5, .int x8), (4, .int x4), (0, p_rf g o0), (1, .int i1), (2, .int i2), (3, .int i3)]) C dX4_reckonGains_35 (by decide) rfl ?_
      refine r_perm (lv' := [(0, p_rf g o0), (1, .int i1), (2, .int i2), (3, .int i3), (4, .int x4), (5, .int x8), (6, .int (0 : Int32))]) [3, 4, 5, 6, 2, 1, 0] rfl ?_
      refine tX4_reckonGains_L37 hg C o0 i1 i2 i3 x4 x8 (fun h10 => ?_) FU (0 : Int32) h9
      refine r_iload_n C dX4_reckonGains_105 2 rfl ?_
      refine r_iload C dX4_reckonGains_106 4 rfl ?_
      refine r_iadd C dX4_reckonGains_108 ?_
      refine r_topi (fun x11 => ?_)
      refine r_istore_n (lv9 := [(2, .int x11), (0, p_rf g o0), (1, .int i1), (3, .int i3), (5, .int x8)]) C dX4_reckonGains_109 (by decide) rfl ?_
      refine r_iinc (lv' := [(2, .int x11), (0, p_rf g o0), (1, .int i1), (5, .int x8)]) C dX4_reckonGains_110 3 rfl k_i1 (by decide) (fun _ => rfl) (fun x12 => ?_)
      refine r_goto (tgt := 4) C dX4_reckonGains_113 (by decide) ?_
      refine r_perm (lv' := [(0, p_rf g o0), (1, .int i1), (2, .int x11), (3, .int x12)]) [2, 3, 1, 0] rfl ?_
      exact ih x11 x12 h10
set_option maxRecDepth 100000 in
set_option maxHeartbeats 4000000 in
theorem tcX4_reckonGains (l : Launch) (g : WG) (hg : p_al g = false) (o0 : Nat) (i1 : Int32) (h : PH) : CT l g 7 0 0 yX4_reckonGains cX4_reckonGains 8 (some .int) em_i [p_rf g o0, .int i1] h (fX4_reckonGains o0 i1 h) := by
  refine CT_of (own := RX4) (nm := "reckonGains") (by decide +kernel) (Nat.le_of_ble_eq_true rfl) rfl rfl rfl ⟨rfl, rfl⟩ (fun K hK C => ?_)
  subst hK
  unfold fX4_reckonGains
  show VX K g _ _ _ _ _ [(0, p_rf g o0), (1, .int i1)] _ _ _
  refine r_iconst C dX4_reckonGains_0 k_i0 ?_
  refine r_istore_n (lv9 := [(2, .int (0 : Int32)), (0, p_rf g o0), (1, .int i1)]) C dX4_reckonGains_1 (by decide) rfl ?_
  refine r_iconst C dX4_reckonGains_2 k_i0 ?_
  refine r_istore_n (lv9 := [(3, .int (0 : Int32)), (2, .int (0 : Int32)), (0, p_rf g o0), (1, .int i1)]) C dX4_reckonGains_3 (by decide) rfl ?_
  refine r_perm (lv' := [(0, p_rf g o0), (1, .int i1), (2, .int (0 : Int32)), (3, .int (0 : Int32))]) [2, 3, 1, 0] rfl ?_
  refine tX4_reckonGains_L4 hg C o0 i1 (fun x1 h2 => ?_) FU (0 : Int32) (0 : Int32) h
  refine r_iload_n C dX4_reckonGains_116 0 rfl ?_
  exact r_iret C dX4_reckonGains_117
set_option maxRecDepth 100000 in
set_option maxHeartbeats 4000000 in
theorem tX4_sumGains_L34 {K : AC} {g : WG} (hg : p_al g = false)  (C : Cx K g cX4_sumGains 7 RX4 none "sumGains" 2 0 0) (o0 : Nat) (i1 : Int32) (i2 : Int32) (i3 : Int32) (i4 : Int32) (i5 : Int32) {kx : PH → Option (Unit × PH)} (hk : ∀  (h : PH), VX K g 7 0 0 (a_fin K g 0 0 em_v) 85 [(0, p_rf g o0), (1, .int i1), (2, .int i2), (3, .int i3), (4, .int i4)] [] h (kx h)) : ∀ (n : Nat) (i6 : Int32) (h : PH), VX K g 7 0 0 (a_fin K g 0 0 em_v) 34 [(0, p_rf g o0), (1, .int i1), (2, .int i2), (3, .int i3), (4, .int i4), (5, .int i5), (6, .int i6)] [] h (fX4_sumGains_L34 o0 i1 i2 i3 i4 i5 kx n i6 h) := by
  intro n
  induction n with
  | zero =>
    intros
    exact r_none
  | succ n ih =>
    intro i6 h
    rw [fX4_sumGains_L34]
    refine r_iload C dX4_sumGains_34 6 rfl ?_
    refine r_iconst C dX4_sumGains_36 k_i2 ?_
    refine r_iload C dX4_sumGains_37 5 rfl ?_
    refine r_imul C dX4_sumGains_39 ?_
    refine r_icmp_ge (tgt := 85) C dX4_sumGains_40 (by decide) ?_ ?_
    · refine r_perm (lv' := [(0, p_rf g o0), (1, .int i1), (2, .int i2), (3, .int i3), (4, .int i4)]) [0, 1, 2, 3, 4] rfl ?_
      exact hk h
    · refine r_iload C dX4_sumGains_43 6 rfl ?_
      refine r_iload_n C dX4_sumGains_45 3 rfl ?_
      refine r_icmp_ge (tgt := 85) C dX4_sumGains_46 (by decide) ?_ ?_
      · refine r_perm (lv' := [(0, p_rf g o0), (1, .int i1), (2, .int i2), (3, .int i3), (4, .int i4)]) [0, 1, 2, 3, 4] rfl ?_
        exact hk h
      · refine r_aload_n C dX4_sumGains_49 0 rfl ?_
        refine r_gr C wf_X4_36_3 dX4_sumGains_50 (fun q1 => ?_)
        refine r_iload C dX4_sumGains_53 6 rfl ?_
        refine r_aload_n C dX4_sumGains_55 0 rfl ?_
        refine r_gr C wf_X4_36_3 dX4_sumGains_56 (fun q2 => ?_)
        refine r_iload C dX4_sumGains_59 6 rfl ?_
        refine r_iload C dX4_sumGains_61 5 rfl ?_
        refine r_isub C dX4_sumGains_63 ?_
        refine r_iald C dX4_sumGains_64 (fun x3 => ?_)
        refine r_aload_n C dX4_sumGains_65 0 rfl ?_
        refine r_gr C wf_X4_27_3 dX4_sumGains_66 (fun q4 => ?_)
        refine r_iload C dX4_sumGains_69 4 rfl ?_
        refine r_bipush C dX4_sumGains_71 k_b8 ?_
        refine r_imul C dX4_sumGains_73 ?_
        refine r_iload_n C dX4_sumGains_74 1 rfl ?_
        refine r_iadd C dX4_sumGains_75 ?_
        refine r_iald C dX4_sumGains_76 (fun x5 => ?_)
        refine r_iadd C dX4_sumGains_77 ?_
        refine r_iast C dX4_sumGains_78 (fun h6 => ?_)
        refine r_iinc (lv' := [(0, p_rf g o0), (1, .int i1), (2, .int i2), (3, .int i3), (4, .int i4), (5, .int i5)]) C dX4_sumGains_79 6 rfl k_i1 (by decide) (fun _ => rfl) (fun x7 => ?_)
        refine r_goto (tgt := 34) C dX4_sumGains_82 (by decide) ?_
        refine r_perm (lv' := [(0, p_rf g o0), (1, .int i1), (2, .int i2), (3, .int i3), (4, .int i4), (5, .int i5), (6, .int x7)]) [1, 2, 3, 4, 5, 6, 0] rfl ?_
        exact ih x7 h6
set_option maxRecDepth 100000 in
set_option maxHeartbeats 4000000 in
theorem tX4_sumGains_L10 {K : AC} {g : WG} (hg : p_al g = false)  (C : Cx K g cX4_sumGains 7 RX4 none "sumGains" 2 0 0) (o0 : Nat) (i1 : Int32) (i2 : Int32) (i3 : Int32) {kx : PH → Option (Unit × PH)} (hk : ∀  (h : PH), VX K g 7 0 0 (a_fin K g 0 0 em_v) 91 [] [] h (kx h)) : ∀ (n : Nat) (i4 : Int32) (h : PH), VX K g 7 0 0 (a_fin K g 0 0 em_v) 10 [(0, p_rf g o0), (1, .int i1), (2, .int i2), (3, .int i3), (4, .int i4)] [] h (fX4_sumGains_L10 o0 i1 i2 i3 kx n i4 h) := by
  intro n
  induction n with
  | zero =>
    intros
    exact r_none
  | succ n ih =>
    intro i4 h
    rw [fX4_sumGains_L10]
    refine r_iload C dX4_sumGains_10 4 rfl ?_
    refine r_aload_n C dX4_sumGains_12 0 rfl ?_
    refine r_gr C wf_X4_39_3 dX4_sumGains_13 (fun q1 => ?_)
    refine r_cvi (As := []) (st := [.int i4]) C wv_X4_161 (tcX0_personSize K.2.1 g hg q1 h) (Nat.le_of_ble_eq_true rfl) rfl rfl (Nat.le_of_ble_eq_true rfl) dX4_sumGains_16 ⟨Nat.le_of_ble_eq_true rfl, Nat.le_of_ble_eq_true rfl⟩ (fun x2 h3 => ?_)
    refine r_icmp_ge (tgt := 91) C dX4_sumGains_19 (by decide) ?_ ?_
    · refine r_perm (lv' := []) [] rfl ?_
      exact hk h3
    · refine r_iconst C dX4_sumGains_22 k_i1 ?_
      refine r_iload C dX4_sumGains_23 4 rfl ?_
      refine r_iload_n C dX4_sumGains_25 2 rfl ?_
      refine r_isub C dX4_sumGains_26 ?_
      refine r_ishl C dX4_sumGains_27 ?_
      refine r_topi (fun x4 => ?_)
      refine r_istore (lv9 := [(5, .int x4), (0, p_rf g o0), (1, .int i1), (2, .int i2), (3, .int i3), (4, .int i4)]) C dX4_sumGains_28 (by decide) rfl ?_
      refine r_iload C dX4_sumGains_30 0 rfl ?_
      refine r_istore (lv9 := [(6, .int x4), (5, .int x4), (0, p_rf g o0), (1, .int i1), (2, .int i2), (3, .int i3), (4, .int i4)]) C dX4_sumGains_32 (by decide) rfl ?_
      refine r_perm (lv' := [(0, p_rf g o0), (1, .int i1), (2, .int i2), (3, .int i3), (4, .int i4), (5, .int x4), (6, .int x4)]) [2, 3, 4, 5, 6, 1, 0] rfl ?_
      refine tX4_sumGains_L34 hg C o0 i1 i2 i3 i4 x4 (fun h5 => ?_) FU x4 h3
      refine r_iinc (lv' := [(0, p_rf g o0), (1, .int i1), (2, .int i2), (3, .int i3)]) C dX4_sumGains_85 4 rfl k_i1 (by decide) (fun _ => rfl) (fun x6 => ?_)
      refine r_goto (tgt := 10) C dX4_sumGains_88 (by decide) ?_
      refine r_perm (lv' := [(0, p_rf g o0), (1, .int i1), (2, .int i2), (3, .int i3), (4, .int x6)]) [1, 2, 3, 4, 0] rfl ?_
      exact ih x6 h5
set_option maxRecDepth 100000 in
set_option maxHeartbeats 4000000 in
theorem tcX4_sumGains (l : Launch) (g : WG) (hg : p_al g = false) (o0 : Nat) (i1 : Int32) (i2 : Int32) (i3 : Int32) (h : PH) : CT l g 2 0 0 yX4_sumGains cX4_sumGains 7 none em_v [p_rf g o0, .int i1, .int i2, .int i3] h (fX4_sumGains o0 i1 i2 i3 h) := by
  refine CT_of (own := RX4) (nm := "sumGains") (by decide +kernel) (Nat.le_of_ble_eq_true rfl) rfl rfl rfl ⟨rfl, rfl⟩ (fun K hK C => ?_)
  subst hK
  unfold fX4_sumGains
  show VX K g _ _ _ _ _ [(0, p_rf g o0), (1, .int i1), (2, .int i2), (3, .int i3)] _ _ _
  refine r_aload_n C dX4_sumGains_0 0 rfl ?_
  refine r_gr C wf_X4_36_3 dX4_sumGains_1 (fun q1 => ?_)
  refine r_iconst C dX4_sumGains_4 k_i0 ?_
  refine r_iconst C dX4_sumGains_5 k_i0 ?_
  refine r_iast C dX4_sumGains_6 (fun h2 => ?_)
  refine r_iload_n C dX4_sumGains_7 2 rfl ?_
  refine r_istore (lv9 := [(4, .int i2), (0, p_rf g o0), (1, .int i1), (2, .int i2), (3, .int i3)]) C dX4_sumGains_8 (by decide) rfl ?_
  refine r_perm (lv' := [(0, p_rf g o0), (1, .int i1), (2, .int i2), (3, .int i3), (4, .int i2)]) [1, 2, 3, 4, 0] rfl ?_
  refine tX4_sumGains_L10 hg C o0 i1 i2 i3 (fun h3 => ?_) FU i2 h2
  exact r_vret C dX4_sumGains_91
set_option maxRecDepth 100000 in
set_option maxHeartbeats 4000000 in
theorem tX4_bestWith_J48_10 {K : AC} {g : WG} (hg : p_al g = false)  (C : Cx K g cX4_bestWith 5 RX4 (some .int) "bestWith" 2 0 0) (o0 : Nat) (i1 : Int32) (i2 : Int32) (i3 : Int32) (i4 : Int32)    {rc : Int32 → Int32 → PH → Option (Int32 × PH)} {kx : Int32 → PH → Option (Int32 × PH)} (hr : ∀ (i3' : Int32) (i4' : Int32) (h : PH), VX K g 5 0 0 (a_fin K g 0 0 em_i) 10 [(0, p_rf g o0), (1, .int i1), (2, .int i2), (3, .int i3'), (4, .int i4')] [] h (rc i3' i4' h)) (hk : ∀ (i3' : Int32) (h : PH), VX K g 5 0 0 (a_fin K g 0 0 em_i) 59 [(3, .int i3')] [] h (kx i3' h)) (h : PH) : VX K g 5 0 0 (a_fin K g 0 0 em_i) 48 [(0, p_rf g o0), (1, .int i1), (2, .int i2), (3, .int i3), (4, .int i4)] [] h (fX4_bestWith_J48_10 rc kx o0 i1 i2 i3 i4 h) := by
  unfold fX4_bestWith_J48_10
  refine r_iload C dX4_bestWith_48 4 rfl ?_
  refine r_iconst C dX4_bestWith_50 k_i1 ?_
  refine r_isub C dX4_bestWith_51 ?_
  refine r_iload_n C dX4_bestWith_52 1 rfl ?_
  refine r_iand C dX4_bestWith_53 ?_
  refine r_topi (fun x1 => ?_)
  refine r_istore (lv9 := [(4, .int x1), (0, p_rf g o0), (1, .int i1), (2, .int i2), (3, .int i3)]) C dX4_bestWith_54 (by decide) rfl ?_
  refine r_goto (tgt := 10) C dX4_bestWith_56 (by decide) ?_
  refine r_perm (lv' := [(0, p_rf g o0), (1, .int i1), (2, .int i2), (3, .int i3), (4, .int x1)]) [1, 2, 3, 4, 0] rfl ?_
  exact hr i3 x1 h
set_option maxRecDepth 100000 in
set_option maxHeartbeats 4000000 in
theorem tX4_bestWith_L10 {K : AC} {g : WG} (hg : p_al g = false)  (C : Cx K g cX4_bestWith 5 RX4 (some .int) "bestWith" 2 0 0) (o0 : Nat) (i1 : Int32) (i2 : Int32) {kx : Int32 → PH → Option (Int32 × PH)} (hk : ∀ (i3 : Int32) (h : PH), VX K g 5 0 0 (a_fin K g 0 0 em_i) 59 [(3, .int i3)] [] h (kx i3 h)) : ∀ (n : Nat) (i3 : Int32) (i4 : Int32) (h : PH), VX K g 5 0 0 (a_fin K g 0 0 em_i) 10 [(0, p_rf g o0), (1, .int i1), (2, .int i2), (3, .int i3), (4, .int i4)] [] h (fX4_bestWith_L10 o0 i1 i2 kx n i3 i4 h) := by
  intro n
  induction n with
  | zero =>
    intros
    exact r_none
  | succ n ih =>
    intro i3 i4 h
    rw [fX4_bestWith_L10]
    refine r_iload C dX4_bestWith_10 4 rfl ?_
    refine r_if_le (tgt := 59) C dX4_bestWith_12 (by decide) ?_ ?_
    · refine r_perm (lv' := [(3, .int i3)]) [3] rfl ?_
      exact hk i3 h
    · refine r_iload C dX4_bestWith_15 4 rfl ?_
      refine r_csi (As := [.int i4]) (st := []) C ws_X4_120 (tcJ6_bitCount_0f7a4 K.2.1 g hg i4 h) (Nat.le_of_ble_eq_true rfl) rfl rfl (Nat.le_of_ble_eq_true rfl) dX4_bestWith_17 ⟨Nat.le_of_ble_eq_true rfl, Nat.le_of_ble_eq_true rfl⟩ (fun x1 h2 => ?_)
      refine r_iload_n C dX4_bestWith_20 2 rfl ?_
      refine r_icmp_gt (tgt := 48) C dX4_bestWith_21 (by decide) ?_ ?_
      · exact tX4_bestWith_J48_10 hg C o0 i1 i2 i3 i4 ih hk h2
      · refine r_iload_n C dX4_bestWith_24 3 rfl ?_
        refine r_aload_n C dX4_bestWith_25 0 rfl ?_
        refine r_gr C wf_X4_33_3 dX4_bestWith_26 (fun q3 => ?_)
        refine r_iload_n C dX4_bestWith_29 1 rfl ?_
        refine r_iload C dX4_bestWith_30 4 rfl ?_
        refine r_iconst C dX4_bestWith_32 k_im1 ?_
        refine r_ixor C dX4_bestWith_33 ?_
        refine r_iand C dX4_bestWith_34 ?_
        refine r_iald C dX4_bestWith_35 (fun x4 => ?_)
        refine r_aload_n C dX4_bestWith_36 0 rfl ?_
        refine r_gr C wf_X4_36_3 dX4_bestWith_37 (fun q5 => ?_)
        refine r_iload C dX4_bestWith_40 4 rfl ?_
        refine r_iald C dX4_bestWith_42 (fun x6 => ?_)
        refine r_iadd C dX4_bestWith_43 ?_
        refine r_topi (fun x7 => ?_)
        refine r_max C wm_X4_132 (Nat.le_of_ble_eq_true rfl) (Nat.le_of_ble_eq_true rfl) ⟨Nat.le_of_ble_eq_true rfl, Nat.le_of_ble_eq_true rfl⟩ dX4_bestWith_44 ?_
        refine r_topi (fun x8 => ?_)
        refine r_istore_n (lv9 := [(3, .int x8), (0, p_rf g o0), (1, .int i1), (2, .int i2), (4, .int i4)]) C dX4_bestWith_47 (by decide) rfl ?_
        refine r_perm (lv' := [(0, p_rf g o0), (1, .int i1), (2, .int i2), (3, .int x8), (4, .int i4)]) [1, 2, 3, 0, 4] rfl ?_
        exact tX4_bestWith_J48_10 hg C o0 i1 i2 x8 i4 ih hk h2
set_option maxRecDepth 100000 in
set_option maxHeartbeats 4000000 in
theorem tcX4_bestWith (l : Launch) (g : WG) (hg : p_al g = false) (o0 : Nat) (i1 : Int32) (i2 : Int32) (h : PH) : CT l g 2 0 0 yX4_bestWith cX4_bestWith 5 (some .int) em_i [p_rf g o0, .int i1, .int i2] h (fX4_bestWith o0 i1 i2 h) := by
  refine CT_of (own := RX4) (nm := "bestWith") (by decide +kernel) (Nat.le_of_ble_eq_true rfl) rfl rfl rfl ⟨rfl, rfl⟩ (fun K hK C => ?_)
  subst hK
  unfold fX4_bestWith
  show VX K g _ _ _ _ _ [(0, p_rf g o0), (1, .int i1), (2, .int i2)] _ _ _
  refine r_aload_n C dX4_bestWith_0 0 rfl ?_
  refine r_gr C wf_X4_33_3 dX4_bestWith_1 (fun q1 => ?_)
  refine r_iload_n C dX4_bestWith_4 1 rfl ?_
  refine r_iald C dX4_bestWith_5 (fun x2 => ?_)
  refine r_istore_n (lv9 := [(3, .int x2), (0, p_rf g o0), (1, .int i1), (2, .int i2)]) C dX4_bestWith_6 (by decide) rfl ?_
  refine r_iload_n C dX4_bestWith_7 2 rfl ?_
  refine r_istore (lv9 := [(4, .int i1), (3, .int x2), (0, p_rf g o0), (1, .int i1), (2, .int i2)]) C dX4_bestWith_8 (by decide) rfl ?_
  refine r_perm (lv' := [(0, p_rf g o0), (1, .int i1), (2, .int i2), (3, .int x2), (4, .int i1)]) [2, 3, 4, 1, 0] rfl ?_
  refine tX4_bestWith_L10 hg C o0 i1 i2 (fun x3 h4 => ?_) FU x2 i1 h
  refine r_iload_n C dX4_bestWith_59 0 rfl ?_
  exact r_iret C dX4_bestWith_60
set_option maxRecDepth 100000 in
set_option maxHeartbeats 4000000 in
theorem tX4_mostGained_L18 {K : AC} {g : WG} (hg : p_al g = false)  (C : Cx K g cX4_mostGained 5 RX4 (some .int) "mostGained" 3 0 0) (o0 : Nat) (i1 : Int32) (i2 : Int32) {kx : PH → Option (Int32 × PH)} (hk : ∀  (h : PH), VX K g 5 0 0 (a_fin K g 0 0 em_i) 45 [(0, p_rf g o0), (1, .int i1), (2, .int i2)] [] h (kx h)) : ∀ (n : Nat) (i3 : Int32) (h : PH), VX K g 5 0 0 (a_fin K g 0 0 em_i) 18 [(0, p_rf g o0), (1, .int i1), (2, .int i2), (3, .int i3)] [] h (fX4_mostGained_L18 o0 i1 i2 kx n i3 h) := by
  intro n
  induction n with
  | zero =>
    intros
    exact r_none
  | succ n ih =>
    intro i3 h
    rw [fX4_mostGained_L18]
    refine r_iload_n C dX4_mostGained_18 3 rfl ?_
    refine r_iload_n C dX4_mostGained_19 2 rfl ?_
    refine r_icmp_ge (tgt := 45) C dX4_mostGained_20 (by decide) ?_ ?_
    · refine r_perm (lv' := [(0, p_rf g o0), (1, .int i1), (2, .int i2)]) [0, 1, 2] rfl ?_
      exact hk h
    · refine r_iload_n C dX4_mostGained_23 3 rfl ?_
      refine r_aload_n C dX4_mostGained_24 0 rfl ?_
      refine r_gr C wf_X4_33_3 dX4_mostGained_25 (fun q1 => ?_)
      refine r_alen (ty := .int) (t0 := 0) C rfl dX4_mostGained_28 (fun x2 => ?_)
      refine r_icmp_ge (tgt := 45) C dX4_mostGained_29 (by decide) ?_ ?_
      · refine r_perm (lv' := [(0, p_rf g o0), (1, .int i1), (2, .int i2)]) [0, 1, 2] rfl ?_
        exact hk h
      · refine r_aload_n C dX4_mostGained_32 0 rfl ?_
        refine r_gr C wf_X4_33_3 dX4_mostGained_33 (fun q3 => ?_)
        refine r_iload_n C dX4_mostGained_36 3 rfl ?_
        refine r_iconst C dX4_mostGained_37 k_i0 ?_
        refine r_iast C dX4_mostGained_38 (fun h4 => ?_)
        refine r_iinc (lv' := [(0, p_rf g o0), (1, .int i1), (2, .int i2)]) C dX4_mostGained_39 3 rfl k_i1 (by decide) (fun _ => rfl) (fun x5 => ?_)
        refine r_goto (tgt := 18) C dX4_mostGained_42 (by decide) ?_
        refine r_perm (lv' := [(0, p_rf g o0), (1, .int i1), (2, .int i2), (3, .int x5)]) [1, 2, 3, 0] rfl ?_
        exact ih x5 h4
set_option maxRecDepth 100000 in
set_option maxHeartbeats 4000000 in
theorem tX4_mostGained_L70 {K : AC} {g : WG} (hg : p_al g = false)  (C : Cx K g cX4_mostGained 5 RX4 (some .int) "mostGained" 3 0 0) (o0 : Nat) (i1 : Int32) (i2 : Int32) (i3 : Int32) {kx : PH → Option (Int32 × PH)} (hk : ∀  (h : PH), VX K g 5 0 0 (a_fin K g 0 0 em_i) 100 [(0, p_rf g o0), (1, .int i1), (2, .int i2), (3, .int i3)] [] h (kx h)) : ∀ (n : Nat) (i4 : Int32) (h : PH), VX K g 5 0 0 (a_fin K g 0 0 em_i) 70 [(0, p_rf g o0), (1, .int i1), (2, .int i2), (3, .int i3), (4, .int i4)] [] h (fX4_mostGained_L70 o0 i1 i2 i3 kx n i4 h) := by
  intro n
  induction n with
  | zero =>
    intros
    exact r_none
  | succ n ih =>
    intro i4 h
    rw [fX4_mostGained_L70]
    refine r_iload C dX4_mostGained_70 4 rfl ?_
    refine r_if_le (tgt := 100) C dX4_mostGained_72 (by decide) ?_ ?_
    · refine r_perm (lv' := [(0, p_rf g o0), (1, .int i1), (2, .int i2), (3, .int i3)]) [0, 1, 2, 3] rfl ?_
      exact hk h
    · refine r_aload_n C dX4_mostGained_75 0 rfl ?_
      refine r_gr C wf_X4_33_3 dX4_mostGained_76 (fun q1 => ?_)
      refine r_iload C dX4_mostGained_79 4 rfl ?_
      refine r_aload_n C dX4_mostGained_81 0 rfl ?_
      refine r_iload C dX4_mostGained_82 4 rfl ?_
      refine r_aload_n C dX4_mostGained_84 0 rfl ?_
      refine r_gr C wf_X4_30_3 dX4_mostGained_85 (fun q2 => ?_)
      refine r_iload_n C dX4_mostGained_88 3 rfl ?_
      refine r_iald C dX4_mostGained_89 (fun x3 => ?_)
      refine r_cvi (As := [.int i4, .int x3]) (st := [.int i4, p_rf g q1]) C wv_X4_180 (tcX4_bestWith K.2.1 g hg o0 i4 x3 h) (Nat.le_of_ble_eq_true rfl) rfl rfl (Nat.le_of_ble_eq_true rfl) dX4_mostGained_90 ⟨Nat.le_of_ble_eq_true rfl, Nat.le_of_ble_eq_true rfl⟩ (fun x4 h5 => ?_)
      refine r_iast C dX4_mostGained_93 (fun h6 => ?_)
      refine r_iinc (lv' := [(0, p_rf g o0), (1, .int i1), (2, .int i2), (3, .int i3)]) C dX4_mostGained_94 4 rfl k_im1 (by decide) (fun _ => rfl) (fun x7 => ?_)
      refine r_goto (tgt := 70) C dX4_mostGained_97 (by decide) ?_
      refine r_perm (lv' := [(0, p_rf g o0), (1, .int i1), (2, .int i2), (3, .int i3), (4, .int x7)]) [1, 2, 3, 4, 0] rfl ?_
      exact ih x7 h6
set_option maxRecDepth 100000 in
set_option maxHeartbeats 4000000 in
theorem tX4_mostGained_L47 {K : AC} {g : WG} (hg : p_al g = false)  (C : Cx K g cX4_mostGained 5 RX4 (some .int) "mostGained" 3 0 0) (o0 : Nat) (i1 : Int32) (i2 : Int32) {kx : PH → Option (Int32 × PH)} (hk : ∀  (h : PH), VX K g 5 0 0 (a_fin K g 0 0 em_i) 106 [(0, p_rf g o0), (2, .int i2)] [] h (kx h)) : ∀ (n : Nat) (i3 : Int32) (h : PH), VX K g 5 0 0 (a_fin K g 0 0 em_i) 47 [(0, p_rf g o0), (1, .int i1), (2, .int i2), (3, .int i3)] [] h (fX4_mostGained_L47 o0 i1 i2 kx n i3 h) := by
  intro n
  induction n with
  | zero =>
    intros
    exact r_none
  | succ n ih =>
    intro i3 h
    rw [fX4_mostGained_L47]
    refine r_iload_n C dX4_mostGained_47 3 rfl ?_
    refine r_aload_n C dX4_mostGained_48 0 rfl ?_
    refine r_gr C wf_X4_39_3 dX4_mostGained_49 (fun q1 => ?_)
    refine r_cvi (As := []) (st := [.int i3]) C wv_X4_60 (tcX0_groundSize K.2.1 g hg q1 h) (Nat.le_of_ble_eq_true rfl) rfl rfl (Nat.le_of_ble_eq_true rfl) dX4_mostGained_52 ⟨Nat.le_of_ble_eq_true rfl, Nat.le_of_ble_eq_true rfl⟩ (fun x2 h3 => ?_)
    refine r_icmp_ge (tgt := 106) C dX4_mostGained_55 (by decide) ?_ ?_
    · refine r_perm (lv' := [(0, p_rf g o0), (2, .int i2)]) [0, 2] rfl ?_
      exact hk h3
    · refine r_aload_n C dX4_mostGained_58 0 rfl ?_
      refine r_iload_n C dX4_mostGained_59 3 rfl ?_
      refine r_iload_n C dX4_mostGained_60 1 rfl ?_
      refine r_iload_n C dX4_mostGained_61 2 rfl ?_
      refine r_cvv (As := [.int i3, .int i1, .int i2]) (st := []) C wv_X4_176 (tcX4_sumGains K.2.1 g hg o0 i3 i1 i2 h3) (Nat.le_of_ble_eq_true rfl) rfl rfl (Nat.le_of_ble_eq_true rfl) dX4_mostGained_62 ⟨Nat.le_of_ble_eq_true rfl, Nat.le_of_ble_eq_true rfl⟩ (fun h4 => ?_)
      refine r_iload_n C dX4_mostGained_65 2 rfl ?_
      refine r_iconst C dX4_mostGained_66 k_i1 ?_
      refine r_isub C dX4_mostGained_67 ?_
      refine r_topi (fun x5 => ?_)
      refine r_istore (lv9 := [(4, .int x5), (0, p_rf g o0), (1, .int i1), (2, .int i2), (3, .int i3)]) C dX4_mostGained_68 (by decide) rfl ?_
      refine r_perm (lv' := [(0, p_rf g o0), (1, .int i1), (2, .int i2), (3, .int i3), (4, .int x5)]) [1, 2, 3, 4, 0] rfl ?_
      refine tX4_mostGained_L70 hg C o0 i1 i2 i3 (fun h6 => ?_) FU x5 h4
      refine r_iinc (lv' := [(0, p_rf g o0), (1, .int i1), (2, .int i2)]) C dX4_mostGained_100 3 rfl k_i1 (by decide) (fun _ => rfl) (fun x7 => ?_)
      refine r_goto (tgt := 47) C dX4_mostGained_103 (by decide) ?_
      refine r_perm (lv' := [(0, p_rf g o0), (1, .int i1), (2, .int i2), (3, .int x7)]) [1, 2, 3, 0] rfl ?_
      exact ih x7 h6
set_option maxRecDepth 100000 in
set_option maxHeartbeats 4000000 in
theorem tcX4_mostGained (l : Launch) (g : WG) (hg : p_al g = false) (o0 : Nat) (i1 : Int32) (h : PH) : CT l g 3 0 0 yX4_mostGained cX4_mostGained 5 (some .int) em_i [p_rf g o0, .int i1] h (fX4_mostGained o0 i1 h) := by
  refine CT_of (own := RX4) (nm := "mostGained") (by decide +kernel) (Nat.le_of_ble_eq_true rfl) rfl rfl rfl ⟨rfl, rfl⟩ (fun K hK C => ?_)
  subst hK
  unfold fX4_mostGained
  show VX K g _ _ _ _ _ [(0, p_rf g o0), (1, .int i1)] _ _ _
  refine r_iconst C dX4_mostGained_0 k_i1 ?_
  refine r_iconst C dX4_mostGained_1 k_i0 ?_
  refine r_aload_n C dX4_mostGained_2 0 rfl ?_
  refine r_gr C wf_X4_39_3 dX4_mostGained_3 (fun q1 => ?_)
  refine r_cvi (As := []) (st := [.int (0 : Int32), .int (1 : Int32)]) C wv_X4_161 (tcX0_personSize K.2.1 g hg q1 h) (Nat.le_of_ble_eq_true rfl) rfl rfl (Nat.le_of_ble_eq_true rfl) dX4_mostGained_6 ⟨Nat.le_of_ble_eq_true rfl, Nat.le_of_ble_eq_true rfl⟩ (fun x2 h3 => ?_)
  refine r_iload_n C dX4_mostGained_9 1 rfl ?_
  refine r_isub C dX4_mostGained_10 ?_
  refine r_topi (fun x4 => ?_)
  refine r_max C wm_X4_132 (Nat.le_of_ble_eq_true rfl) (Nat.le_of_ble_eq_true rfl) ⟨Nat.le_of_ble_eq_true rfl, Nat.le_of_ble_eq_true rfl⟩ dX4_mostGained_11 ?_
  refine r_ishl C dX4_mostGained_14 ?_
  refine r_topi (fun x5 => ?_)
  refine r_istore_n (lv9 := [(2, .int x5), (0, p_rf g o0), (1, .int i1)]) C dX4_mostGained_15 (by decide) rfl ?_
  refine r_iconst C dX4_mostGained_16 k_i0 ?_
  refine r_istore_n (lv9 := [(3, .int (0 : Int32)), (2, .int x5), (0, p_rf g o0), (1, .int i1)]) C dX4_mostGained_17 (by decide) rfl ?_
  refine r_perm (lv' := [(0, p_rf g o0), (1, .int i1), (2, .int x5), (3, .int (0 : Int32))]) [2, 3, 1, 0] rfl ?_
  refine tX4_mostGained_L18 hg C o0 i1 x5 (fun h6 => ?_) FU (0 : Int32) h3
  refine r_iconst C dX4_mostGained_45 k_i0 ?_
  refine r_istore_n (lv9 := [(3, .int (0 : Int32)), (0, p_rf g o0), (1, .int i1), (2, .int x5)]) C dX4_mostGained_46 (by decide) rfl ?_
  refine r_perm (lv' := [(0, p_rf g o0), (1, .int i1), (2, .int x5), (3, .int (0 : Int32))]) [1, 2, 3, 0] rfl ?_
  refine tX4_mostGained_L47 hg C o0 i1 x5 (fun h7 => ?_) FU (0 : Int32) h6
  refine r_aload_n C dX4_mostGained_106 0 rfl ?_
  refine r_gr C wf_X4_33_3 dX4_mostGained_107 (fun q8 => ?_)
  refine r_iload_n C dX4_mostGained_110 1 rfl ?_
  refine r_iconst C dX4_mostGained_111 k_i1 ?_
  refine r_isub C dX4_mostGained_112 ?_
  refine r_iald C dX4_mostGained_113 (fun x9 => ?_)
  exact r_iret C dX4_mostGained_114
set_option maxRecDepth 100000 in
set_option maxHeartbeats 4000000 in
theorem tX4_leastGiven_J89_15 {K : AC} {g : WG} (hg : p_al g = false)  (C : Cx K g cX4_leastGiven 5 RX4 (some .int) "leastGiven" 4 0 0) (o0 : Nat) (i1 : Int32) (i2 : Int32) (i3 : Int32)    {rc : Int32 → PH → Option (Int32 × PH)} {kx : PH → Option (Int32 × PH)} (hr : ∀ (i3' : Int32) (h : PH), VX K g 5 0 0 (a_fin K g 0 0 em_i) 15 [(0, p_rf g o0), (1, .int i1), (2, .int i2), (3, .int i3')] [] h (rc i3' h)) (hk : ∀  (h : PH), VX K g 5 0 0 (a_fin K g 0 0 em_i) 95 [] [] h (kx  h)) (h : PH) : VX K g 5 0 0 (a_fin K g 0 0 em_i) 89 [(0, p_rf g o0), (1, .int i1), (2, .int i2), (3, .int i3)] [] h (fX4_leastGiven_J89_15 rc kx o0 i1 i2 i3 h) := by
  unfold fX4_leastGiven_J89_15
  refine r_iinc (lv' := [(0, p_rf g o0), (1, .int i1), (2, .int i2)]) C dX4_leastGiven_89 3 rfl k_i1 (by decide) (fun _ => rfl) (fun x1 => ?_)
  refine r_goto (tgt := 15) C dX4_leastGiven_92 (by decide) ?_
  refine r_perm (lv' := [(0, p_rf g o0), (1, .int i1), (2, .int i2), (3, .int x1)]) [1, 2, 3, 0] rfl ?_
  exact hr x1 h
set_option maxRecDepth 100000 in
set_option maxHeartbeats 4000000 in
theorem tX4_leastGiven_L15 {K : AC} {g : WG} (hg : p_al g = false)  (C : Cx K g cX4_leastGiven 5 RX4 (some .int) "leastGiven" 4 0 0) (o0 : Nat) (i1 : Int32) (i2 : Int32) {kx : PH → Option (Int32 × PH)} (hk : ∀  (h : PH), VX K g 5 0 0 (a_fin K g 0 0 em_i) 95 [] [] h (kx h)) : ∀ (n : Nat) (i3 : Int32) (h : PH), VX K g 5 0 0 (a_fin K g 0 0 em_i) 15 [(0, p_rf g o0), (1, .int i1), (2, .int i2), (3, .int i3)] [] h (fX4_leastGiven_L15 o0 i1 i2 kx n i3 h) := by
  intro n
  induction n with
  | zero =>
    intros
    exact r_none
  | succ n ih =>
    intro i3 h
    rw [fX4_leastGiven_L15]
    refine r_iload_n C dX4_leastGiven_15 3 rfl ?_
    refine r_aload_n C dX4_leastGiven_16 0 rfl ?_
    refine r_gr C wf_X4_39_3 dX4_leastGiven_17 (fun q1 => ?_)
    refine r_cvi (As := []) (st := [.int i3]) C wv_X4_60 (tcX0_groundSize K.2.1 g hg q1 h) (Nat.le_of_ble_eq_true rfl) rfl rfl (Nat.le_of_ble_eq_true rfl) dX4_leastGiven_20 ⟨Nat.le_of_ble_eq_true rfl, Nat.le_of_ble_eq_true rfl⟩ (fun x2 h3 => ?_)
    refine r_icmp_ge (tgt := 95) C dX4_leastGiven_23 (by decide) ?_ ?_
    · refine r_perm (lv' := []) [] rfl ?_
      exact hk h3
    · refine r_aload_n C dX4_leastGiven_26 0 rfl ?_
      refine r_gr C wf_X4_27_3 dX4_leastGiven_27 (fun q4 => ?_)
      refine r_iload_n C dX4_leastGiven_30 1 rfl ?_
      refine r_bipush C dX4_leastGiven_31 k_b8 ?_
      refine r_imul C dX4_leastGiven_33 ?_
      refine r_iload_n C dX4_leastGiven_34 3 rfl ?_
      refine r_iadd C dX4_leastGiven_35 ?_
      refine r_iald C dX4_leastGiven_36 (fun x5 => ?_)
      refine r_istore (lv9 := [(4, .int x5), (0, p_rf g o0), (1, .int i1), (2, .int i2), (3, .int i3)]) C dX4_leastGiven_37 (by decide) rfl ?_
      refine r_iload C dX4_leastGiven_39 0 rfl ?_
      refine r_if_le (tgt := 89) C dX4_leastGiven_41 (by decide) ?_ ?_
      · refine r_perm (lv' := [(0, p_rf g o0), (1, .int i1), (2, .int i2), (3, .int i3)]) [1, 2, 3, 4] rfl ?_
        exact tX4_leastGiven_J89_15 hg C o0 i1 i2 i3 ih hk h3
      · refine r_aload_n C dX4_leastGiven_44 1 rfl ?_
        refine r_gr C wf_X4_30_3 dX4_leastGiven_45 (fun q6 => ?_)
        refine r_iload_n C dX4_leastGiven_48 4 rfl ?_
        refine r_iald C dX4_leastGiven_49 (fun x7 => ?_)
        refine r_if_le (tgt := 89) C dX4_leastGiven_50 (by decide) ?_ ?_
        · refine r_perm (lv' := [(0, p_rf g o0), (1, .int i1), (2, .int i2), (3, .int i3)]) [1, 2, 3, 4] rfl ?_
          exact tX4_leastGiven_J89_15 hg C o0 i1 i2 i3 ih hk h3
        · refine r_aload_n C dX4_leastGiven_53 1 rfl ?_
          refine r_gr C wf_X4_30_3 dX4_leastGiven_54 (fun q8 => ?_)
          refine r_iload_n C dX4_leastGiven_57 4 rfl ?_
          refine r_dup2 C dX4_leastGiven_58 rfl rfl ?_
          refine r_iald C dX4_leastGiven_59 (fun x9 => ?_)
          refine r_iconst C dX4_leastGiven_60 k_i1 ?_
          refine r_isub C dX4_leastGiven_61 ?_
          refine r_iast C dX4_leastGiven_62 (fun h10 => ?_)
          refine r_iload C dX4_leastGiven_63 0 rfl ?_
          refine r_aload_n C dX4_leastGiven_65 1 rfl ?_
          refine r_iload_n C dX4_leastGiven_66 2 rfl ?_
          refine r_iconst C dX4_leastGiven_67 k_i1 ?_
          refine r_iadd C dX4_leastGiven_68 ?_
          refine r_cvi (As := [.int (i1 + (1 : Int32))]) (st := [.int x5]) C wv_X4_170 (tcX4_mostGained K.2.1 g hg o0 (i1 + (1 : Int32)) h10) (Nat.le_of_ble_eq_true rfl) rfl rfl (Nat.le_of_ble_eq_true rfl) dX4_leastGiven_69 ⟨Nat.le_of_ble_eq_true rfl, Nat.le_of_ble_eq_true rfl⟩ (fun x11 h12 => ?_)
          refine r_iadd C dX4_leastGiven_72 ?_
          refine r_iload_n C dX4_leastGiven_73 3 rfl ?_
          refine r_icmp_ne (tgt := 79) C dX4_leastGiven_74 (by decide) ?_ ?_
          · refine r_aload_n C dX4_leastGiven_79 1 rfl ?_
            refine r_gr C wf_X4_30_3 dX4_leastGiven_80 (fun q13 => ?_)
            refine r_iload_n C dX4_leastGiven_83 4 rfl ?_
            refine r_dup2 C dX4_leastGiven_84 rfl rfl ?_
            refine r_iald C dX4_leastGiven_85 (fun x14 => ?_)
            refine r_iconst C dX4_leastGiven_86 k_i1 ?_
            refine r_iadd C dX4_leastGiven_87 ?_
            refine r_iast C dX4_leastGiven_88 (fun h15 => ?_)
            refine r_perm (lv' := [(0, p_rf g o0), (1, .int i1), (2, .int i2), (3, .int i3)]) [1, 2, 3, 4] rfl ?_
            exact tX4_leastGiven_J89_15 hg C o0 i1 i2 i3 ih hk h15
          · refine r_iload_n C dX4_leastGiven_77 4 rfl ?_
            exact r_iret C dX4_leastGiven_78
set_option maxRecDepth 100000 in
set_option maxHeartbeats 4000000 in
theorem tcX4_leastGiven (l : Launch) (g : WG) (hg : p_al g = false) (o0 : Nat) (i1 : Int32) (i2 : Int32) (h : PH) : CT l g 4 0 0 yX4_leastGiven cX4_leastGiven 5 (some .int) em_i [p_rf g o0, .int i1, .int i2] h (fX4_leastGiven o0 i1 i2 h) := by
  refine CT_of (own := RX4) (nm := "leastGiven") (by decide +kernel) (Nat.le_of_ble_eq_true rfl) rfl rfl rfl ⟨rfl, rfl⟩ (fun K hK C => ?_)
  subst hK
  unfold fX4_leastGiven
  show VX K g _ _ _ _ _ [(0, p_rf g o0), (1, .int i1), (2, .int i2)] _ _ _
  refine r_aload_n C dX4_leastGiven_0 0 rfl ?_
  refine r_iload_n C dX4_leastGiven_1 1 rfl ?_
  refine r_iconst C dX4_leastGiven_2 k_i1 ?_
  refine r_iadd C dX4_leastGiven_3 ?_
  refine r_cvi (As := [.int (i1 + (1 : Int32))]) (st := []) C wv_X4_170 (tcX4_mostGained K.2.1 g hg o0 (i1 + (1 : Int32)) h) (Nat.le_of_ble_eq_true rfl) rfl rfl (Nat.le_of_ble_eq_true rfl) dX4_leastGiven_4 ⟨Nat.le_of_ble_eq_true rfl, Nat.le_of_ble_eq_true rfl⟩ (fun x1 h2 => ?_)
  refine r_iload_n C dX4_leastGiven_7 2 rfl ?_
  refine r_icmp_ne (tgt := 13) C dX4_leastGiven_8 (by decide) ?_ ?_
  · refine r_iconst C dX4_leastGiven_13 k_i0 ?_
    refine r_istore_n (lv9 := [(3, .int (0 : Int32)), (0, p_rf g o0), (1, .int i1), (2, .int i2)]) C dX4_leastGiven_14 (by decide) rfl ?_
    refine r_perm (lv' := [(0, p_rf g o0), (1, .int i1), (2, .int i2), (3, .int (0 : Int32))]) [1, 2, 3, 0] rfl ?_
    refine tX4_leastGiven_L15 hg C o0 i1 i2 (fun h3 => ?_) FU (0 : Int32) h2
    refine r_iconst C dX4_leastGiven_95 k_im1 ?_
    exact r_iret C dX4_leastGiven_96
  · refine r_iconst C dX4_leastGiven_11 k_im1 ?_
    exact r_iret C dX4_leastGiven_12
set_option maxRecDepth 100000 in
set_option maxHeartbeats 4000000 in
theorem tX4_shareOut_L2 {K : AC} {g : WG} (hg : p_al g = false)  (C : Cx K g cX4_shareOut 5 RX4 (some .int) "shareOut" 5 0 0) (o0 : Nat) {kx : PH → Option (Int32 × PH)} (hk : ∀  (h : PH), VX K g 5 0 0 (a_fin K g 0 0 em_i) 33 [(0, p_rf g o0)] [] h (kx h)) : ∀ (n : Nat) (i1 : Int32) (h : PH), VX K g 5 0 0 (a_fin K g 0 0 em_i) 2 [(0, p_rf g o0), (1, .int i1)] [] h (fX4_shareOut_L2 o0 kx n i1 h) := by
  intro n
  induction n with
  | zero =>
    intros
    exact r_none
  | succ n ih =>
    intro i1 h
    rw [fX4_shareOut_L2]
    refine r_iload_n C dX4_shareOut_2 1 rfl ?_
    refine r_aload_n C dX4_shareOut_3 0 rfl ?_
    refine r_gr C wf_X4_39_3 dX4_shareOut_4 (fun q1 => ?_)
    refine r_cvi (As := []) (st := [.int i1]) C wv_X4_60 (tcX0_groundSize K.2.1 g hg q1 h) (Nat.le_of_ble_eq_true rfl) rfl rfl (Nat.le_of_ble_eq_true rfl) dX4_shareOut_7 ⟨Nat.le_of_ble_eq_true rfl, Nat.le_of_ble_eq_true rfl⟩ (fun x2 h3 => ?_)
    refine r_icmp_ge (tgt := 33) C dX4_shareOut_10 (by decide) ?_ ?_
    · refine r_perm (lv' := [(0, p_rf g o0)]) [0] rfl ?_
      exact hk h3
    · refine r_aload_n C dX4_shareOut_13 0 rfl ?_
      refine r_gr C wf_X4_30_3 dX4_shareOut_14 (fun q4 => ?_)
      refine r_iload_n C dX4_shareOut_17 1 rfl ?_
      refine r_aload_n C dX4_shareOut_18 0 rfl ?_
      refine r_gr C wf_X4_43_3 dX4_shareOut_19 (fun q5 => ?_)
      refine r_iload_n C dX4_shareOut_22 1 rfl ?_
      refine r_cvi (As := [.int i1]) (st := [.int i1, p_rf g q4]) C wv_X4_89 (tcX8_stockOf K.2.1 g hg q5 i1 h3) (Nat.le_of_ble_eq_true rfl) rfl rfl (Nat.le_of_ble_eq_true rfl) dX4_shareOut_23 ⟨Nat.le_of_ble_eq_true rfl, Nat.le_of_ble_eq_true rfl⟩ (fun x6 h7 => ?_)
      refine r_iast C dX4_shareOut_26 (fun h8 => ?_)
      refine r_iinc (lv' := [(0, p_rf g o0)]) C dX4_shareOut_27 1 rfl k_i1 (by decide) (fun _ => rfl) (fun x9 => ?_)
      refine r_goto (tgt := 2) C dX4_shareOut_30 (by decide) ?_
      refine r_perm (lv' := [(0, p_rf g o0), (1, .int x9)]) [1, 0] rfl ?_
      exact ih x9 h8
set_option maxRecDepth 100000 in
set_option maxHeartbeats 4000000 in
theorem tX4_shareOut_J91_50 {K : AC} {g : WG} (hg : p_al g = false)  (C : Cx K g cX4_shareOut 5 RX4 (some .int) "shareOut" 5 0 0) (o0 : Nat) (i1 : Int32) (i3 : Int32) (i4 : Int32) (s0 : Int32) (s1 : Int32)    {rc : Int32 → Int32 → PH → Option (Int32 × PH)} {kx : PH → Option (Int32 × PH)} (hr : ∀ (i2' : Int32) (i3' : Int32) (h : PH), VX K g 5 0 0 (a_fin K g 0 0 em_i) 50 [(0, p_rf g o0), (1, .int i1), (2, .int i2'), (3, .int i3')] [] h (rc i2' i3' h)) (hk : ∀  (h : PH), VX K g 5 0 0 (a_fin K g 0 0 em_i) 109 [(1, .int i1)] [] h (kx  h)) (h : PH) : VX K g 5 0 0 (a_fin K g 0 0 em_i) 91 [(0, p_rf g o0), (1, .int i1), (3, .int i3), (4, .int i4)] [.int s0, .int s1] h (fX4_shareOut_J91_50 rc kx o0 i1 i3 i4 s0 s1 h) := by
  unfold fX4_shareOut_J91_50
  refine r_isub C dX4_shareOut_91 ?_
  refine r_topi (fun x1 => ?_)
  refine r_istore_n (lv9 := [(2, .int x1), (0, p_rf g o0), (1, .int i1), (3, .int i3), (4, .int i4)]) C dX4_shareOut_92 (by decide) rfl ?_
  refine r_aload_n C dX4_shareOut_93 1 rfl ?_
  refine r_gr C wf_X4_50_3 dX4_shareOut_94 (fun q2 => ?_)
  refine r_iload C dX4_shareOut_97 4 rfl ?_
  refine r_i2l C dX4_shareOut_99 ?_
  refine r_cvv (As := [.long (i4.toInt64)]) (st := []) C wv_X4_113 (tcX3_add K.2.1 g hg q2 (i4.toInt64) h) (Nat.le_of_ble_eq_true rfl) rfl rfl (Nat.le_of_ble_eq_true rfl) dX4_shareOut_100 ⟨Nat.le_of_ble_eq_true rfl, Nat.le_of_ble_eq_true rfl⟩ (fun h3 => ?_)
  refine r_iinc (lv' := [(2, .int x1), (0, p_rf g o0), (1, .int i1), (4, .int i4)]) C dX4_shareOut_103 3 rfl k_i1 (by decide) (fun _ => rfl) (fun x4 => ?_)
  refine r_goto (tgt := 50) C dX4_shareOut_106 (by decide) ?_
  refine r_perm (lv' := [(0, p_rf g o0), (1, .int i1), (2, .int x1), (3, .int x4)]) [2, 3, 1, 0] rfl ?_
  exact hr x1 x4 h3
set_option maxRecDepth 100000 in
set_option maxHeartbeats 4000000 in
theorem tX4_shareOut_L50 {K : AC} {g : WG} (hg : p_al g = false)  (C : Cx K g cX4_shareOut 5 RX4 (some .int) "shareOut" 5 0 0) (o0 : Nat) (i1 : Int32) {kx : PH → Option (Int32 × PH)} (hk : ∀  (h : PH), VX K g 5 0 0 (a_fin K g 0 0 em_i) 109 [(1, .int i1)] [] h (kx h)) : ∀ (n : Nat) (i2 : Int32) (i3 : Int32) (h : PH), VX K g 5 0 0 (a_fin K g 0 0 em_i) 50 [(0, p_rf g o0), (1, .int i1), (2, .int i2), (3, .int i3)] [] h (fX4_shareOut_L50 o0 i1 kx n i2 i3 h) := by
  intro n
  induction n with
  | zero =>
    intros
    exact r_none
  | succ n ih =>
    intro i2 i3 h
    rw [fX4_shareOut_L50]
    refine r_iload_n C dX4_shareOut_50 3 rfl ?_
    refine r_aload_n C dX4_shareOut_51 0 rfl ?_
    refine r_gr C wf_X4_39_3 dX4_shareOut_52 (fun q1 => ?_)
    refine r_cvi (As := []) (st := [.int i3]) C wv_X4_161 (tcX0_personSize K.2.1 g hg q1 h) (Nat.le_of_ble_eq_true rfl) rfl rfl (Nat.le_of_ble_eq_true rfl) dX4_shareOut_55 ⟨Nat.le_of_ble_eq_true rfl, Nat.le_of_ble_eq_true rfl⟩ (fun x2 h3 => ?_)
    refine r_icmp_ge (tgt := 109) C dX4_shareOut_58 (by decide) ?_ ?_
    · refine r_perm (lv' := [(1, .int i1)]) [1] rfl ?_
      exact hk h3
    · refine r_aload_n C dX4_shareOut_61 0 rfl ?_
      refine r_iload_n C dX4_shareOut_62 3 rfl ?_
      refine r_iload_n C dX4_shareOut_63 2 rfl ?_
      refine r_cvi (As := [.int i3, .int i2]) (st := []) C wv_X4_173 (tcX4_leastGiven K.2.1 g hg o0 i3 i2 h3) (Nat.le_of_ble_eq_true rfl) rfl rfl (Nat.le_of_ble_eq_true rfl) dX4_shareOut_64 ⟨Nat.le_of_ble_eq_true rfl, Nat.le_of_ble_eq_true rfl⟩ (fun x4 h5 => ?_)
      refine r_istore (lv9 := [(4, .int x4), (0, p_rf g o0), (1, .int i1), (2, .int i2), (3, .int i3)]) C dX4_shareOut_67 (by decide) rfl ?_
      refine r_iload_n C dX4_shareOut_69 3 rfl ?_
      refine r_iload C dX4_shareOut_70 0 rfl ?_
      refine r_if_ge (tgt := 79) C dX4_shareOut_72 (by decide) ?_ ?_
      · refine r_aload_n C dX4_shareOut_79 1 rfl ?_
        refine r_gr C wf_X4_27_3 dX4_shareOut_80 (fun q6 => ?_)
        refine r_iload_n C dX4_shareOut_83 4 rfl ?_
        refine r_bipush C dX4_shareOut_84 k_b8 ?_
        refine r_imul C dX4_shareOut_86 ?_
        refine r_iload C dX4_shareOut_87 0 rfl ?_
        refine r_iadd C dX4_shareOut_89 ?_
        refine r_iald C dX4_shareOut_90 (fun x7 => ?_)
        refine r_perm (lv' := [(0, p_rf g o0), (1, .int i1), (3, .int i3), (4, .int x4)]) [1, 2, 4, 0] rfl ?_
        exact tX4_shareOut_J91_50 hg C o0 i1 i3 x4 x7 i2 ih hk h5
      · refine r_iconst C dX4_shareOut_75 k_i0 ?_
        refine r_goto (tgt := 91) C dX4_shareOut_76 (by decide) ?_
        refine r_perm (lv' := [(0, p_rf g o0), (1, .int i1), (3, .int i3), (4, .int x4)]) [1, 2, 4, 0] rfl ?_
        exact tX4_shareOut_J91_50 hg C o0 i1 i3 x4 (0 : Int32) i2 ih hk h5
set_option maxRecDepth 100000 in
set_option maxHeartbeats 4000000 in
theorem tcX4_shareOut (l : Launch) (g : WG) (hg : p_al g = false) (o0 : Nat) (h : PH) : CT l g 5 0 0 yX4_shareOut cX4_shareOut 5 (some .int) em_i [p_rf g o0] h (fX4_shareOut o0 h) := by
  refine CT_of (own := RX4) (nm := "shareOut") (by decide +kernel) (Nat.le_of_ble_eq_true rfl) rfl rfl rfl ⟨rfl, rfl⟩ (fun K hK C => ?_)
  subst hK
  unfold fX4_shareOut
  show VX K g _ _ _ _ _ [(0, p_rf g o0)] _ _ _
  refine r_iconst C dX4_shareOut_0 k_i0 ?_
  refine r_istore_n (lv9 := [(1, .int (0 : Int32)), (0, p_rf g o0)]) C dX4_shareOut_1 (by decide) rfl ?_
  refine r_perm (lv' := [(0, p_rf g o0), (1, .int (0 : Int32))]) [1, 0] rfl ?_
  refine tX4_shareOut_L2 hg C o0 (fun h1 => ?_) FU (0 : Int32) h
  refine r_aload_n C dX4_shareOut_33 0 rfl ?_
  refine r_iconst C dX4_shareOut_34 k_i0 ?_
  refine r_cvi (As := [.int (0 : Int32)]) (st := []) C wv_X4_170 (tcX4_mostGained K.2.1 g hg o0 (0 : Int32) h1) (Nat.le_of_ble_eq_true rfl) rfl rfl (Nat.le_of_ble_eq_true rfl) dX4_shareOut_35 ⟨Nat.le_of_ble_eq_true rfl, Nat.le_of_ble_eq_true rfl⟩ (fun x2 h3 => ?_)
  refine r_istore_n (lv9 := [(1, .int x2), (0, p_rf g o0)]) C dX4_shareOut_38 (by decide) rfl ?_
  refine r_iload_n C dX4_shareOut_39 0 rfl ?_
  refine r_istore_n (lv9 := [(2, .int x2), (1, .int x2), (0, p_rf g o0)]) C dX4_shareOut_40 (by decide) rfl ?_
  refine r_aload_n C dX4_shareOut_41 2 rfl ?_
  refine r_gr C wf_X4_50_3 dX4_shareOut_42 (fun q4 => ?_)
  refine r_cvv (As := []) (st := []) C wv_X4_108 (tcX3_start K.2.1 g hg q4 h3) (Nat.le_of_ble_eq_true rfl) rfl rfl (Nat.le_of_ble_eq_true rfl) dX4_shareOut_45 ⟨Nat.le_of_ble_eq_true rfl, Nat.le_of_ble_eq_true rfl⟩ (fun h5 => ?_)
  refine r_iconst C dX4_shareOut_48 k_i0 ?_
  refine r_istore_n (lv9 := [(3, .int (0 : Int32)), (2, .int x2), (1, .int x2), (0, p_rf g o0)]) C dX4_shareOut_49 (by decide) rfl ?_
  refine r_perm (lv' := [(0, p_rf g o0), (1, .int x2), (2, .int x2), (3, .int (0 : Int32))]) [3, 2, 1, 0] rfl ?_
  refine tX4_shareOut_L50 hg C o0 x2 (fun h6 => ?_) FU x2 (0 : Int32) h5
  refine r_iload_n C dX4_shareOut_109 0 rfl ?_
  exact r_iret C dX4_shareOut_110
set_option maxRecDepth 100000 in
set_option maxHeartbeats 4000000 in
theorem tcX5_init (l : Launch) (g : WG) (hg : p_al g = true) (o0 : Nat) (h : PH) : CT l g 1 1 1148 yX5_init cX5_init 1 none em_v [p_rf g o0] h (fX5_init o0 h) := by
  refine CT_of (own := RX5) (nm := "<init>") (by decide +kernel) (Nat.le_of_ble_eq_true rfl) rfl rfl rfl ⟨rfl, rfl⟩ (fun K hK C => ?_)
  subst hK
  unfold fX5_init
  show VX K g _ _ _ _ _ [(0, p_rf g o0)] _ _ _
  refine r_aload_n C dX5_init_0 0 rfl ?_
  refine r_obj C wo_X5_1 (Nat.le_of_ble_eq_true rfl) (Nat.le_of_ble_eq_true rfl) dX5_init_1 ?_
  refine r_aload_n C dX5_init_4 0 rfl ?_
  refine r_sipush C dX5_init_5 k_s1148 ?_
  refine r_newa (atype := .int) (ty := .int) (t0 := 0) hg C rfl rfl m_227 (N := 1148) (a0 := (1148, .inl (fun _ => 0))) (fun _ => rfl) (by decide) (by decide) (by decide) ⟨Nat.le_of_ble_eq_true rfl, Nat.le_of_ble_eq_true rfl⟩ dX5_init_8 (fun q1 h2 => ?_)
  refine r_prF C wf_X5_11_4 rfl rfl dX5_init_10 (fun h3 => ?_)
  exact r_vret C dX5_init_13
set_option maxRecDepth 100000 in
set_option maxHeartbeats 4000000 in
theorem tcX5_size (l : Launch) (g : WG) (hg : p_al g = false) (o0 : Nat) (h : PH) : CT l g 1 0 0 yX5_size cX5_size 1 (some .int) em_i [p_rf g o0] h (fX5_size o0 h) := by
  refine CT_of (own := RX5) (nm := "size") (by decide +kernel) (Nat.le_of_ble_eq_true rfl) rfl rfl rfl ⟨rfl, rfl⟩ (fun K hK C => ?_)
  subst hK
  unfold fX5_size
  show VX K g _ _ _ _ _ [(0, p_rf g o0)] _ _ _
  refine r_aload_n C dX5_size_0 0 rfl ?_
  refine r_gi C wf_X5_15_4 dX5_size_1 (fun x1 => ?_)
  exact r_iret C dX5_size_4
set_option maxRecDepth 100000 in
set_option maxHeartbeats 4000000 in
theorem tcX8_saveTo (l : Launch) (g : WG) (hg : p_al g = false) (o0 : Nat) (o1 : Nat) (i2 : Int32) (h : PH) : CT l g 2 0 0 yX8_saveTo cX8_saveTo 3 none em_v [p_rf g o0, p_rf g o1, .int i2] h (fX8_saveTo o0 o1 i2 h) := by
  refine CT_of (own := RX8) (nm := "saveTo") (by decide +kernel) (Nat.le_of_ble_eq_true rfl) rfl rfl rfl ⟨rfl, rfl⟩ (fun K hK C => ?_)
  subst hK
  unfold fX8_saveTo
  show VX K g _ _ _ _ _ [(0, p_rf g o0), (1, p_rf g o1), (2, .int i2)] _ _ _
  refine r_iload_n C dX8_saveTo_0 2 rfl ?_
  refine r_iconst C dX8_saveTo_1 k_i0 ?_
  refine r_aload_n C dX8_saveTo_2 1 rfl ?_
  refine r_alen (ty := .int) (t0 := 0) C rfl dX8_saveTo_3 (fun x1 => ?_)
  refine r_bipush C dX8_saveTo_4 k_b82 ?_
  refine r_isub C dX8_saveTo_6 ?_
  refine r_cni (As := [.int i2, .int (0 : Int32), .int (x1 - (82 : Int32))]) (st := []) C wn_X8_33 (tcX11_within K.2.1 g hg i2 (0 : Int32) (x1 - (82 : Int32)) h) (Nat.le_of_ble_eq_true rfl) rfl rfl (Nat.le_of_ble_eq_true rfl) dX8_saveTo_7 ⟨Nat.le_of_ble_eq_true rfl, Nat.le_of_ble_eq_true rfl⟩ (fun x2 h3 => ?_)
  refine r_if_eq (tgt := 25) C dX8_saveTo_10 (by decide) ?_ ?_
  · exact r_vret C dX8_saveTo_25
  · refine r_aload_n C dX8_saveTo_13 0 rfl ?_
    refine r_gr C wf_X8_11_7 dX8_saveTo_14 (fun q4 => ?_)
    refine r_iconst C dX8_saveTo_17 k_i0 ?_
    refine r_aload_n C dX8_saveTo_18 1 rfl ?_
    refine r_iload_n C dX8_saveTo_19 2 rfl ?_
    refine r_bipush C dX8_saveTo_20 k_b82 ?_
    refine r_cpy hg C wc_X8_27 (Nat.le_of_ble_eq_true rfl) (Nat.le_of_ble_eq_true rfl) dX8_saveTo_22 (fun h5 => ?_)
    exact r_vret C dX8_saveTo_25
set_option maxRecDepth 100000 in
set_option maxHeartbeats 4000000 in
theorem tcX5_remember (l : Launch) (g : WG) (hg : p_al g = false) (o0 : Nat) (o1 : Nat) (h : PH) : CT l g 3 0 0 yX5_remember cX5_remember 2 none em_v [p_rf g o0, p_rf g o1] h (fX5_remember o0 o1 h) := by
  refine CT_of (own := RX5) (nm := "remember") (by decide +kernel) (Nat.le_of_ble_eq_true rfl) rfl rfl rfl ⟨rfl, rfl⟩ (fun K hK C => ?_)
  subst hK
  unfold fX5_remember
  show VX K g _ _ _ _ _ [(0, p_rf g o0), (1, p_rf g o1)] _ _ _
  refine r_aload_n C dX5_remember_0 1 rfl ?_
  refine r_aload_n C dX5_remember_1 0 rfl ?_
  refine r_gr C wf_X5_11_4 dX5_remember_2 (fun q1 => ?_)
  refine r_aload_n C dX5_remember_5 0 rfl ?_
  refine r_gi C wf_X5_19_4 dX5_remember_6 (fun x2 => ?_)
  refine r_bipush C dX5_remember_9 k_b82 ?_
  refine r_imul C dX5_remember_11 ?_
  refine r_cvv (As := [p_rf g q1, .int (x2 * (82 : Int32))]) (st := []) C wv_X5_22 (tcX8_saveTo K.2.1 g hg o1 q1 (x2 * (82 : Int32)) h) (Nat.le_of_ble_eq_true rfl) rfl rfl (Nat.le_of_ble_eq_true rfl) dX5_remember_12 ⟨Nat.le_of_ble_eq_true rfl, Nat.le_of_ble_eq_true rfl⟩ (fun h3 => ?_)
  refine r_aload_n C dX5_remember_15 0 rfl ?_
  refine r_aload_n C dX5_remember_16 0 rfl ?_
  refine r_gi C wf_X5_19_4 dX5_remember_17 (fun x4 => ?_)
  refine r_iconst C dX5_remember_20 k_i1 ?_
  refine r_iadd C dX5_remember_21 ?_
  refine r_bipush C dX5_remember_22 k_b12 ?_
  refine r_irem C dX5_remember_24 ?_
  refine r_pi C wf_X5_19_4 dX5_remember_25 (fun h5 => ?_)
  refine r_aload_n C dX5_remember_28 0 rfl ?_
  refine r_bipush C dX5_remember_29 k_b12 ?_
  refine r_aload_n C dX5_remember_31 0 rfl ?_
  refine r_gi C wf_X5_15_4 dX5_remember_32 (fun x6 => ?_)
  refine r_iconst C dX5_remember_35 k_i1 ?_
  refine r_iadd C dX5_remember_36 ?_
  refine r_topi (fun x7 => ?_)
  refine r_min C wm_X5_26 (Nat.le_of_ble_eq_true rfl) (Nat.le_of_ble_eq_true rfl) ⟨Nat.le_of_ble_eq_true rfl, Nat.le_of_ble_eq_true rfl⟩ dX5_remember_37 ?_
  refine r_pi C wf_X5_15_4 dX5_remember_40 (fun h8 => ?_)
  exact r_vret C dX5_remember_43
set_option maxRecDepth 100000 in
set_option maxHeartbeats 4000000 in
theorem tcX8_loadFrom (l : Launch) (g : WG) (hg : p_al g = false) (o0 : Nat) (o1 : Nat) (i2 : Int32) (h : PH) : CT l g 2 0 0 yX8_loadFrom cX8_loadFrom 3 none em_v [p_rf g o0, p_rf g o1, .int i2] h (fX8_loadFrom o0 o1 i2 h) := by
  refine CT_of (own := RX8) (nm := "loadFrom") (by decide +kernel) (Nat.le_of_ble_eq_true rfl) rfl rfl rfl ⟨rfl, rfl⟩ (fun K hK C => ?_)
  subst hK
  unfold fX8_loadFrom
  show VX K g _ _ _ _ _ [(0, p_rf g o0), (1, p_rf g o1), (2, .int i2)] _ _ _
  refine r_iload_n C dX8_loadFrom_0 2 rfl ?_
  refine r_iconst C dX8_loadFrom_1 k_i0 ?_
  refine r_aload_n C dX8_loadFrom_2 1 rfl ?_
  refine r_alen (ty := .int) (t0 := 0) C rfl dX8_loadFrom_3 (fun x1 => ?_)
  refine r_bipush C dX8_loadFrom_4 k_b82 ?_
  refine r_isub C dX8_loadFrom_6 ?_
  refine r_cni (As := [.int i2, .int (0 : Int32), .int (x1 - (82 : Int32))]) (st := []) C wn_X8_33 (tcX11_within K.2.1 g hg i2 (0 : Int32) (x1 - (82 : Int32)) h) (Nat.le_of_ble_eq_true rfl) rfl rfl (Nat.le_of_ble_eq_true rfl) dX8_loadFrom_7 ⟨Nat.le_of_ble_eq_true rfl, Nat.le_of_ble_eq_true rfl⟩ (fun x2 h3 => ?_)
  refine r_if_eq (tgt := 25) C dX8_loadFrom_10 (by decide) ?_ ?_
  · exact r_vret C dX8_loadFrom_25
  · refine r_aload_n C dX8_loadFrom_13 1 rfl ?_
    refine r_iload_n C dX8_loadFrom_14 2 rfl ?_
    refine r_aload_n C dX8_loadFrom_15 0 rfl ?_
    refine r_gr C wf_X8_11_7 dX8_loadFrom_16 (fun q4 => ?_)
    refine r_iconst C dX8_loadFrom_19 k_i0 ?_
    refine r_bipush C dX8_loadFrom_20 k_b82 ?_
    refine r_cpy hg C wc_X8_27 (Nat.le_of_ble_eq_true rfl) (Nat.le_of_ble_eq_true rfl) dX8_loadFrom_22 (fun h5 => ?_)
    exact r_vret C dX8_loadFrom_25
set_option maxRecDepth 100000 in
set_option maxHeartbeats 4000000 in
theorem tcX5_bringBack (l : Launch) (g : WG) (hg : p_al g = false) (o0 : Nat) (o1 : Nat) (h : PH) : CT l g 3 0 0 yX5_bringBack cX5_bringBack 2 (some .boolean) em_i [p_rf g o0, p_rf g o1] h (fX5_bringBack o0 o1 h) := by
  refine CT_of (own := RX5) (nm := "bringBack") (by decide +kernel) (Nat.le_of_ble_eq_true rfl) rfl rfl rfl ⟨rfl, rfl⟩ (fun K hK C => ?_)
  subst hK
  unfold fX5_bringBack
  show VX K g _ _ _ _ _ [(0, p_rf g o0), (1, p_rf g o1)] _ _ _
  refine r_aload_n C dX5_bringBack_0 0 rfl ?_
  refine r_gi C wf_X5_15_4 dX5_bringBack_1 (fun x1 => ?_)
  refine r_if_ne (tgt := 9) C dX5_bringBack_4 (by decide) ?_ ?_
  · refine r_aload_n C dX5_bringBack_9 0 rfl ?_
    refine r_aload_n C dX5_bringBack_10 0 rfl ?_
    refine r_gi C wf_X5_19_4 dX5_bringBack_11 (fun x2 => ?_)
    refine r_bipush C dX5_bringBack_14 k_b12 ?_
    refine r_iadd C dX5_bringBack_16 ?_
    refine r_iconst C dX5_bringBack_17 k_i1 ?_
    refine r_isub C dX5_bringBack_18 ?_
    refine r_bipush C dX5_bringBack_19 k_b12 ?_
    refine r_irem C dX5_bringBack_21 ?_
    refine r_pi C wf_X5_19_4 dX5_bringBack_22 (fun h3 => ?_)
    refine r_aload_n C dX5_bringBack_25 0 rfl ?_
    refine r_dup C dX5_bringBack_26 rfl ?_
    refine r_gi C wf_X5_15_4 dX5_bringBack_27 (fun x4 => ?_)
    refine r_iconst C dX5_bringBack_30 k_i1 ?_
    refine r_isub C dX5_bringBack_31 ?_
    refine r_pi C wf_X5_15_4 dX5_bringBack_32 (fun h5 => ?_)
    refine r_aload_n C dX5_bringBack_35 1 rfl ?_
    refine r_aload_n C dX5_bringBack_36 0 rfl ?_
    refine r_gr C wf_X5_11_4 dX5_bringBack_37 (fun q6 => ?_)
    refine r_aload_n C dX5_bringBack_40 0 rfl ?_
    refine r_gi C wf_X5_19_4 dX5_bringBack_41 (fun x7 => ?_)
    refine r_bipush C dX5_bringBack_44 k_b82 ?_
    refine r_imul C dX5_bringBack_46 ?_
    refine r_cvv (As := [p_rf g q6, .int (x7 * (82 : Int32))]) (st := []) C wv_X5_32 (tcX8_loadFrom K.2.1 g hg o1 q6 (x7 * (82 : Int32)) h5) (Nat.le_of_ble_eq_true rfl) rfl rfl (Nat.le_of_ble_eq_true rfl) dX5_bringBack_47 ⟨Nat.le_of_ble_eq_true rfl, Nat.le_of_ble_eq_true rfl⟩ (fun h8 => ?_)
    refine r_iconst C dX5_bringBack_50 k_i1 ?_
    exact r_zret C dX5_bringBack_51
  · refine r_iconst C dX5_bringBack_7 k_i0 ?_
    exact r_zret C dX5_bringBack_8
set_option maxRecDepth 100000 in
set_option maxHeartbeats 4000000 in
theorem tcX5_keepAs (l : Launch) (g : WG) (hg : p_al g = false) (o0 : Nat) (i1 : Int32) (o2 : Nat) (h : PH) : CT l g 3 0 0 yX5_keepAs cX5_keepAs 3 (some .boolean) em_i [p_rf g o0, .int i1, p_rf g o2] h (fX5_keepAs o0 i1 o2 h) := by
  refine CT_of (own := RX5) (nm := "keepAs") (by decide +kernel) (Nat.le_of_ble_eq_true rfl) rfl rfl rfl ⟨rfl, rfl⟩ (fun K hK C => ?_)
  subst hK
  unfold fX5_keepAs
  show VX K g _ _ _ _ _ [(0, p_rf g o0), (1, .int i1), (2, p_rf g o2)] _ _ _
  refine r_iload_n C dX5_keepAs_0 1 rfl ?_
  refine r_iconst C dX5_keepAs_1 k_i0 ?_
  refine r_iconst C dX5_keepAs_2 k_i1 ?_
  refine r_cni (As := [.int i1, .int (0 : Int32), .int (1 : Int32)]) (st := []) C wn_X5_35 (tcX11_within K.2.1 g hg i1 (0 : Int32) (1 : Int32) h) (Nat.le_of_ble_eq_true rfl) rfl rfl (Nat.le_of_ble_eq_true rfl) dX5_keepAs_3 ⟨Nat.le_of_ble_eq_true rfl, Nat.le_of_ble_eq_true rfl⟩ (fun x1 h2 => ?_)
  refine r_if_ne (tgt := 11) C dX5_keepAs_6 (by decide) ?_ ?_
  · refine r_aload_n C dX5_keepAs_11 2 rfl ?_
    refine r_aload_n C dX5_keepAs_12 0 rfl ?_
    refine r_gr C wf_X5_11_4 dX5_keepAs_13 (fun q3 => ?_)
    refine r_bipush C dX5_keepAs_16 k_b12 ?_
    refine r_iload_n C dX5_keepAs_18 1 rfl ?_
    refine r_iadd C dX5_keepAs_19 ?_
    refine r_bipush C dX5_keepAs_20 k_b82 ?_
    refine r_imul C dX5_keepAs_22 ?_
    refine r_cvv (As := [p_rf g q3, .int (((12 : Int32) + i1) * (82 : Int32))]) (st := []) C wv_X5_22 (tcX8_saveTo K.2.1 g hg o2 q3 (((12 : Int32) + i1) * (82 : Int32)) h2) (Nat.le_of_ble_eq_true rfl) rfl rfl (Nat.le_of_ble_eq_true rfl) dX5_keepAs_23 ⟨Nat.le_of_ble_eq_true rfl, Nat.le_of_ble_eq_true rfl⟩ (fun h4 => ?_)
    refine r_aload_n C dX5_keepAs_26 0 rfl ?_
    refine r_dup C dX5_keepAs_27 rfl ?_
    refine r_gi C wf_X5_41_4 dX5_keepAs_28 (fun x5 => ?_)
    refine r_iconst C dX5_keepAs_31 k_i1 ?_
    refine r_iload_n C dX5_keepAs_32 1 rfl ?_
    refine r_ishl C dX5_keepAs_33 ?_
    refine r_ior C dX5_keepAs_34 ?_
    refine r_pi C wf_X5_41_4 dX5_keepAs_35 (fun h6 => ?_)
    refine r_iconst C dX5_keepAs_38 k_i1 ?_
    exact r_zret C dX5_keepAs_39
  · refine r_iconst C dX5_keepAs_9 k_i0 ?_
    exact r_zret C dX5_keepAs_10
set_option maxRecDepth 100000 in
set_option maxHeartbeats 4000000 in
theorem tcX5_bringKept (l : Launch) (g : WG) (hg : p_al g = false) (o0 : Nat) (i1 : Int32) (o2 : Nat) (h : PH) : CT l g 3 0 0 yX5_bringKept cX5_bringKept 3 (some .boolean) em_i [p_rf g o0, .int i1, p_rf g o2] h (fX5_bringKept o0 i1 o2 h) := by
  refine CT_of (own := RX5) (nm := "bringKept") (by decide +kernel) (Nat.le_of_ble_eq_true rfl) rfl rfl rfl ⟨rfl, rfl⟩ (fun K hK C => ?_)
  subst hK
  unfold fX5_bringKept
  show VX K g _ _ _ _ _ [(0, p_rf g o0), (1, .int i1), (2, p_rf g o2)] _ _ _
  refine r_iload_n C dX5_bringKept_0 1 rfl ?_
  refine r_iconst C dX5_bringKept_1 k_i0 ?_
  refine r_iconst C dX5_bringKept_2 k_i1 ?_
  refine r_cni (As := [.int i1, .int (0 : Int32), .int (1 : Int32)]) (st := []) C wn_X5_35 (tcX11_within K.2.1 g hg i1 (0 : Int32) (1 : Int32) h) (Nat.le_of_ble_eq_true rfl) rfl rfl (Nat.le_of_ble_eq_true rfl) dX5_bringKept_3 ⟨Nat.le_of_ble_eq_true rfl, Nat.le_of_ble_eq_true rfl⟩ (fun x1 h2 => ?_)
  refine r_if_eq (tgt := 20) C dX5_bringKept_6 (by decide) ?_ ?_
  · refine r_iconst C dX5_bringKept_20 k_i0 ?_
    exact r_zret C dX5_bringKept_21
  · refine r_iload_n C dX5_bringKept_9 1 rfl ?_
    refine r_aload_n C dX5_bringKept_10 0 rfl ?_
    refine r_gi C wf_X5_41_4 dX5_bringKept_11 (fun x3 => ?_)
    refine r_cni (As := [.int i1, .int x3]) (st := []) C wn_X5_44 (tcX11_isIn K.2.1 g hg i1 x3 h2) (Nat.le_of_ble_eq_true rfl) rfl rfl (Nat.le_of_ble_eq_true rfl) dX5_bringKept_14 ⟨Nat.le_of_ble_eq_true rfl, Nat.le_of_ble_eq_true rfl⟩ (fun x4 h5 => ?_)
    refine r_if_ne (tgt := 22) C dX5_bringKept_17 (by decide) ?_ ?_
    · refine r_aload_n C dX5_bringKept_22 2 rfl ?_
      refine r_aload_n C dX5_bringKept_23 0 rfl ?_
      refine r_gr C wf_X5_11_4 dX5_bringKept_24 (fun q6 => ?_)
      refine r_bipush C dX5_bringKept_27 k_b12 ?_
      refine r_iload_n C dX5_bringKept_29 1 rfl ?_
      refine r_iadd C dX5_bringKept_30 ?_
      refine r_bipush C dX5_bringKept_31 k_b82 ?_
      refine r_imul C dX5_bringKept_33 ?_
      refine r_cvv (As := [p_rf g q6, .int (((12 : Int32) + i1) * (82 : Int32))]) (st := []) C wv_X5_32 (tcX8_loadFrom K.2.1 g hg o2 q6 (((12 : Int32) + i1) * (82 : Int32)) h5) (Nat.le_of_ble_eq_true rfl) rfl rfl (Nat.le_of_ble_eq_true rfl) dX5_bringKept_34 ⟨Nat.le_of_ble_eq_true rfl, Nat.le_of_ble_eq_true rfl⟩ (fun h7 => ?_)
      refine r_aload_n C dX5_bringKept_37 0 rfl ?_
      refine r_iconst C dX5_bringKept_38 k_i0 ?_
      refine r_pi C wf_X5_15_4 dX5_bringKept_39 (fun h8 => ?_)
      refine r_iconst C dX5_bringKept_42 k_i1 ?_
      exact r_zret C dX5_bringKept_43
    · refine r_iconst C dX5_bringKept_20 k_i0 ?_
      exact r_zret C dX5_bringKept_21
set_option maxRecDepth 100000 in
set_option maxHeartbeats 4000000 in
theorem tcX5_forgetAll (l : Launch) (g : WG) (hg : p_al g = false) (o0 : Nat) (h : PH) : CT l g 1 0 0 yX5_forgetAll cX5_forgetAll 1 none em_v [p_rf g o0] h (fX5_forgetAll o0 h) := by
  refine CT_of (own := RX5) (nm := "forgetAll") (by decide +kernel) (Nat.le_of_ble_eq_true rfl) rfl rfl rfl ⟨rfl, rfl⟩ (fun K hK C => ?_)
  subst hK
  unfold fX5_forgetAll
  show VX K g _ _ _ _ _ [(0, p_rf g o0)] _ _ _
  refine r_aload_n C dX5_forgetAll_0 0 rfl ?_
  refine r_iconst C dX5_forgetAll_1 k_i0 ?_
  refine r_pi C wf_X5_15_4 dX5_forgetAll_2 (fun h1 => ?_)
  refine r_aload_n C dX5_forgetAll_5 0 rfl ?_
  refine r_iconst C dX5_forgetAll_6 k_i0 ?_
  refine r_pi C wf_X5_41_4 dX5_forgetAll_7 (fun h2 => ?_)
  exact r_vret C dX5_forgetAll_10
set_option maxRecDepth 100000 in
set_option maxHeartbeats 4000000 in
theorem tcX6_read (l : Launch) (g : WG) (hg : p_al g = false) (o0 : Nat) (o1 : Nat) (h : PH) : CT l g 8 0 0 yX6_read cX6_read 3 (some .int) em_i [p_rf g o0, p_rf g o1] h (fX6_read o0 o1 h) := by
  refine CT_of (own := RX6) (nm := "read") (by decide +kernel) (Nat.le_of_ble_eq_true rfl) rfl rfl rfl ⟨rfl, rfl⟩ (fun K hK C => ?_)
  subst hK
  unfold fX6_read
  show VX K g _ _ _ _ _ [(0, p_rf g o0), (1, p_rf g o1)] _ _ _
  refine r_aload_n C dX6_read_0 1 rfl ?_
  refine r_cvi (As := []) (st := []) C wv_X6_21 (tcX7_size K.2.1 g hg o1 h) (Nat.le_of_ble_eq_true rfl) rfl rfl (Nat.le_of_ble_eq_true rfl) dX6_read_1 ⟨Nat.le_of_ble_eq_true rfl, Nat.le_of_ble_eq_true rfl⟩ (fun x1 h2 => ?_)
  refine r_if_ne (tgt := 14) C dX6_read_4 (by decide) ?_ ?_
  · refine r_aload_n C dX6_read_14 0 rfl ?_
    refine r_aload_n C dX6_read_15 1 rfl ?_
    refine r_iconst C dX6_read_16 k_i0 ?_
    refine r_cui (As := [p_rf g o1, .int (0 : Int32)]) (st := []) C wu_X6_30_X6 (tcX1_slip_X6 K.2.1 g hg o0 o1 (0 : Int32) h2) (Nat.le_of_ble_eq_true rfl) rfl rfl (Nat.le_of_ble_eq_true rfl) dX6_read_17 ⟨Nat.le_of_ble_eq_true rfl, Nat.le_of_ble_eq_true rfl⟩ (fun x3 h4 => ?_)
    refine r_istore_n (lv9 := [(2, .int x3), (0, p_rf g o0), (1, p_rf g o1)]) C dX6_read_20 (by decide) rfl ?_
    refine r_iload_n C dX6_read_21 0 rfl ?_
    refine r_iconst C dX6_read_22 k_im1 ?_
    refine r_icmp_ne (tgt := 31) C dX6_read_23 (by decide) ?_ ?_
    · refine r_iload_n C dX6_read_31 0 rfl ?_
      exact r_iret C dX6_read_32
    · refine r_aload_n C dX6_read_26 1 rfl ?_
      refine r_iconst C dX6_read_27 k_i1 ?_
      refine r_cvv (As := [.int (1 : Int32)]) (st := []) C wv_X6_34 (tcX6_layOut K.2.1 g hg o0 (1 : Int32) h4) (Nat.le_of_ble_eq_true rfl) rfl rfl (Nat.le_of_ble_eq_true rfl) dX6_read_28 ⟨Nat.le_of_ble_eq_true rfl, Nat.le_of_ble_eq_true rfl⟩ (fun h5 => ?_)
      refine r_iload_n C dX6_read_31 0 rfl ?_
      exact r_iret C dX6_read_32
  · refine r_aload_n C dX6_read_7 0 rfl ?_
    refine r_iconst C dX6_read_8 k_i0 ?_
    refine r_pi C wf_X6_27_5 dX6_read_9 (fun h6 => ?_)
    refine r_iconst C dX6_read_12 k_im1 ?_
    exact r_iret C dX6_read_13
set_option maxRecDepth 100000 in
set_option maxHeartbeats 4000000 in
theorem tcX7_init (l : Launch) (g : WG) (hg : p_al g = true) (o0 : Nat) (h : PH) : CT l g 1 1 80 yX7_init cX7_init 1 none em_v [p_rf g o0] h (fX7_init o0 h) := by
  refine CT_of (own := RX7) (nm := "<init>") (by decide +kernel) (Nat.le_of_ble_eq_true rfl) rfl rfl rfl ⟨rfl, rfl⟩ (fun K hK C => ?_)
  subst hK
  unfold fX7_init
  show VX K g _ _ _ _ _ [(0, p_rf g o0)] _ _ _
  refine r_aload_n C dX7_init_0 0 rfl ?_
  refine r_obj C wo_X7_3 (Nat.le_of_ble_eq_true rfl) (Nat.le_of_ble_eq_true rfl) dX7_init_1 ?_
  refine r_aload_n C dX7_init_4 0 rfl ?_
  refine r_bipush C dX7_init_5 k_b80 ?_
  refine r_newa (atype := .char) (ty := .char) (t0 := 3) hg C rfl rfl m_145 (N := 80) (a0 := (80, .inl (fun _ => 0))) (fun _ => rfl) (by decide) (by decide) (by decide) ⟨Nat.le_of_ble_eq_true rfl, Nat.le_of_ble_eq_true rfl⟩ dX7_init_7 (fun q1 h2 => ?_)
  refine r_prF C wf_X7_9_6 rfl rfl dX7_init_9 (fun h3 => ?_)
  exact r_vret C dX7_init_12
set_option maxRecDepth 100000 in
set_option maxHeartbeats 4000000 in
theorem tX7_add_L16 {K : AC} {g : WG} (hg : p_al g = false)  (C : Cx K g cX7_add 3 RX7 (some .boolean) "add" 1 0 0) (o0 : Nat) (i1 : Int32) {kx : PH → Option (Int32 × PH)} (hk : ∀  (h : PH), VX K g 3 0 0 (a_fin K g 0 0 em_i) 53 [] [] h (kx h)) : ∀ (n : Nat) (i2 : Int32) (h : PH), VX K g 3 0 0 (a_fin K g 0 0 em_i) 16 [(0, p_rf g o0), (1, .int i1), (2, .int i2)] [] h (fX7_add_L16 o0 i1 kx n i2 h) := by
  intro n
  induction n with
  | zero =>
    intros
    exact r_none
  | succ n ih =>
    intro i2 h
    rw [fX7_add_L16]
    refine r_iload_n C dX7_add_16 2 rfl ?_
    refine r_if_lt (tgt := 53) C dX7_add_17 (by decide) ?_ ?_
    · refine r_perm (lv' := []) [] rfl ?_
      exact hk h
    · refine r_aload_n C dX7_add_20 0 rfl ?_
      refine r_gr C wf_X7_9_6 dX7_add_21 (fun q1 => ?_)
      refine r_aload_n C dX7_add_24 0 rfl ?_
      refine r_gi C wf_X7_15_6 dX7_add_25 (fun x2 => ?_)
      refine r_iload_n C dX7_add_28 1 rfl ?_
      refine r_iload_n C dX7_add_29 2 rfl ?_
      refine r_iushr C dX7_add_30 ?_
      refine r_sipush C dX7_add_31 k_s255 ?_
      refine r_iand C dX7_add_34 ?_
      refine r_i2c C dX7_add_35 ?_
      refine r_cast hg C dX7_add_36 (fun h3 => ?_)
      refine r_aload_n C dX7_add_37 0 rfl ?_
      refine r_dup C dX7_add_38 rfl ?_
      refine r_gi C wf_X7_15_6 dX7_add_39 (fun x4 => ?_)
      refine r_iconst C dX7_add_42 k_i1 ?_
      refine r_iadd C dX7_add_43 ?_
      refine r_pi C wf_X7_15_6 dX7_add_44 (fun h5 => ?_)
      refine r_iinc (lv' := [(0, p_rf g o0), (1, .int i1)]) C dX7_add_47 2 rfl k_im8 (by decide) (fun _ => rfl) (fun x6 => ?_)
      refine r_goto (tgt := 16) C dX7_add_50 (by decide) ?_
      refine r_perm (lv' := [(0, p_rf g o0), (1, .int i1), (2, .int x6)]) [1, 2, 0] rfl ?_
      exact ih x6 h5
set_option maxRecDepth 100000 in
set_option maxHeartbeats 4000000 in
theorem tcX7_add (l : Launch) (g : WG) (hg : p_al g = false) (o0 : Nat) (i1 : Int32) (h : PH) : CT l g 1 0 0 yX7_add cX7_add 3 (some .boolean) em_i [p_rf g o0, .int i1] h (fX7_add o0 i1 h) := by
  refine CT_of (own := RX7) (nm := "add") (by decide +kernel) (Nat.le_of_ble_eq_true rfl) rfl rfl rfl ⟨rfl, rfl⟩ (fun K hK C => ?_)
  subst hK
  unfold fX7_add
  show VX K g _ _ _ _ _ [(0, p_rf g o0), (1, .int i1)] _ _ _
  refine r_aload_n C dX7_add_0 0 rfl ?_
  refine r_gi C wf_X7_15_6 dX7_add_1 (fun x1 => ?_)
  refine r_iconst C dX7_add_4 k_i4 ?_
  refine r_iadd C dX7_add_5 ?_
  refine r_bipush C dX7_add_6 k_b80 ?_
  refine r_icmp_le (tgt := 13) C dX7_add_8 (by decide) ?_ ?_
  · refine r_bipush C dX7_add_13 k_b24 ?_
    refine r_istore_n (lv9 := [(2, .int (24 : Int32)), (0, p_rf g o0), (1, .int i1)]) C dX7_add_15 (by decide) rfl ?_
    refine r_perm (lv' := [(0, p_rf g o0), (1, .int i1), (2, .int (24 : Int32))]) [1, 2, 0] rfl ?_
    refine tX7_add_L16 hg C o0 i1 (fun h2 => ?_) FU (24 : Int32) h
    refine r_iconst C dX7_add_53 k_i1 ?_
    exact r_zret C dX7_add_54
  · refine r_iconst C dX7_add_11 k_i0 ?_
    exact r_zret C dX7_add_12
set_option maxRecDepth 100000 in
set_option maxHeartbeats 4000000 in
theorem tcX7_cut (l : Launch) (g : WG) (hg : p_al g = false) (o0 : Nat) (i1 : Int32) (h : PH) : CT l g 2 0 0 yX7_cut cX7_cut 2 (some .boolean) em_i [p_rf g o0, .int i1] h (fX7_cut o0 i1 h) := by
  refine CT_of (own := RX7) (nm := "cut") (by decide +kernel) (Nat.le_of_ble_eq_true rfl) rfl rfl rfl ⟨rfl, rfl⟩ (fun K hK C => ?_)
  subst hK
  unfold fX7_cut
  show VX K g _ _ _ _ _ [(0, p_rf g o0), (1, .int i1)] _ _ _
  refine r_iload_n C dX7_cut_0 1 rfl ?_
  refine r_iconst C dX7_cut_1 k_i0 ?_
  refine r_aload_n C dX7_cut_2 0 rfl ?_
  refine r_gi C wf_X7_15_6 dX7_cut_3 (fun x1 => ?_)
  refine r_cni (As := [.int i1, .int (0 : Int32), .int x1]) (st := []) C wn_X7_19 (tcX11_within K.2.1 g hg i1 (0 : Int32) x1 h) (Nat.le_of_ble_eq_true rfl) rfl rfl (Nat.le_of_ble_eq_true rfl) dX7_cut_6 ⟨Nat.le_of_ble_eq_true rfl, Nat.le_of_ble_eq_true rfl⟩ (fun x2 h3 => ?_)
  refine r_if_ne (tgt := 14) C dX7_cut_9 (by decide) ?_ ?_
  · refine r_aload_n C dX7_cut_14 0 rfl ?_
    refine r_iload_n C dX7_cut_15 1 rfl ?_
    refine r_pi C wf_X7_15_6 dX7_cut_16 (fun h4 => ?_)
    refine r_iconst C dX7_cut_19 k_i1 ?_
    exact r_zret C dX7_cut_20
  · refine r_iconst C dX7_cut_12 k_i0 ?_
    exact r_zret C dX7_cut_13
set_option maxRecDepth 100000 in
set_option maxHeartbeats 4000000 in
theorem tX8_init_L35 {K : AC} {g : WG} (hg : p_al g = true)  (C : Cx K g cX8_init 3 RX8 none "<init>" 1 3 93) (o0 : Nat) {kx : PH → Option (Unit × PH)} (hk : ∀  (h : PH), VX K g 3 3 93 (a_fin K g 3 93 em_v) 54 [] [] h (kx h)) : ∀ (n : Nat) (i2 : Int32) (h : PH), VX K g 3 3 93 (a_fin K g 3 93 em_v) 35 [(0, p_rf g o0), (2, .int i2)] [] h (fX8_init_L35 o0 kx n i2 h) := by
  intro n
  induction n with
  | zero =>
    intros
    exact r_none
  | succ n ih =>
    intro i2 h
    rw [fX8_init_L35]
    refine r_iload_n C dX8_init_35 1 rfl ?_
    refine r_bipush C dX8_init_36 k_b80 ?_
    refine r_icmp_ge (tgt := 54) C dX8_init_38 (by decide) ?_ ?_
    · refine r_perm (lv' := []) [] rfl ?_
      exact hk h
    · refine r_aload_n C dX8_init_41 0 rfl ?_
      refine r_gr C wf_X8_11_7 dX8_init_42 (fun q1 => ?_)
      refine r_iload_n C dX8_init_45 1 rfl ?_
      refine r_iconst C dX8_init_46 k_im1 ?_
      refine r_iast C dX8_init_47 (fun h2 => ?_)
      refine r_iinc (lv' := [(0, p_rf g o0)]) C dX8_init_48 1 rfl k_i1 (by decide) (fun _ => rfl) (fun x3 => ?_)
      refine r_goto (tgt := 35) C dX8_init_51 (by decide) ?_
      refine r_perm (lv' := [(0, p_rf g o0), (2, .int x3)]) [1, 0] rfl ?_
      exact ih x3 h2
set_option maxRecDepth 100000 in
set_option maxHeartbeats 4000000 in
theorem tcX8_init (l : Launch) (g : WG) (hg : p_al g = true) (o0 : Nat) (o1 : Nat) (h : PH) : CT l g 1 3 93 yX8_init cX8_init 3 none em_v [p_rf g o0, p_rf g o1] h (fX8_init o0 o1 h) := by
  refine CT_of (own := RX8) (nm := "<init>") (by decide +kernel) (Nat.le_of_ble_eq_true rfl) rfl rfl rfl ⟨rfl, rfl⟩ (fun K hK C => ?_)
  subst hK
  unfold fX8_init
  show VX K g _ _ _ _ _ [(0, p_rf g o0), (1, p_rf g o1)] _ _ _
  refine r_aload_n C dX8_init_0 0 rfl ?_
  refine r_obj C wo_X8_5 (Nat.le_of_ble_eq_true rfl) (Nat.le_of_ble_eq_true rfl) dX8_init_1 ?_
  refine r_aload_n C dX8_init_4 0 rfl ?_
  refine r_bipush C dX8_init_5 k_b82 ?_
  refine r_newa (atype := .int) (ty := .int) (t0 := 0) hg C rfl rfl m_227 (N := 82) (a0 := (82, .inl (fun _ => 0))) (fun _ => rfl) (by decide) (by decide) (by decide) ⟨Nat.le_of_ble_eq_true rfl, Nat.le_of_ble_eq_true rfl⟩ dX8_init_7 (fun q1 h2 => ?_)
  refine r_prF C wf_X8_11_7 rfl rfl dX8_init_9 (fun h3 => ?_)
  refine r_aload_n C dX8_init_12 0 rfl ?_
  refine r_bipush C dX8_init_13 k_b7 ?_
  refine r_newa (atype := .int) (ty := .int) (t0 := 0) hg C rfl rfl m_227 (N := 7) (a0 := (7, .inl (fun _ => 0))) (fun _ => rfl) (by decide) (by decide) (by decide) ⟨Nat.le_of_ble_eq_true rfl, Nat.le_of_ble_eq_true rfl⟩ dX8_init_15 (fun q4 h5 => ?_)
  refine r_prF C wf_X8_17_7 rfl rfl dX8_init_17 (fun h6 => ?_)
  refine r_aload_n C dX8_init_20 0 rfl ?_
  refine r_iconst C dX8_init_21 k_i4 ?_
  refine r_newa (atype := .int) (ty := .int) (t0 := 0) hg C rfl rfl m_227 (N := 4) (a0 := (4, .inl (fun _ => 0))) (fun _ => rfl) (by decide) (by decide) (by decide) ⟨Nat.le_of_ble_eq_true rfl, Nat.le_of_ble_eq_true rfl⟩ dX8_init_22 (fun q7 h8 => ?_)
  refine r_prF C wf_X8_20_7 rfl rfl dX8_init_24 (fun h9 => ?_)
  refine r_aload_n C dX8_init_27 0 rfl ?_
  refine r_aload_n C dX8_init_28 1 rfl ?_
  refine r_prF C wf_X8_23_7 rfl rfl dX8_init_29 (fun h10 => ?_)
  refine r_bipush C dX8_init_32 k_b32 ?_
  refine r_istore_n (lv9 := [(2, .int (32 : Int32)), (0, p_rf g o0), (1, p_rf g o1)]) C dX8_init_34 (by decide) rfl ?_
  refine r_perm (lv' := [(0, p_rf g o0), (2, .int (32 : Int32))]) [1, 0] rfl ?_
  refine tX8_init_L35 hg C o0 (fun h11 => ?_) FU (32 : Int32) h10
  exact r_vret C dX8_init_54
set_option maxRecDepth 100000 in
set_option maxHeartbeats 4000000 in
theorem tcX8_putStock (l : Launch) (g : WG) (hg : p_al g = false) (o0 : Nat) (i1 : Int32) (i2 : Int32) (h : PH) : CT l g 1 0 0 yX8_putStock cX8_putStock 3 none em_v [p_rf g o0, .int i1, .int i2] h (fX8_putStock o0 i1 i2 h) := by
  refine CT_of (own := RX8) (nm := "putStock") (by decide +kernel) (Nat.le_of_ble_eq_true rfl) rfl rfl rfl ⟨rfl, rfl⟩ (fun K hK C => ?_)
  subst hK
  unfold fX8_putStock
  show VX K g _ _ _ _ _ [(0, p_rf g o0), (1, .int i1), (2, .int i2)] _ _ _
  refine r_iload_n C dX8_putStock_0 1 rfl ?_
  refine r_if_lt (tgt := 17) C dX8_putStock_1 (by decide) ?_ ?_
  · exact r_vret C dX8_putStock_17
  · refine r_iload_n C dX8_putStock_4 1 rfl ?_
    refine r_bipush C dX8_putStock_5 k_b8 ?_
    refine r_icmp_ge (tgt := 17) C dX8_putStock_7 (by decide) ?_ ?_
    · exact r_vret C dX8_putStock_17
    · refine r_aload_n C dX8_putStock_10 0 rfl ?_
      refine r_gr C wf_X8_11_7 dX8_putStock_11 (fun q1 => ?_)
      refine r_iload_n C dX8_putStock_14 1 rfl ?_
      refine r_iload_n C dX8_putStock_15 2 rfl ?_
      refine r_iast C dX8_putStock_16 (fun h2 => ?_)
      exact r_vret C dX8_putStock_17
set_option maxRecDepth 100000 in
set_option maxHeartbeats 4000000 in
theorem tcX8_dayNumber (l : Launch) (g : WG) (hg : p_al g = false) (o0 : Nat) (h : PH) : CT l g 1 0 0 yX8_dayNumber cX8_dayNumber 1 (some .int) em_i [p_rf g o0] h (fX8_dayNumber o0 h) := by
  refine CT_of (own := RX8) (nm := "dayNumber") (by decide +kernel) (Nat.le_of_ble_eq_true rfl) rfl rfl rfl ⟨rfl, rfl⟩ (fun K hK C => ?_)
  subst hK
  unfold fX8_dayNumber
  show VX K g _ _ _ _ _ [(0, p_rf g o0)] _ _ _
  refine r_aload_n C dX8_dayNumber_0 0 rfl ?_
  refine r_gr C wf_X8_11_7 dX8_dayNumber_1 (fun q1 => ?_)
  refine r_bipush C dX8_dayNumber_4 k_b80 ?_
  refine r_iald C dX8_dayNumber_6 (fun x2 => ?_)
  exact r_iret C dX8_dayNumber_7
set_option maxRecDepth 100000 in
set_option maxHeartbeats 4000000 in
theorem tcX8_signedFor (l : Launch) (g : WG) (hg : p_al g = false) (o0 : Nat) (h : PH) : CT l g 1 0 0 yX8_signedFor cX8_signedFor 1 (some .int) em_i [p_rf g o0] h (fX8_signedFor o0 h) := by
  refine CT_of (own := RX8) (nm := "signedFor") (by decide +kernel) (Nat.le_of_ble_eq_true rfl) rfl rfl rfl ⟨rfl, rfl⟩ (fun K hK C => ?_)
  subst hK
  unfold fX8_signedFor
  show VX K g _ _ _ _ _ [(0, p_rf g o0)] _ _ _
  refine r_aload_n C dX8_signedFor_0 0 rfl ?_
  refine r_gr C wf_X8_11_7 dX8_signedFor_1 (fun q1 => ?_)
  refine r_bipush C dX8_signedFor_4 k_b81 ?_
  refine r_iald C dX8_signedFor_6 (fun x2 => ?_)
  exact r_iret C dX8_signedFor_7
set_option maxRecDepth 100000 in
set_option maxHeartbeats 4000000 in
theorem tX8_holdersOf_J32_4 {K : AC} {g : WG} (hg : p_al g = false)  (C : Cx K g cX8_holdersOf 4 RX8 (some .int) "holdersOf" 3 0 0) (o0 : Nat) (i1 : Int32) (i3 : Int32) (s0 : Int32) (s1 : Int32)    {rc : Int32 → Int32 → PH → Option (Int32 × PH)} {kx : Int32 → PH → Option (Int32 × PH)} (hr : ∀ (i2' : Int32) (i3' : Int32) (h : PH), VX K g 4 0 0 (a_fin K g 0 0 em_i) 4 [(0, p_rf g o0), (1, .int i1), (2, .int i2'), (3, .int i3')] [] h (rc i2' i3' h)) (hk : ∀ (i2' : Int32) (h : PH), VX K g 4 0 0 (a_fin K g 0 0 em_i) 40 [(2, .int i2')] [] h (kx i2' h)) (h : PH) : VX K g 4 0 0 (a_fin K g 0 0 em_i) 32 [(0, p_rf g o0), (1, .int i1), (3, .int i3)] [.int s0, .int s1] h (fX8_holdersOf_J32_4 rc kx o0 i1 i3 s0 s1 h) := by
  unfold fX8_holdersOf_J32_4
  refine r_ior C dX8_holdersOf_32 ?_
  refine r_topi (fun x1 => ?_)
  refine r_istore_n (lv9 := [(2, .int x1), (0, p_rf g o0), (1, .int i1), (3, .int i3)]) C dX8_holdersOf_33 (by decide) rfl ?_
  refine r_iinc (lv' := [(2, .int x1), (0, p_rf g o0), (1, .int i1)]) C dX8_holdersOf_34 3 rfl k_i1 (by decide) (fun _ => rfl) (fun x2 => ?_)
  refine r_goto (tgt := 4) C dX8_holdersOf_37 (by decide) ?_
  refine r_perm (lv' := [(0, p_rf g o0), (1, .int i1), (2, .int x1), (3, .int x2)]) [2, 3, 1, 0] rfl ?_
  exact hr x1 x2 h
set_option maxRecDepth 100000 in
set_option maxHeartbeats 4000000 in
theorem tX8_holdersOf_L4 {K : AC} {g : WG} (hg : p_al g = false)  (C : Cx K g cX8_holdersOf 4 RX8 (some .int) "holdersOf" 3 0 0) (o0 : Nat) (i1 : Int32) {kx : Int32 → PH → Option (Int32 × PH)} (hk : ∀ (i2 : Int32) (h : PH), VX K g 4 0 0 (a_fin K g 0 0 em_i) 40 [(2, .int i2)] [] h (kx i2 h)) : ∀ (n : Nat) (i2 : Int32) (i3 : Int32) (h : PH), VX K g 4 0 0 (a_fin K g 0 0 em_i) 4 [(0, p_rf g o0), (1, .int i1), (2, .int i2), (3, .int i3)] [] h (fX8_holdersOf_L4 o0 i1 kx n i2 i3 h) := by
  intro n
  induction n with
  | zero =>
    intros
    exact r_none
  | succ n ih =>
    intro i2 i3 h
    rw [fX8_holdersOf_L4]
    refine r_iload_n C dX8_holdersOf_4 3 rfl ?_
    refine r_aload_n C dX8_holdersOf_5 0 rfl ?_
    refine r_gr C wf_X8_23_7 dX8_holdersOf_6 (fun q1 => ?_)
    refine r_cvi (As := []) (st := [.int i3]) C wv_X8_51 (tcX0_personSize K.2.1 g hg q1 h) (Nat.le_of_ble_eq_true rfl) rfl rfl (Nat.le_of_ble_eq_true rfl) dX8_holdersOf_9 ⟨Nat.le_of_ble_eq_true rfl, Nat.le_of_ble_eq_true rfl⟩ (fun x2 h3 => ?_)
    refine r_icmp_ge (tgt := 40) C dX8_holdersOf_12 (by decide) ?_ ?_
    · refine r_perm (lv' := [(2, .int i2)]) [2] rfl ?_
      exact hk i2 h3
    · refine r_iload_n C dX8_holdersOf_15 2 rfl ?_
      refine r_aload_n C dX8_holdersOf_16 0 rfl ?_
      refine r_iload_n C dX8_holdersOf_17 3 rfl ?_
      refine r_iload_n C dX8_holdersOf_18 1 rfl ?_
      refine r_cvi (As := [.int i3, .int i1]) (st := [.int i2]) C wv_X8_54 (tcX8_holds K.2.1 g hg o0 i3 i1 h3) (Nat.le_of_ble_eq_true rfl) rfl rfl (Nat.le_of_ble_eq_true rfl) dX8_holdersOf_19 ⟨Nat.le_of_ble_eq_true rfl, Nat.le_of_ble_eq_true rfl⟩ (fun x4 h5 => ?_)
      refine r_if_eq (tgt := 31) C dX8_holdersOf_22 (by decide) ?_ ?_
      · refine r_iconst C dX8_holdersOf_31 k_i0 ?_
        refine r_perm (lv' := [(0, p_rf g o0), (1, .int i1), (3, .int i3)]) [0, 1, 3] rfl ?_
        exact tX8_holdersOf_J32_4 hg C o0 i1 i3 (0 : Int32) i2 ih hk h5
      · refine r_iconst C dX8_holdersOf_25 k_i1 ?_
        refine r_iload_n C dX8_holdersOf_26 3 rfl ?_
        refine r_ishl C dX8_holdersOf_27 ?_
        refine r_goto (tgt := 32) C dX8_holdersOf_28 (by decide) ?_
        refine r_perm (lv' := [(0, p_rf g o0), (1, .int i1), (3, .int i3)]) [0, 1, 3] rfl ?_
        exact tX8_holdersOf_J32_4 hg C o0 i1 i3 ((1 : Int32) <<< (i3 &&& 31)) i2 ih hk h5
set_option maxRecDepth 100000 in
set_option maxHeartbeats 4000000 in
theorem tcX8_holdersOf (l : Launch) (g : WG) (hg : p_al g = false) (o0 : Nat) (i1 : Int32) (h : PH) : CT l g 3 0 0 yX8_holdersOf cX8_holdersOf 4 (some .int) em_i [p_rf g o0, .int i1] h (fX8_holdersOf o0 i1 h) := by
  refine CT_of (own := RX8) (nm := "holdersOf") (by decide +kernel) (Nat.le_of_ble_eq_true rfl) rfl rfl rfl ⟨rfl, rfl⟩ (fun K hK C => ?_)
  subst hK
  unfold fX8_holdersOf
  show VX K g _ _ _ _ _ [(0, p_rf g o0), (1, .int i1)] _ _ _
  refine r_iconst C dX8_holdersOf_0 k_i0 ?_
  refine r_istore_n (lv9 := [(2, .int (0 : Int32)), (0, p_rf g o0), (1, .int i1)]) C dX8_holdersOf_1 (by decide) rfl ?_
  refine r_iconst C dX8_holdersOf_2 k_i0 ?_
  refine r_istore_n (lv9 := [(3, .int (0 : Int32)), (2, .int (0 : Int32)), (0, p_rf g o0), (1, .int i1)]) C dX8_holdersOf_3 (by decide) rfl ?_
  refine r_perm (lv' := [(0, p_rf g o0), (1, .int i1), (2, .int (0 : Int32)), (3, .int (0 : Int32))]) [2, 3, 1, 0] rfl ?_
  refine tX8_holdersOf_L4 hg C o0 i1 (fun x1 h2 => ?_) FU (0 : Int32) (0 : Int32) h
  refine r_iload_n C dX8_holdersOf_40 0 rfl ?_
  exact r_iret C dX8_holdersOf_41
set_option maxRecDepth 100000 in
set_option maxHeartbeats 4000000 in
theorem tX8_humoursTogether_L4 {K : AC} {g : WG} (hg : p_al g = false)  (C : Cx K g cX8_humoursTogether 4 RX8 (some .int) "humoursTogether" 2 0 0) (o0 : Nat) (i1 : Int32) {kx : Int32 → PH → Option (Int32 × PH)} (hk : ∀ (i2 : Int32) (h : PH), VX K g 4 0 0 (a_fin K g 0 0 em_i) 27 [(2, .int i2)] [] h (kx i2 h)) : ∀ (n : Nat) (i2 : Int32) (i3 : Int32) (h : PH), VX K g 4 0 0 (a_fin K g 0 0 em_i) 4 [(0, p_rf g o0), (1, .int i1), (2, .int i2), (3, .int i3)] [] h (fX8_humoursTogether_L4 o0 i1 kx n i2 i3 h) := by
  intro n
  induction n with
  | zero =>
    intros
    exact r_none
  | succ n ih =>
    intro i2 i3 h
    rw [fX8_humoursTogether_L4]
    refine r_iload_n C dX8_humoursTogether_4 3 rfl ?_
    refine r_iconst C dX8_humoursTogether_5 k_i4 ?_
    refine r_icmp_ge (tgt := 27) C dX8_humoursTogether_6 (by decide) ?_ ?_
    · refine r_perm (lv' := [(2, .int i2)]) [2] rfl ?_
      exact hk i2 h
    · refine r_iload_n C dX8_humoursTogether_9 2 rfl ?_
      refine r_bipush C dX8_humoursTogether_10 k_b10 ?_
      refine r_imul C dX8_humoursTogether_12 ?_
      refine r_aload_n C dX8_humoursTogether_13 0 rfl ?_
      refine r_iload_n C dX8_humoursTogether_14 1 rfl ?_
      refine r_iload_n C dX8_humoursTogether_15 3 rfl ?_
      refine r_cvi (As := [.int i1, .int i3]) (st := [.int (i2 * (10 : Int32))]) C wv_X8_71 (tcX8_humourOf K.2.1 g hg o0 i1 i3 h) (Nat.le_of_ble_eq_true rfl) rfl rfl (Nat.le_of_ble_eq_true rfl) dX8_humoursTogether_16 ⟨Nat.le_of_ble_eq_true rfl, Nat.le_of_ble_eq_true rfl⟩ (fun x1 h2 => ?_)
      refine r_iadd C dX8_humoursTogether_19 ?_
      refine r_topi (fun x3 => ?_)
      refine r_istore_n (lv9 := [(2, .int x3), (0, p_rf g o0), (1, .int i1), (3, .int i3)]) C dX8_humoursTogether_20 (by decide) rfl ?_
      refine r_iinc (lv' := [(2, .int x3), (0, p_rf g o0), (1, .int i1)]) C dX8_humoursTogether_21 3 rfl k_i1 (by decide) (fun _ => rfl) (fun x4 => ?_)
      refine r_goto (tgt := 4) C dX8_humoursTogether_24 (by decide) ?_
      refine r_perm (lv' := [(0, p_rf g o0), (1, .int i1), (2, .int x3), (3, .int x4)]) [2, 3, 1, 0] rfl ?_
      exact ih x3 x4 h2
set_option maxRecDepth 100000 in
set_option maxHeartbeats 4000000 in
theorem tcX8_humoursTogether (l : Launch) (g : WG) (hg : p_al g = false) (o0 : Nat) (i1 : Int32) (h : PH) : CT l g 2 0 0 yX8_humoursTogether cX8_humoursTogether 4 (some .int) em_i [p_rf g o0, .int i1] h (fX8_humoursTogether o0 i1 h) := by
  refine CT_of (own := RX8) (nm := "humoursTogether") (by decide +kernel) (Nat.le_of_ble_eq_true rfl) rfl rfl rfl ⟨rfl, rfl⟩ (fun K hK C => ?_)
  subst hK
  unfold fX8_humoursTogether
  show VX K g _ _ _ _ _ [(0, p_rf g o0), (1, .int i1)] _ _ _
  refine r_iconst C dX8_humoursTogether_0 k_i0 ?_
  refine r_istore_n (lv9 := [(2, .int (0 : Int32)), (0, p_rf g o0), (1, .int i1)]) C dX8_humoursTogether_1 (by decide) rfl ?_
  refine r_iconst C dX8_humoursTogether_2 k_i0 ?_
  refine r_istore_n (lv9 := [(3, .int (0 : Int32)), (2, .int (0 : Int32)), (0, p_rf g o0), (1, .int i1)]) C dX8_humoursTogether_3 (by decide) rfl ?_
  refine r_perm (lv' := [(0, p_rf g o0), (1, .int i1), (2, .int (0 : Int32)), (3, .int (0 : Int32))]) [2, 3, 1, 0] rfl ?_
  refine tX8_humoursTogether_L4 hg C o0 i1 (fun x1 h2 => ?_) FU (0 : Int32) (0 : Int32) h
  refine r_iload_n C dX8_humoursTogether_27 0 rfl ?_
  exact r_iret C dX8_humoursTogether_28
set_option maxRecDepth 100000 in
set_option maxHeartbeats 4000000 in
theorem tX8_stockOfAll_L4 {K : AC} {g : WG} (hg : p_al g = false)  (C : Cx K g cX8_stockOfAll 3 RX8 (some .int) "stockOfAll" 2 0 0) (o0 : Nat) {kx : Int32 → PH → Option (Int32 × PH)} (hk : ∀ (i1 : Int32) (h : PH), VX K g 3 0 0 (a_fin K g 0 0 em_i) 29 [(1, .int i1)] [] h (kx i1 h)) : ∀ (n : Nat) (i1 : Int32) (i2 : Int32) (h : PH), VX K g 3 0 0 (a_fin K g 0 0 em_i) 4 [(0, p_rf g o0), (1, .int i1), (2, .int i2)] [] h (fX8_stockOfAll_L4 o0 kx n i1 i2 h) := by
  intro n
  induction n with
  | zero =>
    intros
    exact r_none
  | succ n ih =>
    intro i1 i2 h
    rw [fX8_stockOfAll_L4]
    refine r_iload_n C dX8_stockOfAll_4 2 rfl ?_
    refine r_aload_n C dX8_stockOfAll_5 0 rfl ?_
    refine r_gr C wf_X8_23_7 dX8_stockOfAll_6 (fun q1 => ?_)
    refine r_cvi (As := []) (st := [.int i2]) C wv_X8_45 (tcX0_groundSize K.2.1 g hg q1 h) (Nat.le_of_ble_eq_true rfl) rfl rfl (Nat.le_of_ble_eq_true rfl) dX8_stockOfAll_9 ⟨Nat.le_of_ble_eq_true rfl, Nat.le_of_ble_eq_true rfl⟩ (fun x2 h3 => ?_)
    refine r_icmp_ge (tgt := 29) C dX8_stockOfAll_12 (by decide) ?_ ?_
    · refine r_perm (lv' := [(1, .int i1)]) [1] rfl ?_
      exact hk i1 h3
    · refine r_iload_n C dX8_stockOfAll_15 1 rfl ?_
      refine r_aload_n C dX8_stockOfAll_16 0 rfl ?_
      refine r_iload_n C dX8_stockOfAll_17 2 rfl ?_
      refine r_cvi (As := [.int i2]) (st := [.int i1]) C wv_X8_78 (tcX8_stockOf K.2.1 g hg o0 i2 h3) (Nat.le_of_ble_eq_true rfl) rfl rfl (Nat.le_of_ble_eq_true rfl) dX8_stockOfAll_18 ⟨Nat.le_of_ble_eq_true rfl, Nat.le_of_ble_eq_true rfl⟩ (fun x4 h5 => ?_)
      refine r_iadd C dX8_stockOfAll_21 ?_
      refine r_topi (fun x6 => ?_)
      refine r_istore_n (lv9 := [(1, .int x6), (0, p_rf g o0), (2, .int i2)]) C dX8_stockOfAll_22 (by decide) rfl ?_
      refine r_iinc (lv' := [(1, .int x6), (0, p_rf g o0)]) C dX8_stockOfAll_23 2 rfl k_i1 (by decide) (fun _ => rfl) (fun x7 => ?_)
      refine r_goto (tgt := 4) C dX8_stockOfAll_26 (by decide) ?_
      refine r_perm (lv' := [(0, p_rf g o0), (1, .int x6), (2, .int x7)]) [2, 1, 0] rfl ?_
      exact ih x6 x7 h5
set_option maxRecDepth 100000 in
set_option maxHeartbeats 4000000 in
theorem tcX8_stockOfAll (l : Launch) (g : WG) (hg : p_al g = false) (o0 : Nat) (h : PH) : CT l g 2 0 0 yX8_stockOfAll cX8_stockOfAll 3 (some .int) em_i [p_rf g o0] h (fX8_stockOfAll o0 h) := by
  refine CT_of (own := RX8) (nm := "stockOfAll") (by decide +kernel) (Nat.le_of_ble_eq_true rfl) rfl rfl rfl ⟨rfl, rfl⟩ (fun K hK C => ?_)
  subst hK
  unfold fX8_stockOfAll
  show VX K g _ _ _ _ _ [(0, p_rf g o0)] _ _ _
  refine r_iconst C dX8_stockOfAll_0 k_i0 ?_
  refine r_istore_n (lv9 := [(1, .int (0 : Int32)), (0, p_rf g o0)]) C dX8_stockOfAll_1 (by decide) rfl ?_
  refine r_iconst C dX8_stockOfAll_2 k_i0 ?_
  refine r_istore_n (lv9 := [(2, .int (0 : Int32)), (1, .int (0 : Int32)), (0, p_rf g o0)]) C dX8_stockOfAll_3 (by decide) rfl ?_
  refine r_perm (lv' := [(0, p_rf g o0), (1, .int (0 : Int32)), (2, .int (0 : Int32))]) [2, 1, 0] rfl ?_
  refine tX8_stockOfAll_L4 hg C o0 (fun x1 h2 => ?_) FU (0 : Int32) (0 : Int32) h
  refine r_iload_n C dX8_stockOfAll_29 0 rfl ?_
  exact r_iret C dX8_stockOfAll_30
set_option maxRecDepth 100000 in
set_option maxHeartbeats 4000000 in
theorem tX8_groundsOfAll_L4 {K : AC} {g : WG} (hg : p_al g = false)  (C : Cx K g cX8_groundsOfAll 3 RX8 (some .int) "groundsOfAll" 3 0 0) (o0 : Nat) {kx : Int32 → PH → Option (Int32 × PH)} (hk : ∀ (i1 : Int32) (h : PH), VX K g 3 0 0 (a_fin K g 0 0 em_i) 32 [(1, .int i1)] [] h (kx i1 h)) : ∀ (n : Nat) (i1 : Int32) (i2 : Int32) (h : PH), VX K g 3 0 0 (a_fin K g 0 0 em_i) 4 [(0, p_rf g o0), (1, .int i1), (2, .int i2)] [] h (fX8_groundsOfAll_L4 o0 kx n i1 i2 h) := by
  intro n
  induction n with
  | zero =>
    intros
    exact r_none
  | succ n ih =>
    intro i1 i2 h
    rw [fX8_groundsOfAll_L4]
    refine r_iload_n C dX8_groundsOfAll_4 2 rfl ?_
    refine r_aload_n C dX8_groundsOfAll_5 0 rfl ?_
    refine r_gr C wf_X8_23_7 dX8_groundsOfAll_6 (fun q1 => ?_)
    refine r_cvi (As := []) (st := [.int i2]) C wv_X8_51 (tcX0_personSize K.2.1 g hg q1 h) (Nat.le_of_ble_eq_true rfl) rfl rfl (Nat.le_of_ble_eq_true rfl) dX8_groundsOfAll_9 ⟨Nat.le_of_ble_eq_true rfl, Nat.le_of_ble_eq_true rfl⟩ (fun x2 h3 => ?_)
    refine r_icmp_ge (tgt := 32) C dX8_groundsOfAll_12 (by decide) ?_ ?_
    · refine r_perm (lv' := [(1, .int i1)]) [1] rfl ?_
      exact hk i1 h3
    · refine r_iload_n C dX8_groundsOfAll_15 1 rfl ?_
      refine r_aload_n C dX8_groundsOfAll_16 0 rfl ?_
      refine r_iload_n C dX8_groundsOfAll_17 2 rfl ?_
      refine r_cvi (As := [.int i2]) (st := [.int i1]) C wv_X8_81 (tcX8_groundsOf K.2.1 g hg o0 i2 h3) (Nat.le_of_ble_eq_true rfl) rfl rfl (Nat.le_of_ble_eq_true rfl) dX8_groundsOfAll_18 ⟨Nat.le_of_ble_eq_true rfl, Nat.le_of_ble_eq_true rfl⟩ (fun x4 h5 => ?_)
      refine r_csi (As := [.int x4]) (st := [.int i1]) C ws_X8_84 (tcJ6_bitCount_0f7a4 K.2.1 g hg x4 h5) (Nat.le_of_ble_eq_true rfl) rfl rfl (Nat.le_of_ble_eq_true rfl) dX8_groundsOfAll_21 ⟨Nat.le_of_ble_eq_true rfl, Nat.le_of_ble_eq_true rfl⟩ (fun x6 h7 => ?_)
      refine r_iadd C dX8_groundsOfAll_24 ?_
      refine r_topi (fun x8 => ?_)
      refine r_istore_n (lv9 := [(1, .int x8), (0, p_rf g o0), (2, .int i2)]) C dX8_groundsOfAll_25 (by decide) rfl ?_
      refine r_iinc (lv' := [(1, .int x8), (0, p_rf g o0)]) C dX8_groundsOfAll_26 2 rfl k_i1 (by decide) (fun _ => rfl) (fun x9 => ?_)
      refine r_goto (tgt := 4) C dX8_groundsOfAll_29 (by decide) ?_
      refine r_perm (lv' := [(0, p_rf g o0), (1, .int x8), (2, .int x9)]) [2, 1, 0] rfl ?_
      exact ih x8 x9 h7
set_option maxRecDepth 100000 in
set_option maxHeartbeats 4000000 in
theorem tcX8_groundsOfAll (l : Launch) (g : WG) (hg : p_al g = false) (o0 : Nat) (h : PH) : CT l g 3 0 0 yX8_groundsOfAll cX8_groundsOfAll 3 (some .int) em_i [p_rf g o0] h (fX8_groundsOfAll o0 h) := by
  refine CT_of (own := RX8) (nm := "groundsOfAll") (by decide +kernel) (Nat.le_of_ble_eq_true rfl) rfl rfl rfl ⟨rfl, rfl⟩ (fun K hK C => ?_)
  subst hK
  unfold fX8_groundsOfAll
  show VX K g _ _ _ _ _ [(0, p_rf g o0)] _ _ _
  refine r_iconst C dX8_groundsOfAll_0 k_i0 ?_
  refine r_istore_n (lv9 := [(1, .int (0 : Int32)), (0, p_rf g o0)]) C dX8_groundsOfAll_1 (by decide) rfl ?_
  refine r_iconst C dX8_groundsOfAll_2 k_i0 ?_
  refine r_istore_n (lv9 := [(2, .int (0 : Int32)), (1, .int (0 : Int32)), (0, p_rf g o0)]) C dX8_groundsOfAll_3 (by decide) rfl ?_
  refine r_perm (lv' := [(0, p_rf g o0), (1, .int (0 : Int32)), (2, .int (0 : Int32))]) [2, 1, 0] rfl ?_
  refine tX8_groundsOfAll_L4 hg C o0 (fun x1 h2 => ?_) FU (0 : Int32) (0 : Int32) h
  refine r_iload_n C dX8_groundsOfAll_32 0 rfl ?_
  exact r_iret C dX8_groundsOfAll_33
set_option maxRecDepth 100000 in
set_option maxHeartbeats 4000000 in
theorem tX8_wantsOfAll_L4 {K : AC} {g : WG} (hg : p_al g = false)  (C : Cx K g cX8_wantsOfAll 3 RX8 (some .int) "wantsOfAll" 5 0 0) (o0 : Nat) {kx : Int32 → PH → Option (Int32 × PH)} (hk : ∀ (i1 : Int32) (h : PH), VX K g 3 0 0 (a_fin K g 0 0 em_i) 32 [(1, .int i1)] [] h (kx i1 h)) : ∀ (n : Nat) (i1 : Int32) (i2 : Int32) (h : PH), VX K g 3 0 0 (a_fin K g 0 0 em_i) 4 [(0, p_rf g o0), (1, .int i1), (2, .int i2)] [] h (fX8_wantsOfAll_L4 o0 kx n i1 i2 h) := by
  intro n
  induction n with
  | zero =>
    intros
    exact r_none
  | succ n ih =>
    intro i1 i2 h
    rw [fX8_wantsOfAll_L4]
    refine r_iload_n C dX8_wantsOfAll_4 2 rfl ?_
    refine r_aload_n C dX8_wantsOfAll_5 0 rfl ?_
    refine r_gr C wf_X8_23_7 dX8_wantsOfAll_6 (fun q1 => ?_)
    refine r_cvi (As := []) (st := [.int i2]) C wv_X8_51 (tcX0_personSize K.2.1 g hg q1 h) (Nat.le_of_ble_eq_true rfl) rfl rfl (Nat.le_of_ble_eq_true rfl) dX8_wantsOfAll_9 ⟨Nat.le_of_ble_eq_true rfl, Nat.le_of_ble_eq_true rfl⟩ (fun x2 h3 => ?_)
    refine r_icmp_ge (tgt := 32) C dX8_wantsOfAll_12 (by decide) ?_ ?_
    · refine r_perm (lv' := [(1, .int i1)]) [1] rfl ?_
      exact hk i1 h3
    · refine r_iload_n C dX8_wantsOfAll_15 1 rfl ?_
      refine r_aload_n C dX8_wantsOfAll_16 0 rfl ?_
      refine r_iload_n C dX8_wantsOfAll_17 2 rfl ?_
      refine r_cvi (As := [.int i2]) (st := [.int i1]) C wv_X8_89 (tcX8_wantsOf K.2.1 g hg o0 i2 h3) (Nat.le_of_ble_eq_true rfl) rfl rfl (Nat.le_of_ble_eq_true rfl) dX8_wantsOfAll_18 ⟨Nat.le_of_ble_eq_true rfl, Nat.le_of_ble_eq_true rfl⟩ (fun x4 h5 => ?_)
      refine r_csi (As := [.int x4]) (st := [.int i1]) C ws_X8_84 (tcJ6_bitCount_0f7a4 K.2.1 g hg x4 h5) (Nat.le_of_ble_eq_true rfl) rfl rfl (Nat.le_of_ble_eq_true rfl) dX8_wantsOfAll_21 ⟨Nat.le_of_ble_eq_true rfl, Nat.le_of_ble_eq_true rfl⟩ (fun x6 h7 => ?_)
      refine r_iadd C dX8_wantsOfAll_24 ?_
      refine r_topi (fun x8 => ?_)
      refine r_istore_n (lv9 := [(1, .int x8), (0, p_rf g o0), (2, .int i2)]) C dX8_wantsOfAll_25 (by decide) rfl ?_
      refine r_iinc (lv' := [(1, .int x8), (0, p_rf g o0)]) C dX8_wantsOfAll_26 2 rfl k_i1 (by decide) (fun _ => rfl) (fun x9 => ?_)
      refine r_goto (tgt := 4) C dX8_wantsOfAll_29 (by decide) ?_
      refine r_perm (lv' := [(0, p_rf g o0), (1, .int x8), (2, .int x9)]) [2, 1, 0] rfl ?_
      exact ih x8 x9 h7
set_option maxRecDepth 100000 in
set_option maxHeartbeats 4000000 in
theorem tcX8_wantsOfAll (l : Launch) (g : WG) (hg : p_al g = false) (o0 : Nat) (h : PH) : CT l g 5 0 0 yX8_wantsOfAll cX8_wantsOfAll 3 (some .int) em_i [p_rf g o0] h (fX8_wantsOfAll o0 h) := by
  refine CT_of (own := RX8) (nm := "wantsOfAll") (by decide +kernel) (Nat.le_of_ble_eq_true rfl) rfl rfl rfl ⟨rfl, rfl⟩ (fun K hK C => ?_)
  subst hK
  unfold fX8_wantsOfAll
  show VX K g _ _ _ _ _ [(0, p_rf g o0)] _ _ _
  refine r_iconst C dX8_wantsOfAll_0 k_i0 ?_
  refine r_istore_n (lv9 := [(1, .int (0 : Int32)), (0, p_rf g o0)]) C dX8_wantsOfAll_1 (by decide) rfl ?_
  refine r_iconst C dX8_wantsOfAll_2 k_i0 ?_
  refine r_istore_n (lv9 := [(2, .int (0 : Int32)), (1, .int (0 : Int32)), (0, p_rf g o0)]) C dX8_wantsOfAll_3 (by decide) rfl ?_
  refine r_perm (lv' := [(0, p_rf g o0), (1, .int (0 : Int32)), (2, .int (0 : Int32))]) [2, 1, 0] rfl ?_
  refine tX8_wantsOfAll_L4 hg C o0 (fun x1 h2 => ?_) FU (0 : Int32) (0 : Int32) h
  refine r_iload_n C dX8_wantsOfAll_32 0 rfl ?_
  exact r_iret C dX8_wantsOfAll_33
set_option maxRecDepth 100000 in
set_option maxHeartbeats 4000000 in
theorem tX8_humoursOfAll_L17 {K : AC} {g : WG} (hg : p_al g = false)  (C : Cx K g cX8_humoursOfAll 4 RX8 (some .int) "humoursOfAll" 2 0 0) (o0 : Nat) (i2 : Int32) {kx : Int32 → PH → Option (Int32 × PH)} (hk : ∀ (i1 : Int32) (h : PH), VX K g 4 0 0 (a_fin K g 0 0 em_i) 37 [(0, p_rf g o0), (1, .int i1), (2, .int i2)] [] h (kx i1 h)) : ∀ (n : Nat) (i1 : Int32) (i3 : Int32) (h : PH), VX K g 4 0 0 (a_fin K g 0 0 em_i) 17 [(0, p_rf g o0), (1, .int i1), (2, .int i2), (3, .int i3)] [] h (fX8_humoursOfAll_L17 o0 i2 kx n i1 i3 h) := by
  intro n
  induction n with
  | zero =>
    intros
    exact r_none
  | succ n ih =>
    intro i1 i3 h
    rw [fX8_humoursOfAll_L17]
    refine r_iload_n C dX8_humoursOfAll_17 3 rfl ?_
    refine r_iconst C dX8_humoursOfAll_18 k_i4 ?_
    refine r_icmp_ge (tgt := 37) C dX8_humoursOfAll_19 (by decide) ?_ ?_
    · refine r_perm (lv' := [(0, p_rf g o0), (1, .int i1), (2, .int i2)]) [0, 1, 2] rfl ?_
      exact hk i1 h
    · refine r_iload_n C dX8_humoursOfAll_22 1 rfl ?_
      refine r_aload_n C dX8_humoursOfAll_23 0 rfl ?_
      refine r_iload_n C dX8_humoursOfAll_24 2 rfl ?_
      refine r_iload_n C dX8_humoursOfAll_25 3 rfl ?_
      refine r_cvi (As := [.int i2, .int i3]) (st := [.int i1]) C wv_X8_71 (tcX8_humourOf K.2.1 g hg o0 i2 i3 h) (Nat.le_of_ble_eq_true rfl) rfl rfl (Nat.le_of_ble_eq_true rfl) dX8_humoursOfAll_26 ⟨Nat.le_of_ble_eq_true rfl, Nat.le_of_ble_eq_true rfl⟩ (fun x1 h2 => ?_)
      refine r_iadd C dX8_humoursOfAll_29 ?_
      refine r_topi (fun x3 => ?_)
      refine r_istore_n (lv9 := [(1, .int x3), (0, p_rf g o0), (2, .int i2), (3, .int i3)]) C dX8_humoursOfAll_30 (by decide) rfl ?_
      refine r_iinc (lv' := [(1, .int x3), (0, p_rf g o0), (2, .int i2)]) C dX8_humoursOfAll_31 3 rfl k_i1 (by decide) (fun _ => rfl) (fun x4 => ?_)
      refine r_goto (tgt := 17) C dX8_humoursOfAll_34 (by decide) ?_
      refine r_perm (lv' := [(0, p_rf g o0), (1, .int x3), (2, .int i2), (3, .int x4)]) [2, 1, 3, 0] rfl ?_
      exact ih x3 x4 h2
set_option maxRecDepth 100000 in
set_option maxHeartbeats 4000000 in
theorem tX8_humoursOfAll_L4 {K : AC} {g : WG} (hg : p_al g = false)  (C : Cx K g cX8_humoursOfAll 4 RX8 (some .int) "humoursOfAll" 2 0 0) (o0 : Nat) {kx : Int32 → PH → Option (Int32 × PH)} (hk : ∀ (i1 : Int32) (h : PH), VX K g 4 0 0 (a_fin K g 0 0 em_i) 43 [(1, .int i1)] [] h (kx i1 h)) : ∀ (n : Nat) (i1 : Int32) (i2 : Int32) (h : PH), VX K g 4 0 0 (a_fin K g 0 0 em_i) 4 [(0, p_rf g o0), (1, .int i1), (2, .int i2)] [] h (fX8_humoursOfAll_L4 o0 kx n i1 i2 h) := by
  intro n
  induction n with
  | zero =>
    intros
    exact r_none
  | succ n ih =>
    intro i1 i2 h
    rw [fX8_humoursOfAll_L4]
    refine r_iload_n C dX8_humoursOfAll_4 2 rfl ?_
    refine r_aload_n C dX8_humoursOfAll_5 0 rfl ?_
    refine r_gr C wf_X8_23_7 dX8_humoursOfAll_6 (fun q1 => ?_)
    refine r_cvi (As := []) (st := [.int i2]) C wv_X8_51 (tcX0_personSize K.2.1 g hg q1 h) (Nat.le_of_ble_eq_true rfl) rfl rfl (Nat.le_of_ble_eq_true rfl) dX8_humoursOfAll_9 ⟨Nat.le_of_ble_eq_true rfl, Nat.le_of_ble_eq_true rfl⟩ (fun x2 h3 => ?_)
    refine r_icmp_ge (tgt := 43) C dX8_humoursOfAll_12 (by decide) ?_ ?_
    · refine r_perm (lv' := [(1, .int i1)]) [1] rfl ?_
      exact hk i1 h3
    · refine r_iconst C dX8_humoursOfAll_15 k_i0 ?_
      refine r_istore_n (lv9 := [(3, .int (0 : Int32)), (0, p_rf g o0), (1, .int i1), (2, .int i2)]) C dX8_humoursOfAll_16 (by decide) rfl ?_
      refine r_perm (lv' := [(0, p_rf g o0), (1, .int i1), (2, .int i2), (3, .int (0 : Int32))]) [1, 2, 3, 0] rfl ?_
      refine tX8_humoursOfAll_L17 hg C o0 i2 (fun x4 h5 => ?_) FU i1 (0 : Int32) h3
      refine r_iinc (lv' := [(0, p_rf g o0), (1, .int x4)]) C dX8_humoursOfAll_37 2 rfl k_i1 (by decide) (fun _ => rfl) (fun x6 => ?_)
      refine r_goto (tgt := 4) C dX8_humoursOfAll_40 (by decide) ?_
      refine r_perm (lv' := [(0, p_rf g o0), (1, .int x4), (2, .int x6)]) [1, 2, 0] rfl ?_
      exact ih x4 x6 h5
set_option maxRecDepth 100000 in
set_option maxHeartbeats 4000000 in
theorem tcX8_humoursOfAll (l : Launch) (g : WG) (hg : p_al g = false) (o0 : Nat) (h : PH) : CT l g 2 0 0 yX8_humoursOfAll cX8_humoursOfAll 4 (some .int) em_i [p_rf g o0] h (fX8_humoursOfAll o0 h) := by
  refine CT_of (own := RX8) (nm := "humoursOfAll") (by decide +kernel) (Nat.le_of_ble_eq_true rfl) rfl rfl rfl ⟨rfl, rfl⟩ (fun K hK C => ?_)
  subst hK
  unfold fX8_humoursOfAll
  show VX K g _ _ _ _ _ [(0, p_rf g o0)] _ _ _
  refine r_iconst C dX8_humoursOfAll_0 k_i0 ?_
  refine r_istore_n (lv9 := [(1, .int (0 : Int32)), (0, p_rf g o0)]) C dX8_humoursOfAll_1 (by decide) rfl ?_
  refine r_iconst C dX8_humoursOfAll_2 k_i0 ?_
  refine r_istore_n (lv9 := [(2, .int (0 : Int32)), (1, .int (0 : Int32)), (0, p_rf g o0)]) C dX8_humoursOfAll_3 (by decide) rfl ?_
  refine r_perm (lv' := [(0, p_rf g o0), (1, .int (0 : Int32)), (2, .int (0 : Int32))]) [2, 1, 0] rfl ?_
  refine tX8_humoursOfAll_L4 hg C o0 (fun x1 h2 => ?_) FU (0 : Int32) (0 : Int32) h
  refine r_iload_n C dX8_humoursOfAll_43 0 rfl ?_
  exact r_iret C dX8_humoursOfAll_44
set_option maxRecDepth 100000 in
set_option maxHeartbeats 4000000 in
theorem tcX8_give (l : Launch) (g : WG) (hg : p_al g = false) (o0 : Nat) (i1 : Int32) (i2 : Int32) (h : PH) : CT l g 3 0 0 yX8_give cX8_give 3 (some .int) em_i [p_rf g o0, .int i1, .int i2] h (fX8_give o0 i1 i2 h) := by
  refine CT_of (own := RX8) (nm := "give") (by decide +kernel) (Nat.le_of_ble_eq_true rfl) rfl rfl rfl ⟨rfl, rfl⟩ (fun K hK C => ?_)
  subst hK
  unfold fX8_give
  show VX K g _ _ _ _ _ [(0, p_rf g o0), (1, .int i1), (2, .int i2)] _ _ _
  refine r_aload_n C dX8_give_0 0 rfl ?_
  refine r_gr C wf_X8_23_7 dX8_give_1 (fun q1 => ?_)
  refine r_iload_n C dX8_give_4 1 rfl ?_
  refine r_cvi (As := [.int i1]) (st := []) C wv_X8_92 (tcX0_hasPerson K.2.1 g hg q1 i1 h) (Nat.le_of_ble_eq_true rfl) rfl rfl (Nat.le_of_ble_eq_true rfl) dX8_give_5 ⟨Nat.le_of_ble_eq_true rfl, Nat.le_of_ble_eq_true rfl⟩ (fun x2 h3 => ?_)
  refine r_if_eq (tgt := 22) C dX8_give_8 (by decide) ?_ ?_
  · refine r_iconst C dX8_give_22 k_im1 ?_
    exact r_iret C dX8_give_23
  · refine r_aload_n C dX8_give_11 0 rfl ?_
    refine r_gr C wf_X8_23_7 dX8_give_12 (fun q4 => ?_)
    refine r_iload_n C dX8_give_15 2 rfl ?_
    refine r_cvi (As := [.int i2]) (st := []) C wv_X8_96 (tcX0_hasGround K.2.1 g hg q4 i2 h3) (Nat.le_of_ble_eq_true rfl) rfl rfl (Nat.le_of_ble_eq_true rfl) dX8_give_16 ⟨Nat.le_of_ble_eq_true rfl, Nat.le_of_ble_eq_true rfl⟩ (fun x5 h6 => ?_)
    refine r_if_ne (tgt := 24) C dX8_give_19 (by decide) ?_ ?_
    · refine r_aload_n C dX8_give_24 0 rfl ?_
      refine r_iload_n C dX8_give_25 1 rfl ?_
      refine r_iload_n C dX8_give_26 2 rfl ?_
      refine r_cvi (As := [.int i1, .int i2]) (st := []) C wv_X8_54 (tcX8_holds K.2.1 g hg o0 i1 i2 h6) (Nat.le_of_ble_eq_true rfl) rfl rfl (Nat.le_of_ble_eq_true rfl) dX8_give_27 ⟨Nat.le_of_ble_eq_true rfl, Nat.le_of_ble_eq_true rfl⟩ (fun x7 h8 => ?_)
      refine r_if_eq (tgt := 36) C dX8_give_30 (by decide) ?_ ?_
      · refine r_aload_n C dX8_give_36 0 rfl ?_
        refine r_iload_n C dX8_give_37 2 rfl ?_
        refine r_cvi (As := [.int i2]) (st := []) C wv_X8_78 (tcX8_stockOf K.2.1 g hg o0 i2 h8) (Nat.le_of_ble_eq_true rfl) rfl rfl (Nat.le_of_ble_eq_true rfl) dX8_give_38 ⟨Nat.le_of_ble_eq_true rfl, Nat.le_of_ble_eq_true rfl⟩ (fun x9 h10 => ?_)
        refine r_iconst C dX8_give_41 k_i1 ?_
        refine r_icmp_ge (tgt := 48) C dX8_give_42 (by decide) ?_ ?_
        · refine r_aload_n C dX8_give_48 0 rfl ?_
          refine r_iload_n C dX8_give_49 2 rfl ?_
          refine r_aload_n C dX8_give_50 0 rfl ?_
          refine r_iload_n C dX8_give_51 2 rfl ?_
          refine r_cvi (As := [.int i2]) (st := [.int i2, p_rf g o0]) C wv_X8_78 (tcX8_stockOf K.2.1 g hg o0 i2 h10) (Nat.le_of_ble_eq_true rfl) rfl rfl (Nat.le_of_ble_eq_true rfl) dX8_give_52 ⟨Nat.le_of_ble_eq_true rfl, Nat.le_of_ble_eq_true rfl⟩ (fun x11 h12 => ?_)
          refine r_iconst C dX8_give_55 k_i1 ?_
          refine r_isub C dX8_give_56 ?_
          refine r_cvv (As := [.int i2, .int (x11 - (1 : Int32))]) (st := []) C wv_X8_99 (tcX8_putStock K.2.1 g hg o0 i2 (x11 - (1 : Int32)) h12) (Nat.le_of_ble_eq_true rfl) rfl rfl (Nat.le_of_ble_eq_true rfl) dX8_give_57 ⟨Nat.le_of_ble_eq_true rfl, Nat.le_of_ble_eq_true rfl⟩ (fun h13 => ?_)
          refine r_aload_n C dX8_give_60 0 rfl ?_
          refine r_iload_n C dX8_give_61 1 rfl ?_
          refine r_iload_n C dX8_give_62 2 rfl ?_
          refine r_iconst C dX8_give_63 k_i0 ?_
          refine r_cvv (As := [.int i1, .int i2, .int (0 : Int32)]) (st := []) C wv_X8_41 (tcX8_putDaysHeld K.2.1 g hg o0 i1 i2 (0 : Int32) h13) (Nat.le_of_ble_eq_true rfl) rfl rfl (Nat.le_of_ble_eq_true rfl) dX8_give_64 ⟨Nat.le_of_ble_eq_true rfl, Nat.le_of_ble_eq_true rfl⟩ (fun h14 => ?_)
          refine r_aload_n C dX8_give_67 0 rfl ?_
          refine r_gr C wf_X8_11_7 dX8_give_68 (fun q15 => ?_)
          refine r_bipush C dX8_give_71 k_b81 ?_
          refine r_sipush C dX8_give_73 k_s9999 ?_
          refine r_aload_n C dX8_give_76 0 rfl ?_
          refine r_gr C wf_X8_11_7 dX8_give_77 (fun q16 => ?_)
          refine r_bipush C dX8_give_80 k_b81 ?_
          refine r_iald C dX8_give_82 (fun x17 => ?_)
          refine r_iconst C dX8_give_83 k_i1 ?_
          refine r_iadd C dX8_give_84 ?_
          refine r_topi (fun x18 => ?_)
          refine r_min C wm_X8_103 (Nat.le_of_ble_eq_true rfl) (Nat.le_of_ble_eq_true rfl) ⟨Nat.le_of_ble_eq_true rfl, Nat.le_of_ble_eq_true rfl⟩ dX8_give_85 ?_
          refine r_iast C dX8_give_88 (fun h19 => ?_)
          refine r_aload_n C dX8_give_89 0 rfl ?_
          refine r_iload_n C dX8_give_90 1 rfl ?_
          refine r_cvi (As := [.int i1]) (st := []) C wv_X8_81 (tcX8_groundsOf K.2.1 g hg o0 i1 h19) (Nat.le_of_ble_eq_true rfl) rfl rfl (Nat.le_of_ble_eq_true rfl) dX8_give_91 ⟨Nat.le_of_ble_eq_true rfl, Nat.le_of_ble_eq_true rfl⟩ (fun x20 h21 => ?_)
          refine r_csi (As := [.int x20]) (st := []) C ws_X8_84 (tcJ6_bitCount_0f7a4 K.2.1 g hg x20 h21) (Nat.le_of_ble_eq_true rfl) rfl rfl (Nat.le_of_ble_eq_true rfl) dX8_give_94 ⟨Nat.le_of_ble_eq_true rfl, Nat.le_of_ble_eq_true rfl⟩ (fun x22 h23 => ?_)
          exact r_iret C dX8_give_97
        · refine r_bipush C dX8_give_45 k_bm3 ?_
          exact r_iret C dX8_give_47
      · refine r_bipush C dX8_give_33 k_bm2 ?_
        exact r_iret C dX8_give_35
    · refine r_iconst C dX8_give_22 k_im1 ?_
      exact r_iret C dX8_give_23
set_option maxRecDepth 100000 in
set_option maxHeartbeats 4000000 in
theorem tcX8_takeBack (l : Launch) (g : WG) (hg : p_al g = false) (o0 : Nat) (i1 : Int32) (i2 : Int32) (h : PH) : CT l g 3 0 0 yX8_takeBack cX8_takeBack 3 (some .int) em_i [p_rf g o0, .int i1, .int i2] h (fX8_takeBack o0 i1 i2 h) := by
  refine CT_of (own := RX8) (nm := "takeBack") (by decide +kernel) (Nat.le_of_ble_eq_true rfl) rfl rfl rfl ⟨rfl, rfl⟩ (fun K hK C => ?_)
  subst hK
  unfold fX8_takeBack
  show VX K g _ _ _ _ _ [(0, p_rf g o0), (1, .int i1), (2, .int i2)] _ _ _
  refine r_aload_n C dX8_takeBack_0 0 rfl ?_
  refine r_gr C wf_X8_23_7 dX8_takeBack_1 (fun q1 => ?_)
  refine r_iload_n C dX8_takeBack_4 1 rfl ?_
  refine r_cvi (As := [.int i1]) (st := []) C wv_X8_92 (tcX0_hasPerson K.2.1 g hg q1 i1 h) (Nat.le_of_ble_eq_true rfl) rfl rfl (Nat.le_of_ble_eq_true rfl) dX8_takeBack_5 ⟨Nat.le_of_ble_eq_true rfl, Nat.le_of_ble_eq_true rfl⟩ (fun x2 h3 => ?_)
  refine r_if_eq (tgt := 22) C dX8_takeBack_8 (by decide) ?_ ?_
  · refine r_iconst C dX8_takeBack_22 k_im1 ?_
    exact r_iret C dX8_takeBack_23
  · refine r_aload_n C dX8_takeBack_11 0 rfl ?_
    refine r_gr C wf_X8_23_7 dX8_takeBack_12 (fun q4 => ?_)
    refine r_iload_n C dX8_takeBack_15 2 rfl ?_
    refine r_cvi (As := [.int i2]) (st := []) C wv_X8_96 (tcX0_hasGround K.2.1 g hg q4 i2 h3) (Nat.le_of_ble_eq_true rfl) rfl rfl (Nat.le_of_ble_eq_true rfl) dX8_takeBack_16 ⟨Nat.le_of_ble_eq_true rfl, Nat.le_of_ble_eq_true rfl⟩ (fun x5 h6 => ?_)
    refine r_if_ne (tgt := 24) C dX8_takeBack_19 (by decide) ?_ ?_
    · refine r_aload_n C dX8_takeBack_24 0 rfl ?_
      refine r_iload_n C dX8_takeBack_25 1 rfl ?_
      refine r_iload_n C dX8_takeBack_26 2 rfl ?_
      refine r_cvi (As := [.int i1, .int i2]) (st := []) C wv_X8_54 (tcX8_holds K.2.1 g hg o0 i1 i2 h6) (Nat.le_of_ble_eq_true rfl) rfl rfl (Nat.le_of_ble_eq_true rfl) dX8_takeBack_27 ⟨Nat.le_of_ble_eq_true rfl, Nat.le_of_ble_eq_true rfl⟩ (fun x7 h8 => ?_)
      refine r_if_ne (tgt := 36) C dX8_takeBack_30 (by decide) ?_ ?_
      · refine r_aload_n C dX8_takeBack_36 0 rfl ?_
        refine r_iload_n C dX8_takeBack_37 1 rfl ?_
        refine r_iload_n C dX8_takeBack_38 2 rfl ?_
        refine r_cvv (As := [.int i1, .int i2]) (st := []) C wv_X8_108 (tcX8_strip K.2.1 g hg o0 i1 i2 h8) (Nat.le_of_ble_eq_true rfl) rfl rfl (Nat.le_of_ble_eq_true rfl) dX8_takeBack_39 ⟨Nat.le_of_ble_eq_true rfl, Nat.le_of_ble_eq_true rfl⟩ (fun h9 => ?_)
        refine r_aload_n C dX8_takeBack_42 0 rfl ?_
        refine r_iload_n C dX8_takeBack_43 2 rfl ?_
        refine r_bipush C dX8_takeBack_44 k_b99 ?_
        refine r_aload_n C dX8_takeBack_46 0 rfl ?_
        refine r_iload_n C dX8_takeBack_47 2 rfl ?_
        refine r_cvi (As := [.int i2]) (st := [.int (99 : Int32), .int i2, p_rf g o0]) C wv_X8_78 (tcX8_stockOf K.2.1 g hg o0 i2 h9) (Nat.le_of_ble_eq_true rfl) rfl rfl (Nat.le_of_ble_eq_true rfl) dX8_takeBack_48 ⟨Nat.le_of_ble_eq_true rfl, Nat.le_of_ble_eq_true rfl⟩ (fun x10 h11 => ?_)
        refine r_iconst C dX8_takeBack_51 k_i1 ?_
        refine r_iadd C dX8_takeBack_52 ?_
        refine r_topi (fun x12 => ?_)
        refine r_min C wm_X8_103 (Nat.le_of_ble_eq_true rfl) (Nat.le_of_ble_eq_true rfl) ⟨Nat.le_of_ble_eq_true rfl, Nat.le_of_ble_eq_true rfl⟩ dX8_takeBack_53 ?_
        refine r_cvv (As := [.int i2, .int (if x12 < (99 : Int32) then x12 else (99 : Int32))]) (st := []) C wv_X8_99 (tcX8_putStock K.2.1 g hg o0 i2 (if x12 < (99 : Int32) then x12 else (99 : Int32)) h11) (Nat.le_of_ble_eq_true rfl) rfl rfl (Nat.le_of_ble_eq_true rfl) dX8_takeBack_56 ⟨Nat.le_of_ble_eq_true rfl, Nat.le_of_ble_eq_true rfl⟩ (fun h13 => ?_)
        refine r_aload_n C dX8_takeBack_59 0 rfl ?_
        refine r_iload_n C dX8_takeBack_60 1 rfl ?_
        refine r_cvi (As := [.int i1]) (st := []) C wv_X8_81 (tcX8_groundsOf K.2.1 g hg o0 i1 h13) (Nat.le_of_ble_eq_true rfl) rfl rfl (Nat.le_of_ble_eq_true rfl) dX8_takeBack_61 ⟨Nat.le_of_ble_eq_true rfl, Nat.le_of_ble_eq_true rfl⟩ (fun x14 h15 => ?_)
        refine r_csi (As := [.int x14]) (st := []) C ws_X8_84 (tcJ6_bitCount_0f7a4 K.2.1 g hg x14 h15) (Nat.le_of_ble_eq_true rfl) rfl rfl (Nat.le_of_ble_eq_true rfl) dX8_takeBack_64 ⟨Nat.le_of_ble_eq_true rfl, Nat.le_of_ble_eq_true rfl⟩ (fun x16 h17 => ?_)
        exact r_iret C dX8_takeBack_67
      · refine r_bipush C dX8_takeBack_33 k_bm2 ?_
        exact r_iret C dX8_takeBack_35
    · refine r_iconst C dX8_takeBack_22 k_im1 ?_
      exact r_iret C dX8_takeBack_23
set_option maxRecDepth 100000 in
set_option maxHeartbeats 4000000 in
theorem tcX8_make (l : Launch) (g : WG) (hg : p_al g = false) (o0 : Nat) (i1 : Int32) (i2 : Int32) (h : PH) : CT l g 2 0 0 yX8_make cX8_make 3 (some .int) em_i [p_rf g o0, .int i1, .int i2] h (fX8_make o0 i1 i2 h) := by
  refine CT_of (own := RX8) (nm := "make") (by decide +kernel) (Nat.le_of_ble_eq_true rfl) rfl rfl rfl ⟨rfl, rfl⟩ (fun K hK C => ?_)
  subst hK
  unfold fX8_make
  show VX K g _ _ _ _ _ [(0, p_rf g o0), (1, .int i1), (2, .int i2)] _ _ _
  refine r_aload_n C dX8_make_0 0 rfl ?_
  refine r_gr C wf_X8_23_7 dX8_make_1 (fun q1 => ?_)
  refine r_iload_n C dX8_make_4 1 rfl ?_
  refine r_cvi (As := [.int i1]) (st := []) C wv_X8_96 (tcX0_hasGround K.2.1 g hg q1 i1 h) (Nat.le_of_ble_eq_true rfl) rfl rfl (Nat.le_of_ble_eq_true rfl) dX8_make_5 ⟨Nat.le_of_ble_eq_true rfl, Nat.le_of_ble_eq_true rfl⟩ (fun x2 h3 => ?_)
  refine r_if_eq (tgt := 21) C dX8_make_8 (by decide) ?_ ?_
  · refine r_iconst C dX8_make_21 k_im1 ?_
    exact r_iret C dX8_make_22
  · refine r_iload_n C dX8_make_11 2 rfl ?_
    refine r_iconst C dX8_make_12 k_i1 ?_
    refine r_bipush C dX8_make_13 k_b99 ?_
    refine r_cni (As := [.int i2, .int (1 : Int32), .int (99 : Int32)]) (st := []) C wn_X8_33 (tcX11_within K.2.1 g hg i2 (1 : Int32) (99 : Int32) h3) (Nat.le_of_ble_eq_true rfl) rfl rfl (Nat.le_of_ble_eq_true rfl) dX8_make_15 ⟨Nat.le_of_ble_eq_true rfl, Nat.le_of_ble_eq_true rfl⟩ (fun x4 h5 => ?_)
    refine r_if_ne (tgt := 23) C dX8_make_18 (by decide) ?_ ?_
    · refine r_aload_n C dX8_make_23 0 rfl ?_
      refine r_iload_n C dX8_make_24 1 rfl ?_
      refine r_bipush C dX8_make_25 k_b99 ?_
      refine r_aload_n C dX8_make_27 0 rfl ?_
      refine r_iload_n C dX8_make_28 1 rfl ?_
      refine r_cvi (As := [.int i1]) (st := [.int (99 : Int32), .int i1, p_rf g o0]) C wv_X8_78 (tcX8_stockOf K.2.1 g hg o0 i1 h5) (Nat.le_of_ble_eq_true rfl) rfl rfl (Nat.le_of_ble_eq_true rfl) dX8_make_29 ⟨Nat.le_of_ble_eq_true rfl, Nat.le_of_ble_eq_true rfl⟩ (fun x6 h7 => ?_)
      refine r_iload_n C dX8_make_32 2 rfl ?_
      refine r_iadd C dX8_make_33 ?_
      refine r_topi (fun x8 => ?_)
      refine r_min C wm_X8_103 (Nat.le_of_ble_eq_true rfl) (Nat.le_of_ble_eq_true rfl) ⟨Nat.le_of_ble_eq_true rfl, Nat.le_of_ble_eq_true rfl⟩ dX8_make_34 ?_
      refine r_cvv (As := [.int i1, .int (if x8 < (99 : Int32) then x8 else (99 : Int32))]) (st := []) C wv_X8_99 (tcX8_putStock K.2.1 g hg o0 i1 (if x8 < (99 : Int32) then x8 else (99 : Int32)) h7) (Nat.le_of_ble_eq_true rfl) rfl rfl (Nat.le_of_ble_eq_true rfl) dX8_make_37 ⟨Nat.le_of_ble_eq_true rfl, Nat.le_of_ble_eq_true rfl⟩ (fun h9 => ?_)
      refine r_aload_n C dX8_make_40 0 rfl ?_
      refine r_iload_n C dX8_make_41 1 rfl ?_
      refine r_cvi (As := [.int i1]) (st := []) C wv_X8_78 (tcX8_stockOf K.2.1 g hg o0 i1 h9) (Nat.le_of_ble_eq_true rfl) rfl rfl (Nat.le_of_ble_eq_true rfl) dX8_make_42 ⟨Nat.le_of_ble_eq_true rfl, Nat.le_of_ble_eq_true rfl⟩ (fun x10 h11 => ?_)
      exact r_iret C dX8_make_45
    · refine r_iconst C dX8_make_21 k_im1 ?_
      exact r_iret C dX8_make_22
set_option maxRecDepth 100000 in
set_option maxHeartbeats 4000000 in
theorem tX8_spend_L45 {K : AC} {g : WG} (hg : p_al g = false)  (C : Cx K g cX8_spend 9 RX8 (some .int) "spend" 5 0 0) (o0 : Nat) (i1 : Int32) (o2 : Nat) (i3 : Int32) (i5 : Int32) {kx : Int32 → PH → Option (Int32 × PH)} (hk : ∀ (i4 : Int32) (h : PH), VX K g 9 0 0 (a_fin K g 0 0 em_i) 102 [(0, p_rf g o0), (1, .int i1), (2, p_rf g o2), (3, .int i3), (4, .int i4), (5, .int i5)] [] h (kx i4 h)) : ∀ (n : Nat) (i4 : Int32) (i6 : Int32) (i7 : Int32) (h : PH), VX K g 9 0 0 (a_fin K g 0 0 em_i) 45 [(0, p_rf g o0), (1, .int i1), (2, p_rf g o2), (3, .int i3), (4, .int i4), (5, .int i5), (6, .int i6), (7, .int i7)] [] h (fX8_spend_L45 o0 i1 o2 i3 i5 kx n i4 i6 i7 h) := by
  intro n
  induction n with
  | zero =>
    intros
    exact r_none
  | succ n ih =>
    intro i4 i6 i7 h
    rw [fX8_spend_L45]
    refine r_iload C dX8_spend_45 7 rfl ?_
    refine r_iload_n C dX8_spend_47 1 rfl ?_
    refine r_icmp_ge (tgt := 102) C dX8_spend_48 (by decide) ?_ ?_
    · refine r_perm (lv' := [(0, p_rf g o0), (1, .int i1), (2, p_rf g o2), (3, .int i3), (4, .int i4), (5, .int i5)]) [0, 1, 2, 3, 4, 5] rfl ?_
      exact hk i4 h
    · refine r_aload_n C dX8_spend_51 0 rfl ?_
      refine r_iload C dX8_spend_52 5 rfl ?_
      refine r_aload_n C dX8_spend_54 2 rfl ?_
      refine r_cvv (As := [.int i5, p_rf g o2]) (st := []) C wv_X8_111 (tcX8_live K.2.1 g hg o0 i5 o2 h) (Nat.le_of_ble_eq_true rfl) rfl rfl (Nat.le_of_ble_eq_true rfl) dX8_spend_55 ⟨Nat.le_of_ble_eq_true rfl, Nat.le_of_ble_eq_true rfl⟩ (fun h1 => ?_)
      refine r_aload_n C dX8_spend_58 0 rfl ?_
      refine r_gr C wf_X8_11_7 dX8_spend_59 (fun q2 => ?_)
      refine r_bipush C dX8_spend_62 k_b80 ?_
      refine r_dup2 C dX8_spend_64 rfl rfl ?_
      refine r_iald C dX8_spend_65 (fun x3 => ?_)
      refine r_iconst C dX8_spend_66 k_i1 ?_
      refine r_iadd C dX8_spend_67 ?_
      refine r_iast C dX8_spend_68 (fun h4 => ?_)
      refine r_aload_n C dX8_spend_69 0 rfl ?_
      refine r_iload C dX8_spend_70 5 rfl ?_
      refine r_cvi (As := [.int i5]) (st := []) C wv_X8_89 (tcX8_wantsOf K.2.1 g hg o0 i5 h4) (Nat.le_of_ble_eq_true rfl) rfl rfl (Nat.le_of_ble_eq_true rfl) dX8_spend_72 ⟨Nat.le_of_ble_eq_true rfl, Nat.le_of_ble_eq_true rfl⟩ (fun x5 h6 => ?_)
      refine r_istore (lv9 := [(8, .int x5), (0, p_rf g o0), (1, .int i1), (2, p_rf g o2), (3, .int i3), (4, .int i4), (5, .int i5), (6, .int i6), (7, .int i7)]) C dX8_spend_75 (by decide) rfl ?_
      refine r_iload C dX8_spend_77 5 rfl ?_
      refine r_iload C dX8_spend_79 0 rfl ?_
      refine r_iload C dX8_spend_81 7 rfl ?_
      refine r_iconst C dX8_spend_83 k_im1 ?_
      refine r_ixor C dX8_spend_84 ?_
      refine r_iand C dX8_spend_85 ?_
      refine r_csi (As := [.int (x5 &&& (i6 ^^^ (-1 : Int32)))]) (st := [.int i4]) C ws_X8_84 (tcJ6_bitCount_0f7a4 K.2.1 g hg (x5 &&& (i6 ^^^ (-1 : Int32))) h6) (Nat.le_of_ble_eq_true rfl) rfl rfl (Nat.le_of_ble_eq_true rfl) dX8_spend_86 ⟨Nat.le_of_ble_eq_true rfl, Nat.le_of_ble_eq_true rfl⟩ (fun x7 h8 => ?_)
      refine r_iadd C dX8_spend_89 ?_
      refine r_topi (fun x9 => ?_)
      refine r_istore (lv9 := [(4, .int x9), (8, .int x5), (0, p_rf g o0), (1, .int i1), (2, p_rf g o2), (3, .int i3), (5, .int i5), (6, .int i6), (7, .int i7)]) C dX8_spend_90 (by decide) rfl ?_
      refine r_iload C dX8_spend_92 1 rfl ?_
      refine r_istore (lv9 := [(6, .int x5), (4, .int x9), (8, .int x5), (0, p_rf g o0), (1, .int i1), (2, p_rf g o2), (3, .int i3), (5, .int i5), (7, .int i7)]) C dX8_spend_94 (by decide) rfl ?_
      refine r_iinc (lv' := [(6, .int x5), (4, .int x9), (8, .int x5), (0, p_rf g o0), (1, .int i1), (2, p_rf g o2), (3, .int i3), (5, .int i5)]) C dX8_spend_96 8 rfl k_i1 (by decide) (fun _ => rfl) (fun x10 => ?_)
      refine r_goto (tgt := 45) C dX8_spend_99 (by decide) ?_
      refine r_perm (lv' := [(0, p_rf g o0), (1, .int i1), (2, p_rf g o2), (3, .int i3), (4, .int x9), (5, .int i5), (6, .int x5), (7, .int x10)]) [4, 5, 6, 7, 2, 8, 1, 0] rfl ?_
      exact ih x9 x5 x10 h8
set_option maxRecDepth 100000 in
set_option maxHeartbeats 4000000 in
theorem tX8_spend_L14 {K : AC} {g : WG} (hg : p_al g = false)  (C : Cx K g cX8_spend 9 RX8 (some .int) "spend" 5 0 0) (o0 : Nat) (i1 : Int32) (o2 : Nat) (i3 : Int32) {kx : Int32 → PH → Option (Int32 × PH)} (hk : ∀ (i4 : Int32) (h : PH), VX K g 9 0 0 (a_fin K g 0 0 em_i) 108 [(0, p_rf g o0), (1, .int i1), (3, .int i3), (4, .int i4)] [] h (kx i4 h)) : ∀ (n : Nat) (i4 : Int32) (i5 : Int32) (h : PH), VX K g 9 0 0 (a_fin K g 0 0 em_i) 14 [(0, p_rf g o0), (1, .int i1), (2, p_rf g o2), (3, .int i3), (4, .int i4), (5, .int i5)] [] h (fX8_spend_L14 o0 i1 o2 i3 kx n i4 i5 h) := by
  intro n
  induction n with
  | zero =>
    intros
    exact r_none
  | succ n ih =>
    intro i4 i5 h
    rw [fX8_spend_L14]
    refine r_iload C dX8_spend_14 5 rfl ?_
    refine r_aload_n C dX8_spend_16 0 rfl ?_
    refine r_gr C wf_X8_23_7 dX8_spend_17 (fun q1 => ?_)
    refine r_cvi (As := []) (st := [.int i5]) C wv_X8_51 (tcX0_personSize K.2.1 g hg q1 h) (Nat.le_of_ble_eq_true rfl) rfl rfl (Nat.le_of_ble_eq_true rfl) dX8_spend_20 ⟨Nat.le_of_ble_eq_true rfl, Nat.le_of_ble_eq_true rfl⟩ (fun x2 h3 => ?_)
    refine r_icmp_ge (tgt := 108) C dX8_spend_23 (by decide) ?_ ?_
    · refine r_perm (lv' := [(0, p_rf g o0), (1, .int i1), (3, .int i3), (4, .int i4)]) [0, 1, 3, 4] rfl ?_
      exact hk i4 h3
    · refine r_aload_n C dX8_spend_26 0 rfl ?_
      refine r_gr C wf_X8_11_7 dX8_spend_27 (fun q4 => ?_)
      refine r_bipush C dX8_spend_30 k_b80 ?_
      refine r_iload_n C dX8_spend_32 3 rfl ?_
      refine r_iast C dX8_spend_33 (fun h5 => ?_)
      refine r_aload_n C dX8_spend_34 0 rfl ?_
      refine r_iload C dX8_spend_35 5 rfl ?_
      refine r_cvi (As := [.int i5]) (st := []) C wv_X8_89 (tcX8_wantsOf K.2.1 g hg o0 i5 h5) (Nat.le_of_ble_eq_true rfl) rfl rfl (Nat.le_of_ble_eq_true rfl) dX8_spend_37 ⟨Nat.le_of_ble_eq_true rfl, Nat.le_of_ble_eq_true rfl⟩ (fun x6 h7 => ?_)
      refine r_istore (lv9 := [(6, .int x6), (0, p_rf g o0), (1, .int i1), (2, p_rf g o2), (3, .int i3), (4, .int i4), (5, .int i5)]) C dX8_spend_40 (by decide) rfl ?_
      refine r_iconst C dX8_spend_42 k_i0 ?_
      refine r_istore (lv9 := [(7, .int (0 : Int32)), (6, .int x6), (0, p_rf g o0), (1, .int i1), (2, p_rf g o2), (3, .int i3), (4, .int i4), (5, .int i5)]) C dX8_spend_43 (by decide) rfl ?_
      refine r_perm (lv' := [(0, p_rf g o0), (1, .int i1), (2, p_rf g o2), (3, .int i3), (4, .int i4), (5, .int i5), (6, .int x6), (7, .int (0 : Int32))]) [2, 3, 4, 5, 6, 7, 1, 0] rfl ?_
      refine tX8_spend_L45 hg C o0 i1 o2 i3 i5 (fun x8 h9 => ?_) FU i4 x6 (0 : Int32) h7
      refine r_iinc (lv' := [(0, p_rf g o0), (1, .int i1), (2, p_rf g o2), (3, .int i3), (4, .int x8)]) C dX8_spend_102 5 rfl k_i1 (by decide) (fun _ => rfl) (fun x10 => ?_)
      refine r_goto (tgt := 14) C dX8_spend_105 (by decide) ?_
      refine r_perm (lv' := [(0, p_rf g o0), (1, .int i1), (2, p_rf g o2), (3, .int i3), (4, .int x8), (5, .int x10)]) [1, 2, 3, 4, 5, 0] rfl ?_
      exact ih x8 x10 h9
set_option maxRecDepth 100000 in
set_option maxHeartbeats 4000000 in
theorem tcX8_spend (l : Launch) (g : WG) (hg : p_al g = false) (o0 : Nat) (i1 : Int32) (o2 : Nat) (h : PH) : CT l g 5 0 0 yX8_spend cX8_spend 9 (some .int) em_i [p_rf g o0, .int i1, p_rf g o2] h (fX8_spend o0 i1 o2 h) := by
  refine CT_of (own := RX8) (nm := "spend") (by decide +kernel) (Nat.le_of_ble_eq_true rfl) rfl rfl rfl ⟨rfl, rfl⟩ (fun K hK C => ?_)
  subst hK
  unfold fX8_spend
  show VX K g _ _ _ _ _ [(0, p_rf g o0), (1, .int i1), (2, p_rf g o2)] _ _ _
  refine r_aload_n C dX8_spend_0 0 rfl ?_
  refine r_gr C wf_X8_11_7 dX8_spend_1 (fun q1 => ?_)
  refine r_bipush C dX8_spend_4 k_b80 ?_
  refine r_iald C dX8_spend_6 (fun x2 => ?_)
  refine r_istore_n (lv9 := [(3, .int x2), (0, p_rf g o0), (1, .int i1), (2, p_rf g o2)]) C dX8_spend_7 (by decide) rfl ?_
  refine r_iconst C dX8_spend_8 k_i0 ?_
  refine r_istore (lv9 := [(4, .int (0 : Int32)), (3, .int x2), (0, p_rf g o0), (1, .int i1), (2, p_rf g o2)]) C dX8_spend_9 (by decide) rfl ?_
  refine r_iconst C dX8_spend_11 k_i0 ?_
  refine r_istore (lv9 := [(5, .int (0 : Int32)), (4, .int (0 : Int32)), (3, .int x2), (0, p_rf g o0), (1, .int i1), (2, p_rf g o2)]) C dX8_spend_12 (by decide) rfl ?_
  refine r_perm (lv' := [(0, p_rf g o0), (1, .int i1), (2, p_rf g o2), (3, .int x2), (4, .int (0 : Int32)), (5, .int (0 : Int32))]) [3, 4, 5, 2, 1, 0] rfl ?_
  refine tX8_spend_L14 hg C o0 i1 o2 x2 (fun x3 h4 => ?_) FU (0 : Int32) (0 : Int32) h
  refine r_aload_n C dX8_spend_108 0 rfl ?_
  refine r_gr C wf_X8_11_7 dX8_spend_109 (fun q5 => ?_)
  refine r_bipush C dX8_spend_112 k_b80 ?_
  refine r_iload_n C dX8_spend_114 2 rfl ?_
  refine r_iload_n C dX8_spend_115 1 rfl ?_
  refine r_iadd C dX8_spend_116 ?_
  refine r_iast C dX8_spend_117 (fun h6 => ?_)
  refine r_iload C dX8_spend_118 3 rfl ?_
  exact r_iret C dX8_spend_120
set_option maxRecDepth 100000 in
set_option maxHeartbeats 4000000 in
theorem tX8_passAll_L11 {K : AC} {g : WG} (hg : p_al g = false)  (C : Cx K g cX8_passAll 5 RX8 none "passAll" 6 0 0) (o0 : Nat) (i1 : Int32) (o2 : Nat) (i3 : Int32) {kx : PH → Option (Unit × PH)} (hk : ∀  (h : PH), VX K g 5 0 0 (a_fin K g 0 0 em_v) 45 [(0, p_rf g o0), (1, .int i1), (3, .int i3)] [] h (kx h)) : ∀ (n : Nat) (i4 : Int32) (h : PH), VX K g 5 0 0 (a_fin K g 0 0 em_v) 11 [(0, p_rf g o0), (1, .int i1), (2, p_rf g o2), (3, .int i3), (4, .int i4)] [] h (fX8_passAll_L11 o0 i1 o2 i3 kx n i4 h) := by
  intro n
  induction n with
  | zero =>
    intros
    exact r_none
  | succ n ih =>
    intro i4 h
    rw [fX8_passAll_L11]
    refine r_iload C dX8_passAll_11 4 rfl ?_
    refine r_aload_n C dX8_passAll_13 0 rfl ?_
    refine r_gr C wf_X8_23_7 dX8_passAll_14 (fun q1 => ?_)
    refine r_cvi (As := []) (st := [.int i4]) C wv_X8_51 (tcX0_personSize K.2.1 g hg q1 h) (Nat.le_of_ble_eq_true rfl) rfl rfl (Nat.le_of_ble_eq_true rfl) dX8_passAll_17 ⟨Nat.le_of_ble_eq_true rfl, Nat.le_of_ble_eq_true rfl⟩ (fun x2 h3 => ?_)
    refine r_icmp_ge (tgt := 45) C dX8_passAll_20 (by decide) ?_ ?_
    · refine r_perm (lv' := [(0, p_rf g o0), (1, .int i1), (3, .int i3)]) [0, 1, 3] rfl ?_
      exact hk h3
    · refine r_aload_n C dX8_passAll_23 0 rfl ?_
      refine r_gr C wf_X8_11_7 dX8_passAll_24 (fun q4 => ?_)
      refine r_bipush C dX8_passAll_27 k_b80 ?_
      refine r_iload_n C dX8_passAll_29 3 rfl ?_
      refine r_iast C dX8_passAll_30 (fun h5 => ?_)
      refine r_aload_n C dX8_passAll_31 0 rfl ?_
      refine r_iload C dX8_passAll_32 4 rfl ?_
      refine r_iload_n C dX8_passAll_34 1 rfl ?_
      refine r_aload_n C dX8_passAll_35 2 rfl ?_
      refine r_cvv (As := [.int i4, .int i1, p_rf g o2]) (st := []) C wv_X8_115 (tcX8_pass K.2.1 g hg o0 i4 i1 o2 h5) (Nat.le_of_ble_eq_true rfl) rfl rfl (Nat.le_of_ble_eq_true rfl) dX8_passAll_36 ⟨Nat.le_of_ble_eq_true rfl, Nat.le_of_ble_eq_true rfl⟩ (fun h6 => ?_)
      refine r_iinc (lv' := [(0, p_rf g o0), (1, .int i1), (2, p_rf g o2), (3, .int i3)]) C dX8_passAll_39 4 rfl k_i1 (by decide) (fun _ => rfl) (fun x7 => ?_)
      refine r_goto (tgt := 11) C dX8_passAll_42 (by decide) ?_
      refine r_perm (lv' := [(0, p_rf g o0), (1, .int i1), (2, p_rf g o2), (3, .int i3), (4, .int x7)]) [1, 2, 3, 4, 0] rfl ?_
      exact ih x7 h6
set_option maxRecDepth 100000 in
set_option maxHeartbeats 4000000 in
theorem tcX8_passAll (l : Launch) (g : WG) (hg : p_al g = false) (o0 : Nat) (i1 : Int32) (o2 : Nat) (h : PH) : CT l g 6 0 0 yX8_passAll cX8_passAll 5 none em_v [p_rf g o0, .int i1, p_rf g o2] h (fX8_passAll o0 i1 o2 h) := by
  refine CT_of (own := RX8) (nm := "passAll") (by decide +kernel) (Nat.le_of_ble_eq_true rfl) rfl rfl rfl ⟨rfl, rfl⟩ (fun K hK C => ?_)
  subst hK
  unfold fX8_passAll
  show VX K g _ _ _ _ _ [(0, p_rf g o0), (1, .int i1), (2, p_rf g o2)] _ _ _
  refine r_aload_n C dX8_passAll_0 0 rfl ?_
  refine r_gr C wf_X8_11_7 dX8_passAll_1 (fun q1 => ?_)
  refine r_bipush C dX8_passAll_4 k_b80 ?_
  refine r_iald C dX8_passAll_6 (fun x2 => ?_)
  refine r_istore_n (lv9 := [(3, .int x2), (0, p_rf g o0), (1, .int i1), (2, p_rf g o2)]) C dX8_passAll_7 (by decide) rfl ?_
  refine r_iconst C dX8_passAll_8 k_i0 ?_
  refine r_istore (lv9 := [(4, .int (0 : Int32)), (3, .int x2), (0, p_rf g o0), (1, .int i1), (2, p_rf g o2)]) C dX8_passAll_9 (by decide) rfl ?_
  refine r_perm (lv' := [(0, p_rf g o0), (1, .int i1), (2, p_rf g o2), (3, .int x2), (4, .int (0 : Int32))]) [2, 3, 4, 1, 0] rfl ?_
  refine tX8_passAll_L11 hg C o0 i1 o2 x2 (fun h3 => ?_) FU (0 : Int32) h
  refine r_aload_n C dX8_passAll_45 0 rfl ?_
  refine r_gr C wf_X8_11_7 dX8_passAll_46 (fun q4 => ?_)
  refine r_bipush C dX8_passAll_49 k_b80 ?_
  refine r_iload_n C dX8_passAll_51 2 rfl ?_
  refine r_iload_n C dX8_passAll_52 1 rfl ?_
  refine r_iadd C dX8_passAll_53 ?_
  refine r_iast C dX8_passAll_54 (fun h5 => ?_)
  exact r_vret C dX8_passAll_55
set_option maxRecDepth 100000 in
set_option maxHeartbeats 4000000 in
theorem tcX9_init (l : Launch) (g : WG) (hg : p_al g = true) (o0 : Nat) (h : PH) : CT l g 2 0 0 yX9_init cX9_init 1 none em_v [p_rf g o0] h (fX9_init o0 h) := by
  refine CT_of (own := RX9) (nm := "<init>") (by decide +kernel) (Nat.le_of_ble_eq_true rfl) rfl rfl rfl ⟨rfl, rfl⟩ (fun K hK C => ?_)
  subst hK
  unfold fX9_init
  show VX K g _ _ _ _ _ [(0, p_rf g o0)] _ _ _
  refine r_aload_n C dX9_init_0 0 rfl ?_
  refine r_bipush C dX9_init_1 k_b59 ?_
  refine r_ciA (As := [.int (59 : Int32)]) (st := []) C wi_X9_3 (tcX1_init_X9 K.2.1 g hg o0 (59 : Int32) h) (Nat.le_of_ble_eq_true rfl) rfl rfl (Nat.le_of_ble_eq_true rfl) dX9_init_3 ⟨Nat.le_of_ble_eq_true rfl, Nat.le_of_ble_eq_true rfl⟩ (fun h1 => ?_)
  exact r_vret C dX9_init_6
set_option maxRecDepth 100000 in
set_option maxHeartbeats 4000000 in
theorem tcX9_lines (l : Launch) (g : WG) (hg : p_al g = false) (o0 : Nat) (h : PH) : CT l g 1 0 0 yX9_lines cX9_lines 1 (some .int) em_i [p_rf g o0] h (fX9_lines o0 h) := by
  refine CT_of (own := RX9) (nm := "lines") (by decide +kernel) (Nat.le_of_ble_eq_true rfl) rfl rfl rfl ⟨rfl, rfl⟩ (fun K hK C => ?_)
  subst hK
  unfold fX9_lines
  show VX K g _ _ _ _ _ [(0, p_rf g o0)] _ _ _
  refine r_aload_n C dX9_lines_0 0 rfl ?_
  refine r_gi C wf_X9_15_8 dX9_lines_1 (fun x1 => ?_)
  exact r_iret C dX9_lines_4
set_option maxRecDepth 100000 in
set_option maxHeartbeats 4000000 in
theorem tcX10_init (l : Launch) (g : WG) (hg : p_al g = true) (o0 : Nat) (h : PH) : CT l g 2 0 0 yX10_init cX10_init 1 none em_v [p_rf g o0] h (fX10_init o0 h) := by
  refine CT_of (own := RX10) (nm := "<init>") (by decide +kernel) (Nat.le_of_ble_eq_true rfl) rfl rfl rfl ⟨rfl, rfl⟩ (fun K hK C => ?_)
  subst hK
  unfold fX10_init
  show VX K g _ _ _ _ _ [(0, p_rf g o0)] _ _ _
  refine r_aload_n C dX10_init_0 0 rfl ?_
  refine r_bipush C dX10_init_1 k_b60 ?_
  refine r_ciA (As := [.int (60 : Int32)]) (st := []) C wi_X10_1 (tcX1_init_X10 K.2.1 g hg o0 (60 : Int32) h) (Nat.le_of_ble_eq_true rfl) rfl rfl (Nat.le_of_ble_eq_true rfl) dX10_init_3 ⟨Nat.le_of_ble_eq_true rfl, Nat.le_of_ble_eq_true rfl⟩ (fun h1 => ?_)
  exact r_vret C dX10_init_6
set_option maxRecDepth 100000 in
set_option maxHeartbeats 4000000 in
theorem tcX11_init (l : Launch) (g : WG) (hg : p_al g = true) (o0 : Nat) (h : PH) : CT l g 4 44 2118 yX11_init cX11_init 5 none em_v [p_rf g o0] h (fX11_init o0 h) := by
  refine CT_of (own := RX11) (nm := "<init>") (by decide +kernel) (Nat.le_of_ble_eq_true rfl) rfl rfl rfl ⟨rfl, rfl⟩ (fun K hK C => ?_)
  subst hK
  unfold fX11_init
  show VX K g _ _ _ _ _ [(0, p_rf g o0)] _ _ _
  refine r_aload_n C dX11_init_0 0 rfl ?_
  refine r_obj C wo_X11_1 (Nat.le_of_ble_eq_true rfl) (Nat.le_of_ble_eq_true rfl) dX11_init_1 ?_
  refine r_aload_n C dX11_init_4 0 rfl ?_
  refine r_newo hg C ww_X11_7 ⟨Nat.le_of_ble_eq_true rfl, Nat.le_of_ble_eq_true rfl⟩ dX11_init_5 (fun q1 h2 => ?_)
  refine r_dup C dX11_init_8 rfl ?_
  refine r_ciA (As := []) (st := [p_rf g q1, p_rf g o0]) C wi_X11_9 (tcX7_init K.2.1 g hg q1 h2) (Nat.le_of_ble_eq_true rfl) rfl rfl (Nat.le_of_ble_eq_true rfl) dX11_init_9 ⟨Nat.le_of_ble_eq_true rfl, Nat.le_of_ble_eq_true rfl⟩ (fun h3 => ?_)
  refine r_prF C wf_X11_10_10 rfl rfl dX11_init_12 (fun h4 => ?_)
  refine r_aload_n C dX11_init_15 0 rfl ?_
  refine r_newo hg C ww_X11_16 ⟨Nat.le_of_ble_eq_true rfl, Nat.le_of_ble_eq_true rfl⟩ dX11_init_16 (fun q5 h6 => ?_)
  refine r_dup C dX11_init_19 rfl ?_
  refine r_bipush C dX11_init_20 k_b6 ?_
  refine r_iconst C dX11_init_22 k_i2 ?_
  refine r_bipush C dX11_init_23 k_b55 ?_
  refine r_ciA (As := [.int (6 : Int32), .int (2 : Int32), .int (55 : Int32)]) (st := [p_rf g q5, p_rf g o0]) C wi_X11_18 (tcX2_init K.2.1 g hg q5 (6 : Int32) (2 : Int32) (55 : Int32) h6) (Nat.le_of_ble_eq_true rfl) rfl rfl (Nat.le_of_ble_eq_true rfl) dX11_init_25 ⟨Nat.le_of_ble_eq_true rfl, Nat.le_of_ble_eq_true rfl⟩ (fun h7 => ?_)
  refine r_prF C wf_X11_21_10 rfl rfl dX11_init_28 (fun h8 => ?_)
  refine r_aload_n C dX11_init_31 0 rfl ?_
  refine r_newo hg C ww_X11_16 ⟨Nat.le_of_ble_eq_true rfl, Nat.le_of_ble_eq_true rfl⟩ dX11_init_32 (fun q9 h10 => ?_)
  refine r_dup C dX11_init_35 rfl ?_
  refine r_iconst C dX11_init_36 k_i5 ?_
  refine r_iconst C dX11_init_37 k_i5 ?_
  refine r_bipush C dX11_init_38 k_b35 ?_
  refine r_ciA (As := [.int (5 : Int32), .int (5 : Int32), .int (35 : Int32)]) (st := [p_rf g q9, p_rf g o0]) C wi_X11_18 (tcX2_init K.2.1 g hg q9 (5 : Int32) (5 : Int32) (35 : Int32) h10) (Nat.le_of_ble_eq_true rfl) rfl rfl (Nat.le_of_ble_eq_true rfl) dX11_init_40 ⟨Nat.le_of_ble_eq_true rfl, Nat.le_of_ble_eq_true rfl⟩ (fun h11 => ?_)
  refine r_prF C wf_X11_25_10 rfl rfl dX11_init_43 (fun h12 => ?_)
  refine r_aload_n C dX11_init_46 0 rfl ?_
  refine r_newo hg C ww_X11_28 ⟨Nat.le_of_ble_eq_true rfl, Nat.le_of_ble_eq_true rfl⟩ dX11_init_47 (fun q13 h14 => ?_)
  refine r_dup C dX11_init_50 rfl ?_
  refine r_ciA (As := []) (st := [p_rf g q13, p_rf g o0]) C wi_X11_30 (tcX9_init K.2.1 g hg q13 h14) (Nat.le_of_ble_eq_true rfl) rfl rfl (Nat.le_of_ble_eq_true rfl) dX11_init_51 ⟨Nat.le_of_ble_eq_true rfl, Nat.le_of_ble_eq_true rfl⟩ (fun h15 => ?_)
  refine r_prF C wf_X11_31_10 rfl rfl dX11_init_54 (fun h16 => ?_)
  refine r_aload_n C dX11_init_57 0 rfl ?_
  refine r_newo hg C ww_X11_35 ⟨Nat.le_of_ble_eq_true rfl, Nat.le_of_ble_eq_true rfl⟩ dX11_init_58 (fun q17 h18 => ?_)
  refine r_dup C dX11_init_61 rfl ?_
  refine r_ciA (As := []) (st := [p_rf g q17, p_rf g o0]) C wi_X11_37 (tcX10_init K.2.1 g hg q17 h18) (Nat.le_of_ble_eq_true rfl) rfl rfl (Nat.le_of_ble_eq_true rfl) dX11_init_62 ⟨Nat.le_of_ble_eq_true rfl, Nat.le_of_ble_eq_true rfl⟩ (fun h19 => ?_)
  refine r_prF C wf_X11_38_10 rfl rfl dX11_init_65 (fun h20 => ?_)
  refine r_aload_n C dX11_init_68 0 rfl ?_
  refine r_newo hg C ww_X11_42 ⟨Nat.le_of_ble_eq_true rfl, Nat.le_of_ble_eq_true rfl⟩ dX11_init_69 (fun q21 h22 => ?_)
  refine r_dup C dX11_init_72 rfl ?_
  refine r_ciA (As := []) (st := [p_rf g q21, p_rf g o0]) C wi_X11_44 (tcX5_init K.2.1 g hg q21 h22) (Nat.le_of_ble_eq_true rfl) rfl rfl (Nat.le_of_ble_eq_true rfl) dX11_init_73 ⟨Nat.le_of_ble_eq_true rfl, Nat.le_of_ble_eq_true rfl⟩ (fun h23 => ?_)
  refine r_prF C wf_X11_45_10 rfl rfl dX11_init_76 (fun h24 => ?_)
  refine r_newo hg C ww_X11_49 ⟨Nat.le_of_ble_eq_true rfl, Nat.le_of_ble_eq_true rfl⟩ dX11_init_79 (fun q25 h26 => ?_)
  refine r_dup C dX11_init_82 rfl ?_
  refine r_ciA (As := []) (st := [p_rf g q25]) C wi_X11_51 (tcX3_init K.2.1 g hg q25 h26) (Nat.le_of_ble_eq_true rfl) rfl rfl (Nat.le_of_ble_eq_true rfl) dX11_init_83 ⟨Nat.le_of_ble_eq_true rfl, Nat.le_of_ble_eq_true rfl⟩ (fun h27 => ?_)
  refine r_astore_n (lv9 := [(1, p_rf g q25), (0, p_rf g o0)]) C dX11_init_86 (by decide) rfl ?_
  refine r_newo hg C ww_X11_52 ⟨Nat.le_of_ble_eq_true rfl, Nat.le_of_ble_eq_true rfl⟩ dX11_init_87 (fun q28 h29 => ?_)
  refine r_dup C dX11_init_90 rfl ?_
  refine r_ciA (As := []) (st := [p_rf g q28]) C wi_X11_54 (tcX0_init K.2.1 g hg q28 h29) (Nat.le_of_ble_eq_true rfl) rfl rfl (Nat.le_of_ble_eq_true rfl) dX11_init_91 ⟨Nat.le_of_ble_eq_true rfl, Nat.le_of_ble_eq_true rfl⟩ (fun h30 => ?_)
  refine r_astore_n (lv9 := [(2, p_rf g q28), (1, p_rf g q25), (0, p_rf g o0)]) C dX11_init_94 (by decide) rfl ?_
  refine r_newo hg C ww_X11_55 ⟨Nat.le_of_ble_eq_true rfl, Nat.le_of_ble_eq_true rfl⟩ dX11_init_95 (fun q31 h32 => ?_)
  refine r_dup C dX11_init_98 rfl ?_
  refine r_aload_n C dX11_init_99 0 rfl ?_
  refine r_ciA (As := [p_rf g q28]) (st := [p_rf g q31]) C wi_X11_57 (tcX8_init K.2.1 g hg q31 q28 h32) (Nat.le_of_ble_eq_true rfl) rfl rfl (Nat.le_of_ble_eq_true rfl) dX11_init_100 ⟨Nat.le_of_ble_eq_true rfl, Nat.le_of_ble_eq_true rfl⟩ (fun h33 => ?_)
  refine r_astore_n (lv9 := [(3, p_rf g q31), (2, p_rf g q28), (1, p_rf g q25), (0, p_rf g o0)]) C dX11_init_103 (by decide) rfl ?_
  refine r_newo hg C ww_X11_55 ⟨Nat.le_of_ble_eq_true rfl, Nat.le_of_ble_eq_true rfl⟩ dX11_init_104 (fun q34 h35 => ?_)
  refine r_dup C dX11_init_107 rfl ?_
  refine r_aload_n C dX11_init_108 1 rfl ?_
  refine r_ciA (As := [p_rf g q28]) (st := [p_rf g q34]) C wi_X11_57 (tcX8_init K.2.1 g hg q34 q28 h35) (Nat.le_of_ble_eq_true rfl) rfl rfl (Nat.le_of_ble_eq_true rfl) dX11_init_109 ⟨Nat.le_of_ble_eq_true rfl, Nat.le_of_ble_eq_true rfl⟩ (fun h36 => ?_)
  refine r_astore (lv9 := [(4, p_rf g q34), (3, p_rf g q31), (2, p_rf g q28), (1, p_rf g q25), (0, p_rf g o0)]) C dX11_init_112 (by decide) rfl ?_
  refine r_aload_n C dX11_init_114 4 rfl ?_
  refine r_newo hg C ww_X11_60 ⟨Nat.le_of_ble_eq_true rfl, Nat.le_of_ble_eq_true rfl⟩ dX11_init_115 (fun q37 h38 => ?_)
  refine r_dup C dX11_init_118 rfl ?_
  refine r_aload_n C dX11_init_119 2 rfl ?_
  refine r_aload_n C dX11_init_120 1 rfl ?_
  refine r_aload C dX11_init_121 0 rfl ?_
  refine r_aload_n C dX11_init_123 3 rfl ?_
  refine r_ciA (As := [p_rf g q28, p_rf g q31, p_rf g q34, p_rf g q25]) (st := [p_rf g q37, p_rf g o0]) C wi_X11_62 (tcX4_init K.2.1 g hg q37 q28 q31 q34 q25 h38) (Nat.le_of_ble_eq_true rfl) rfl rfl (Nat.le_of_ble_eq_true rfl) dX11_init_124 ⟨Nat.le_of_ble_eq_true rfl, Nat.le_of_ble_eq_true rfl⟩ (fun h39 => ?_)
  refine r_prF C wf_X11_65_10 rfl rfl dX11_init_127 (fun h40 => ?_)
  refine r_aload_n C dX11_init_130 4 rfl ?_
  refine r_aload_n C dX11_init_131 3 rfl ?_
  refine r_prF C wf_X11_69_10 rfl rfl dX11_init_132 (fun h41 => ?_)
  refine r_aload_n C dX11_init_135 4 rfl ?_
  refine r_aload_n C dX11_init_136 2 rfl ?_
  refine r_prF C wf_X11_73_10 rfl rfl dX11_init_137 (fun h42 => ?_)
  refine r_aload_n C dX11_init_140 4 rfl ?_
  refine r_aload_n C dX11_init_141 1 rfl ?_
  refine r_prF C wf_X11_77_10 rfl rfl dX11_init_142 (fun h43 => ?_)
  refine r_aload_n C dX11_init_145 4 rfl ?_
  refine r_aload C dX11_init_146 0 rfl ?_
  refine r_prF C wf_X11_81_10 rfl rfl dX11_init_148 (fun h44 => ?_)
  exact r_vret C dX11_init_151
set_option maxRecDepth 100000 in
set_option maxHeartbeats 4000000 in
theorem tcX11_sign (l : Launch) (g : WG) (hg : p_al g = false) (o0 : Nat) (i1 : Int32) (h : PH) : CT l g 2 0 0 yX11_sign cX11_sign 2 (some .int) em_i [p_rf g o0, .int i1] h (fX11_sign o0 i1 h) := by
  refine CT_of (own := RX11) (nm := "sign") (by decide +kernel) (Nat.le_of_ble_eq_true rfl) rfl rfl rfl ⟨rfl, rfl⟩ (fun K hK C => ?_)
  subst hK
  unfold fX11_sign
  show VX K g _ _ _ _ _ [(0, p_rf g o0), (1, .int i1)] _ _ _
  refine r_aload_n C dX11_sign_0 0 rfl ?_
  refine r_gr C wf_X11_10_10 dX11_sign_1 (fun q1 => ?_)
  refine r_iload_n C dX11_sign_4 1 rfl ?_
  refine r_cvi (As := [.int i1]) (st := []) C wv_X11_84 (tcX7_add K.2.1 g hg q1 i1 h) (Nat.le_of_ble_eq_true rfl) rfl rfl (Nat.le_of_ble_eq_true rfl) dX11_sign_5 ⟨Nat.le_of_ble_eq_true rfl, Nat.le_of_ble_eq_true rfl⟩ (fun x2 h3 => ?_)
  refine r_if_eq (tgt := 21) C dX11_sign_8 (by decide) ?_ ?_
  · refine r_iconst C dX11_sign_21 k_im1 ?_
    exact r_iret C dX11_sign_22
  · refine r_aload_n C dX11_sign_11 0 rfl ?_
    refine r_gr C wf_X11_10_10 dX11_sign_12 (fun q4 => ?_)
    refine r_cvi (As := []) (st := []) C wv_X11_88 (tcX7_size K.2.1 g hg q4 h3) (Nat.le_of_ble_eq_true rfl) rfl rfl (Nat.le_of_ble_eq_true rfl) dX11_sign_15 ⟨Nat.le_of_ble_eq_true rfl, Nat.le_of_ble_eq_true rfl⟩ (fun x5 h6 => ?_)
    refine r_goto (tgt := 22) C dX11_sign_18 (by decide) ?_
    exact r_iret C dX11_sign_22
set_option maxRecDepth 100000 in
set_option maxHeartbeats 4000000 in
theorem tcX11_end (l : Launch) (g : WG) (hg : p_al g = false) (o0 : Nat) (i1 : Int32) (h : PH) : CT l g 3 0 0 yX11_end cX11_end 2 (some .boolean) em_i [p_rf g o0, .int i1] h (fX11_end o0 i1 h) := by
  refine CT_of (own := RX11) (nm := "end") (by decide +kernel) (Nat.le_of_ble_eq_true rfl) rfl rfl rfl ⟨rfl, rfl⟩ (fun K hK C => ?_)
  subst hK
  unfold fX11_end
  show VX K g _ _ _ _ _ [(0, p_rf g o0), (1, .int i1)] _ _ _
  refine r_aload_n C dX11_end_0 0 rfl ?_
  refine r_gr C wf_X11_10_10 dX11_end_1 (fun q1 => ?_)
  refine r_iload_n C dX11_end_4 1 rfl ?_
  refine r_cvi (As := [.int i1]) (st := []) C wv_X11_92 (tcX7_cut K.2.1 g hg q1 i1 h) (Nat.le_of_ble_eq_true rfl) rfl rfl (Nat.le_of_ble_eq_true rfl) dX11_end_5 ⟨Nat.le_of_ble_eq_true rfl, Nat.le_of_ble_eq_true rfl⟩ (fun x2 h3 => ?_)
  exact r_zret C dX11_end_8
set_option maxRecDepth 100000 in
set_option maxHeartbeats 4000000 in
theorem tX11_readGrounds_L53 {K : AC} {g : WG} (hg : p_al g = false)  (C : Cx K g cX11_readGrounds 5 RX11 (some .int) "readGrounds" 5 0 0) (o0 : Nat) (i2 : Int32) {kx : PH → Option (Int32 × PH)} (hk : ∀  (h : PH), VX K g 5 0 0 (a_fin K g 0 0 em_i) 108 [(0, p_rf g o0), (2, .int i2)] [] h (kx h)) : ∀ (n : Nat) (i3 : Int32) (h : PH), VX K g 5 0 0 (a_fin K g 0 0 em_i) 53 [(0, p_rf g o0), (2, .int i2), (3, .int i3)] [] h (fX11_readGrounds_L53 o0 i2 kx n i3 h) := by
  intro n
  induction n with
  | zero =>
    intros
    exact r_none
  | succ n ih =>
    intro i3 h
    rw [fX11_readGrounds_L53]
    refine r_iload_n C dX11_readGrounds_53 2 rfl ?_
    refine r_iload_n C dX11_readGrounds_54 1 rfl ?_
    refine r_icmp_ge (tgt := 108) C dX11_readGrounds_55 (by decide) ?_ ?_
    · refine r_perm (lv' := [(0, p_rf g o0), (2, .int i2)]) [0, 1] rfl ?_
      exact hk h
    · refine r_iload_n C dX11_readGrounds_58 2 rfl ?_
      refine r_bipush C dX11_readGrounds_59 k_b7 ?_
      refine r_imul C dX11_readGrounds_61 ?_
      refine r_topi (fun x1 => ?_)
      refine r_istore (lv9 := [(4, .int x1), (0, p_rf g o0), (2, .int i2), (3, .int i3)]) C dX11_readGrounds_62 (by decide) rfl ?_
      refine r_aload_n C dX11_readGrounds_64 1 rfl ?_
      refine r_gr C wf_X11_77_10 dX11_readGrounds_65 (fun q2 => ?_)
      refine r_aload_n C dX11_readGrounds_68 1 rfl ?_
      refine r_gr C wf_X11_73_10 dX11_readGrounds_69 (fun q3 => ?_)
      refine r_cvi (As := []) (st := [p_rf g q2]) C wv_X11_98 (tcX0_groundSize K.2.1 g hg q3 h) (Nat.le_of_ble_eq_true rfl) rfl rfl (Nat.le_of_ble_eq_true rfl) dX11_readGrounds_72 ⟨Nat.le_of_ble_eq_true rfl, Nat.le_of_ble_eq_true rfl⟩ (fun x4 h5 => ?_)
      refine r_aload_n C dX11_readGrounds_75 1 rfl ?_
      refine r_gr C wf_X11_10_10 dX11_readGrounds_76 (fun q6 => ?_)
      refine r_iload C dX11_readGrounds_79 0 rfl ?_
      refine r_iconst C dX11_readGrounds_81 k_i1 ?_
      refine r_iadd C dX11_readGrounds_82 ?_
      refine r_cvi (As := [.int (x1 + (1 : Int32))]) (st := [.int x4, p_rf g q2]) C wv_X11_108 (tcX7_digitAt K.2.1 g hg q6 (x1 + (1 : Int32)) h5) (Nat.le_of_ble_eq_true rfl) rfl rfl (Nat.le_of_ble_eq_true rfl) dX11_readGrounds_83 ⟨Nat.le_of_ble_eq_true rfl, Nat.le_of_ble_eq_true rfl⟩ (fun x7 h8 => ?_)
      refine r_cvv (As := [.int x4, .int x7]) (st := []) C wv_X11_112 (tcX8_putStock K.2.1 g hg q2 x4 x7 h8) (Nat.le_of_ble_eq_true rfl) rfl rfl (Nat.le_of_ble_eq_true rfl) dX11_readGrounds_86 ⟨Nat.le_of_ble_eq_true rfl, Nat.le_of_ble_eq_true rfl⟩ (fun h9 => ?_)
      refine r_aload_n C dX11_readGrounds_89 1 rfl ?_
      refine r_gr C wf_X11_73_10 dX11_readGrounds_90 (fun q10 => ?_)
      refine r_aload_n C dX11_readGrounds_93 1 rfl ?_
      refine r_gr C wf_X11_10_10 dX11_readGrounds_94 (fun q11 => ?_)
      refine r_iload C dX11_readGrounds_97 0 rfl ?_
      refine r_cvv (As := [p_rf g q11, .int x1]) (st := []) C wv_X11_116 (tcX0_addGround K.2.1 g hg q10 q11 x1 h9) (Nat.le_of_ble_eq_true rfl) rfl rfl (Nat.le_of_ble_eq_true rfl) dX11_readGrounds_99 ⟨Nat.le_of_ble_eq_true rfl, Nat.le_of_ble_eq_true rfl⟩ (fun h12 => ?_)
      refine r_iinc (lv' := [(4, .int x1), (0, p_rf g o0), (2, .int i2)]) C dX11_readGrounds_102 3 rfl k_i1 (by decide) (fun _ => rfl) (fun x13 => ?_)
      refine r_goto (tgt := 53) C dX11_readGrounds_105 (by decide) ?_
      refine r_perm (lv' := [(0, p_rf g o0), (2, .int i2), (3, .int x13)]) [2, 3, 0] rfl ?_
      exact ih x13 h12
set_option maxRecDepth 100000 in
set_option maxHeartbeats 4000000 in
theorem tcX11_readGrounds (l : Launch) (g : WG) (hg : p_al g = false) (o0 : Nat) (h : PH) : CT l g 5 0 0 yX11_readGrounds cX11_readGrounds 5 (some .int) em_i [p_rf g o0] h (fX11_readGrounds o0 h) := by
  refine CT_of (own := RX11) (nm := "readGrounds") (by decide +kernel) (Nat.le_of_ble_eq_true rfl) rfl rfl rfl ⟨rfl, rfl⟩ (fun K hK C => ?_)
  subst hK
  unfold fX11_readGrounds
  show VX K g _ _ _ _ _ [(0, p_rf g o0)] _ _ _
  refine r_aload_n C dX11_readGrounds_0 0 rfl ?_
  refine r_gr C wf_X11_10_10 dX11_readGrounds_1 (fun q1 => ?_)
  refine r_cvi (As := []) (st := []) C wv_X11_88 (tcX7_size K.2.1 g hg q1 h) (Nat.le_of_ble_eq_true rfl) rfl rfl (Nat.le_of_ble_eq_true rfl) dX11_readGrounds_4 ⟨Nat.le_of_ble_eq_true rfl, Nat.le_of_ble_eq_true rfl⟩ (fun x2 h3 => ?_)
  refine r_if_ne (tgt := 12) C dX11_readGrounds_7 (by decide) ?_ ?_
  · refine r_aload_n C dX11_readGrounds_12 0 rfl ?_
    refine r_gr C wf_X11_21_10 dX11_readGrounds_13 (fun q4 => ?_)
    refine r_aload_n C dX11_readGrounds_16 0 rfl ?_
    refine r_gr C wf_X11_10_10 dX11_readGrounds_17 (fun q5 => ?_)
    refine r_bipush C dX11_readGrounds_20 k_b8 ?_
    refine r_aload_n C dX11_readGrounds_22 0 rfl ?_
    refine r_gr C wf_X11_73_10 dX11_readGrounds_23 (fun q6 => ?_)
    refine r_cvi (As := []) (st := [.int (8 : Int32), p_rf g q5, p_rf g q4]) C wv_X11_98 (tcX0_groundSize K.2.1 g hg q6 h3) (Nat.le_of_ble_eq_true rfl) rfl rfl (Nat.le_of_ble_eq_true rfl) dX11_readGrounds_26 ⟨Nat.le_of_ble_eq_true rfl, Nat.le_of_ble_eq_true rfl⟩ (fun x7 h8 => ?_)
    refine r_isub C dX11_readGrounds_29 ?_
    refine r_cui (As := [p_rf g q5, .int ((8 : Int32) - x7)]) (st := []) C wu_X11_101_X2 (tcX1_slip_X2 K.2.1 g hg q4 q5 ((8 : Int32) - x7) h8) (Nat.le_of_ble_eq_true rfl) rfl rfl (Nat.le_of_ble_eq_true rfl) dX11_readGrounds_30 ⟨Nat.le_of_ble_eq_true rfl, Nat.le_of_ble_eq_true rfl⟩ (fun x9 h10 => ?_)
    refine r_istore_n (lv9 := [(1, .int x9), (0, p_rf g o0)]) C dX11_readGrounds_33 (by decide) rfl ?_
    refine r_iload_n C dX11_readGrounds_34 0 rfl ?_
    refine r_iconst C dX11_readGrounds_35 k_im1 ?_
    refine r_icmp_eq (tgt := 43) C dX11_readGrounds_36 (by decide) ?_ ?_
    · refine r_aload_n C dX11_readGrounds_43 1 rfl ?_
      refine r_gr C wf_X11_21_10 dX11_readGrounds_44 (fun q11 => ?_)
      refine r_cvi (As := []) (st := []) C wv_X11_105 (tcX2_lines K.2.1 g hg q11 h10) (Nat.le_of_ble_eq_true rfl) rfl rfl (Nat.le_of_ble_eq_true rfl) dX11_readGrounds_47 ⟨Nat.le_of_ble_eq_true rfl, Nat.le_of_ble_eq_true rfl⟩ (fun x12 h13 => ?_)
      refine r_istore_n (lv9 := [(2, .int x12), (1, .int x9), (0, p_rf g o0)]) C dX11_readGrounds_50 (by decide) rfl ?_
      refine r_iconst C dX11_readGrounds_51 k_i0 ?_
      refine r_istore_n (lv9 := [(3, .int (0 : Int32)), (2, .int x12), (1, .int x9), (0, p_rf g o0)]) C dX11_readGrounds_52 (by decide) rfl ?_
      refine r_perm (lv' := [(0, p_rf g o0), (2, .int x12), (3, .int (0 : Int32))]) [3, 1, 0] rfl ?_
      refine tX11_readGrounds_L53 hg C o0 x12 (fun h14 => ?_) FU (0 : Int32) h13
      refine r_aload_n C dX11_readGrounds_108 0 rfl ?_
      refine r_gr C wf_X11_45_10 dX11_readGrounds_109 (fun q15 => ?_)
      refine r_cvv (As := []) (st := []) C wv_X11_120 (tcX5_forgetAll K.2.1 g hg q15 h14) (Nat.le_of_ble_eq_true rfl) rfl rfl (Nat.le_of_ble_eq_true rfl) dX11_readGrounds_112 ⟨Nat.le_of_ble_eq_true rfl, Nat.le_of_ble_eq_true rfl⟩ (fun h16 => ?_)
      refine r_iload_n C dX11_readGrounds_115 1 rfl ?_
      exact r_iret C dX11_readGrounds_116
    · refine r_iconst C dX11_readGrounds_39 k_im1 ?_
      refine r_iload_n C dX11_readGrounds_40 0 rfl ?_
      refine r_isub C dX11_readGrounds_41 ?_
      exact r_iret C dX11_readGrounds_42
  · refine r_iconst C dX11_readGrounds_10 k_i0 ?_
    exact r_iret C dX11_readGrounds_11
set_option maxRecDepth 100000 in
set_option maxHeartbeats 4000000 in
theorem tcX11_grounds (l : Launch) (g : WG) (hg : p_al g = false) (o0 : Nat) (h : PH) : CT l g 6 0 0 yX11_grounds cX11_grounds 2 (some .int) em_i [p_rf g o0] h (fX11_grounds o0 h) := by
  refine CT_of (own := RX11) (nm := "grounds") (by decide +kernel) (Nat.le_of_ble_eq_true rfl) rfl rfl rfl ⟨rfl, rfl⟩ (fun K hK C => ?_)
  subst hK
  unfold fX11_grounds
  show VX K g _ _ _ _ _ [(0, p_rf g o0)] _ _ _
  refine r_aload_n C dX11_grounds_0 0 rfl ?_
  refine r_cvi (As := []) (st := []) C wv_X11_95 (tcX11_readGrounds K.2.1 g hg o0 h) (Nat.le_of_ble_eq_true rfl) rfl rfl (Nat.le_of_ble_eq_true rfl) dX11_grounds_1 ⟨Nat.le_of_ble_eq_true rfl, Nat.le_of_ble_eq_true rfl⟩ (fun x1 h2 => ?_)
  refine r_istore_n (lv9 := [(1, .int x1), (0, p_rf g o0)]) C dX11_grounds_4 (by decide) rfl ?_
  refine r_aload_n C dX11_grounds_5 1 rfl ?_
  refine r_gr C wf_X11_10_10 dX11_grounds_6 (fun q3 => ?_)
  refine r_iconst C dX11_grounds_9 k_i0 ?_
  refine r_cvi (As := [.int (0 : Int32)]) (st := []) C wv_X11_92 (tcX7_cut K.2.1 g hg q3 (0 : Int32) h2) (Nat.le_of_ble_eq_true rfl) rfl rfl (Nat.le_of_ble_eq_true rfl) dX11_grounds_10 ⟨Nat.le_of_ble_eq_true rfl, Nat.le_of_ble_eq_true rfl⟩ (fun x4 h5 => ?_)
  refine r_pop C dX11_grounds_13 rfl ?_
  refine r_iload_n C dX11_grounds_14 0 rfl ?_
  exact r_iret C dX11_grounds_15
set_option maxRecDepth 100000 in
set_option maxHeartbeats 4000000 in
theorem tX11_readPeople_L67 {K : AC} {g : WG} (hg : p_al g = false)  (C : Cx K g cX11_readPeople 6 RX11 (some .int) "readPeople" 5 0 0) (o0 : Nat) (i2 : Int32) (i3 : Int32) (i4 : Int32) {kx : PH → Option (Int32 × PH)} (hk : ∀  (h : PH), VX K g 6 0 0 (a_fin K g 0 0 em_i) 109 [(0, p_rf g o0), (2, .int i2), (3, .int i3), (4, .int i4)] [] h (kx h)) : ∀ (n : Nat) (i5 : Int32) (h : PH), VX K g 6 0 0 (a_fin K g 0 0 em_i) 67 [(0, p_rf g o0), (2, .int i2), (3, .int i3), (4, .int i4), (5, .int i5)] [] h (fX11_readPeople_L67 o0 i2 i3 i4 kx n i5 h) := by
  intro n
  induction n with
  | zero =>
    intros
    exact r_none
  | succ n ih =>
    intro i5 h
    rw [fX11_readPeople_L67]
    refine r_iload C dX11_readPeople_67 4 rfl ?_
    refine r_iconst C dX11_readPeople_69 k_i4 ?_
    refine r_icmp_ge (tgt := 109) C dX11_readPeople_70 (by decide) ?_ ?_
    · refine r_perm (lv' := [(0, p_rf g o0), (2, .int i2), (3, .int i3), (4, .int i4)]) [0, 1, 2, 3] rfl ?_
      exact hk h
    · refine r_aload_n C dX11_readPeople_73 0 rfl ?_
      refine r_gr C wf_X11_77_10 dX11_readPeople_74 (fun q1 => ?_)
      refine r_aload_n C dX11_readPeople_77 0 rfl ?_
      refine r_gr C wf_X11_73_10 dX11_readPeople_78 (fun q2 => ?_)
      refine r_cvi (As := []) (st := [p_rf g q1]) C wv_X11_126 (tcX0_personSize K.2.1 g hg q2 h) (Nat.le_of_ble_eq_true rfl) rfl rfl (Nat.le_of_ble_eq_true rfl) dX11_readPeople_81 ⟨Nat.le_of_ble_eq_true rfl, Nat.le_of_ble_eq_true rfl⟩ (fun x3 h4 => ?_)
      refine r_iload C dX11_readPeople_84 4 rfl ?_
      refine r_aload_n C dX11_readPeople_86 0 rfl ?_
      refine r_gr C wf_X11_10_10 dX11_readPeople_87 (fun q5 => ?_)
      refine r_iload C dX11_readPeople_90 3 rfl ?_
      refine r_iconst C dX11_readPeople_92 k_i1 ?_
      refine r_iadd C dX11_readPeople_93 ?_
      refine r_iload C dX11_readPeople_94 4 rfl ?_
      refine r_iadd C dX11_readPeople_96 ?_
      refine r_cvi (As := [.int ((i4 + (1 : Int32)) + i5)]) (st := [.int i5, .int x3, p_rf g q1]) C wv_X11_108 (tcX7_digitAt K.2.1 g hg q5 ((i4 + (1 : Int32)) + i5) h4) (Nat.le_of_ble_eq_true rfl) rfl rfl (Nat.le_of_ble_eq_true rfl) dX11_readPeople_97 ⟨Nat.le_of_ble_eq_true rfl, Nat.le_of_ble_eq_true rfl⟩ (fun x6 h7 => ?_)
      refine r_cvv (As := [.int x3, .int i5, .int x6]) (st := []) C wv_X11_129 (tcX8_putHumour K.2.1 g hg q1 x3 i5 x6 h7) (Nat.le_of_ble_eq_true rfl) rfl rfl (Nat.le_of_ble_eq_true rfl) dX11_readPeople_100 ⟨Nat.le_of_ble_eq_true rfl, Nat.le_of_ble_eq_true rfl⟩ (fun h8 => ?_)
      refine r_iinc (lv' := [(0, p_rf g o0), (2, .int i2), (3, .int i3), (4, .int i4)]) C dX11_readPeople_103 4 rfl k_i1 (by decide) (fun _ => rfl) (fun x9 => ?_)
      refine r_goto (tgt := 67) C dX11_readPeople_106 (by decide) ?_
      refine r_perm (lv' := [(0, p_rf g o0), (2, .int i2), (3, .int i3), (4, .int i4), (5, .int x9)]) [1, 2, 3, 4, 0] rfl ?_
      exact ih x9 h8
set_option maxRecDepth 100000 in
set_option maxHeartbeats 4000000 in
theorem tX11_readPeople_L53 {K : AC} {g : WG} (hg : p_al g = false)  (C : Cx K g cX11_readPeople 6 RX11 (some .int) "readPeople" 5 0 0) (o0 : Nat) (i2 : Int32) {kx : PH → Option (Int32 × PH)} (hk : ∀  (h : PH), VX K g 6 0 0 (a_fin K g 0 0 em_i) 131 [(0, p_rf g o0), (2, .int i2)] [] h (kx h)) : ∀ (n : Nat) (i3 : Int32) (h : PH), VX K g 6 0 0 (a_fin K g 0 0 em_i) 53 [(0, p_rf g o0), (2, .int i2), (3, .int i3)] [] h (fX11_readPeople_L53 o0 i2 kx n i3 h) := by
  intro n
  induction n with
  | zero =>
    intros
    exact r_none
  | succ n ih =>
    intro i3 h
    rw [fX11_readPeople_L53]
    refine r_iload_n C dX11_readPeople_53 2 rfl ?_
    refine r_iload_n C dX11_readPeople_54 1 rfl ?_
    refine r_icmp_ge (tgt := 131) C dX11_readPeople_55 (by decide) ?_ ?_
    · refine r_perm (lv' := [(0, p_rf g o0), (2, .int i2)]) [0, 1] rfl ?_
      exact hk h
    · refine r_iload_n C dX11_readPeople_58 2 rfl ?_
      refine r_bipush C dX11_readPeople_59 k_b6 ?_
      refine r_imul C dX11_readPeople_61 ?_
      refine r_topi (fun x1 => ?_)
      refine r_istore (lv9 := [(4, .int x1), (0, p_rf g o0), (2, .int i2), (3, .int i3)]) C dX11_readPeople_62 (by decide) rfl ?_
      refine r_iconst C dX11_readPeople_64 k_i0 ?_
      refine r_istore (lv9 := [(5, .int (0 : Int32)), (4, .int x1), (0, p_rf g o0), (2, .int i2), (3, .int i3)]) C dX11_readPeople_65 (by decide) rfl ?_
      refine r_perm (lv' := [(0, p_rf g o0), (2, .int i2), (3, .int i3), (4, .int x1), (5, .int (0 : Int32))]) [2, 3, 4, 1, 0] rfl ?_
      refine tX11_readPeople_L67 hg C o0 i2 i3 x1 (fun h2 => ?_) FU (0 : Int32) h
      refine r_aload_n C dX11_readPeople_109 0 rfl ?_
      refine r_gr C wf_X11_73_10 dX11_readPeople_110 (fun q3 => ?_)
      refine r_aload_n C dX11_readPeople_113 0 rfl ?_
      refine r_gr C wf_X11_10_10 dX11_readPeople_114 (fun q4 => ?_)
      refine r_iload C dX11_readPeople_117 3 rfl ?_
      refine r_cvi (As := [.int x1]) (st := [p_rf g q3]) C wv_X11_108 (tcX7_digitAt K.2.1 g hg q4 x1 h2) (Nat.le_of_ble_eq_true rfl) rfl rfl (Nat.le_of_ble_eq_true rfl) dX11_readPeople_119 ⟨Nat.le_of_ble_eq_true rfl, Nat.le_of_ble_eq_true rfl⟩ (fun x5 h6 => ?_)
      refine r_cvv (As := [.int x5]) (st := []) C wv_X11_132 (tcX0_addPerson K.2.1 g hg q3 x5 h6) (Nat.le_of_ble_eq_true rfl) rfl rfl (Nat.le_of_ble_eq_true rfl) dX11_readPeople_122 ⟨Nat.le_of_ble_eq_true rfl, Nat.le_of_ble_eq_true rfl⟩ (fun h7 => ?_)
      refine r_iinc (lv' := [(0, p_rf g o0), (2, .int i2), (4, .int x1)]) C dX11_readPeople_125 2 rfl k_i1 (by decide) (fun _ => rfl) (fun x8 => ?_)
      refine r_goto (tgt := 53) C dX11_readPeople_128 (by decide) ?_
      refine r_perm (lv' := [(0, p_rf g o0), (2, .int i2), (3, .int x8)]) [1, 2, 0] rfl ?_
      exact ih x8 h7
set_option maxRecDepth 100000 in
set_option maxHeartbeats 4000000 in
theorem tcX11_readPeople (l : Launch) (g : WG) (hg : p_al g = false) (o0 : Nat) (h : PH) : CT l g 5 0 0 yX11_readPeople cX11_readPeople 6 (some .int) em_i [p_rf g o0] h (fX11_readPeople o0 h) := by
  refine CT_of (own := RX11) (nm := "readPeople") (by decide +kernel) (Nat.le_of_ble_eq_true rfl) rfl rfl rfl ⟨rfl, rfl⟩ (fun K hK C => ?_)
  subst hK
  unfold fX11_readPeople
  show VX K g _ _ _ _ _ [(0, p_rf g o0)] _ _ _
  refine r_aload_n C dX11_readPeople_0 0 rfl ?_
  refine r_gr C wf_X11_10_10 dX11_readPeople_1 (fun q1 => ?_)
  refine r_cvi (As := []) (st := []) C wv_X11_88 (tcX7_size K.2.1 g hg q1 h) (Nat.le_of_ble_eq_true rfl) rfl rfl (Nat.le_of_ble_eq_true rfl) dX11_readPeople_4 ⟨Nat.le_of_ble_eq_true rfl, Nat.le_of_ble_eq_true rfl⟩ (fun x2 h3 => ?_)
  refine r_if_ne (tgt := 12) C dX11_readPeople_7 (by decide) ?_ ?_
  · refine r_aload_n C dX11_readPeople_12 0 rfl ?_
    refine r_gr C wf_X11_25_10 dX11_readPeople_13 (fun q4 => ?_)
    refine r_aload_n C dX11_readPeople_16 0 rfl ?_
    refine r_gr C wf_X11_10_10 dX11_readPeople_17 (fun q5 => ?_)
    refine r_bipush C dX11_readPeople_20 k_b6 ?_
    refine r_aload_n C dX11_readPeople_22 0 rfl ?_
    refine r_gr C wf_X11_73_10 dX11_readPeople_23 (fun q6 => ?_)
    refine r_cvi (As := []) (st := [.int (6 : Int32), p_rf g q5, p_rf g q4]) C wv_X11_126 (tcX0_personSize K.2.1 g hg q6 h3) (Nat.le_of_ble_eq_true rfl) rfl rfl (Nat.le_of_ble_eq_true rfl) dX11_readPeople_26 ⟨Nat.le_of_ble_eq_true rfl, Nat.le_of_ble_eq_true rfl⟩ (fun x7 h8 => ?_)
    refine r_isub C dX11_readPeople_29 ?_
    refine r_cui (As := [p_rf g q5, .int ((6 : Int32) - x7)]) (st := []) C wu_X11_101_X2 (tcX1_slip_X2 K.2.1 g hg q4 q5 ((6 : Int32) - x7) h8) (Nat.le_of_ble_eq_true rfl) rfl rfl (Nat.le_of_ble_eq_true rfl) dX11_readPeople_30 ⟨Nat.le_of_ble_eq_true rfl, Nat.le_of_ble_eq_true rfl⟩ (fun x9 h10 => ?_)
    refine r_istore_n (lv9 := [(1, .int x9), (0, p_rf g o0)]) C dX11_readPeople_33 (by decide) rfl ?_
    refine r_iload_n C dX11_readPeople_34 0 rfl ?_
    refine r_iconst C dX11_readPeople_35 k_im1 ?_
    refine r_icmp_eq (tgt := 43) C dX11_readPeople_36 (by decide) ?_ ?_
    · refine r_aload_n C dX11_readPeople_43 1 rfl ?_
      refine r_gr C wf_X11_25_10 dX11_readPeople_44 (fun q11 => ?_)
      refine r_cvi (As := []) (st := []) C wv_X11_105 (tcX2_lines K.2.1 g hg q11 h10) (Nat.le_of_ble_eq_true rfl) rfl rfl (Nat.le_of_ble_eq_true rfl) dX11_readPeople_47 ⟨Nat.le_of_ble_eq_true rfl, Nat.le_of_ble_eq_true rfl⟩ (fun x12 h13 => ?_)
      refine r_istore_n (lv9 := [(2, .int x12), (1, .int x9), (0, p_rf g o0)]) C dX11_readPeople_50 (by decide) rfl ?_
      refine r_iconst C dX11_readPeople_51 k_i0 ?_
      refine r_istore_n (lv9 := [(3, .int (0 : Int32)), (2, .int x12), (1, .int x9), (0, p_rf g o0)]) C dX11_readPeople_52 (by decide) rfl ?_
      refine r_perm (lv' := [(0, p_rf g o0), (2, .int x12), (3, .int (0 : Int32))]) [3, 1, 0] rfl ?_
      refine tX11_readPeople_L53 hg C o0 x12 (fun h14 => ?_) FU (0 : Int32) h13
      refine r_aload_n C dX11_readPeople_131 0 rfl ?_
      refine r_gr C wf_X11_45_10 dX11_readPeople_132 (fun q15 => ?_)
      refine r_cvv (As := []) (st := []) C wv_X11_120 (tcX5_forgetAll K.2.1 g hg q15 h14) (Nat.le_of_ble_eq_true rfl) rfl rfl (Nat.le_of_ble_eq_true rfl) dX11_readPeople_135 ⟨Nat.le_of_ble_eq_true rfl, Nat.le_of_ble_eq_true rfl⟩ (fun h16 => ?_)
      refine r_iload_n C dX11_readPeople_138 1 rfl ?_
      exact r_iret C dX11_readPeople_139
    · refine r_iconst C dX11_readPeople_39 k_im1 ?_
      refine r_iload_n C dX11_readPeople_40 0 rfl ?_
      refine r_isub C dX11_readPeople_41 ?_
      exact r_iret C dX11_readPeople_42
  · refine r_iconst C dX11_readPeople_10 k_i0 ?_
    exact r_iret C dX11_readPeople_11
set_option maxRecDepth 100000 in
set_option maxHeartbeats 4000000 in
theorem tcX11_people (l : Launch) (g : WG) (hg : p_al g = false) (o0 : Nat) (h : PH) : CT l g 6 0 0 yX11_people cX11_people 2 (some .int) em_i [p_rf g o0] h (fX11_people o0 h) := by
  refine CT_of (own := RX11) (nm := "people") (by decide +kernel) (Nat.le_of_ble_eq_true rfl) rfl rfl rfl ⟨rfl, rfl⟩ (fun K hK C => ?_)
  subst hK
  unfold fX11_people
  show VX K g _ _ _ _ _ [(0, p_rf g o0)] _ _ _
  refine r_aload_n C dX11_people_0 0 rfl ?_
  refine r_cvi (As := []) (st := []) C wv_X11_123 (tcX11_readPeople K.2.1 g hg o0 h) (Nat.le_of_ble_eq_true rfl) rfl rfl (Nat.le_of_ble_eq_true rfl) dX11_people_1 ⟨Nat.le_of_ble_eq_true rfl, Nat.le_of_ble_eq_true rfl⟩ (fun x1 h2 => ?_)
  refine r_istore_n (lv9 := [(1, .int x1), (0, p_rf g o0)]) C dX11_people_4 (by decide) rfl ?_
  refine r_aload_n C dX11_people_5 1 rfl ?_
  refine r_gr C wf_X11_10_10 dX11_people_6 (fun q3 => ?_)
  refine r_iconst C dX11_people_9 k_i0 ?_
  refine r_cvi (As := [.int (0 : Int32)]) (st := []) C wv_X11_92 (tcX7_cut K.2.1 g hg q3 (0 : Int32) h2) (Nat.le_of_ble_eq_true rfl) rfl rfl (Nat.le_of_ble_eq_true rfl) dX11_people_10 ⟨Nat.le_of_ble_eq_true rfl, Nat.le_of_ble_eq_true rfl⟩ (fun x4 h5 => ?_)
  refine r_pop C dX11_people_13 rfl ?_
  refine r_iload_n C dX11_people_14 0 rfl ?_
  exact r_iret C dX11_people_15
set_option maxRecDepth 100000 in
set_option maxHeartbeats 4000000 in
theorem tcX11_readWants (l : Launch) (g : WG) (hg : p_al g = false) (o0 : Nat) (h : PH) : CT l g 6 0 0 yX11_readWants cX11_readWants 2 (some .int) em_i [p_rf g o0] h (fX11_readWants o0 h) := by
  refine CT_of (own := RX11) (nm := "readWants") (by decide +kernel) (Nat.le_of_ble_eq_true rfl) rfl rfl rfl ⟨rfl, rfl⟩ (fun K hK C => ?_)
  subst hK
  unfold fX11_readWants
  show VX K g _ _ _ _ _ [(0, p_rf g o0)] _ _ _
  refine r_aload_n C dX11_readWants_0 0 rfl ?_
  refine r_gr C wf_X11_10_10 dX11_readWants_1 (fun q1 => ?_)
  refine r_cvi (As := []) (st := []) C wv_X11_88 (tcX7_size K.2.1 g hg q1 h) (Nat.le_of_ble_eq_true rfl) rfl rfl (Nat.le_of_ble_eq_true rfl) dX11_readWants_4 ⟨Nat.le_of_ble_eq_true rfl, Nat.le_of_ble_eq_true rfl⟩ (fun x2 h3 => ?_)
  refine r_if_ne (tgt := 12) C dX11_readWants_7 (by decide) ?_ ?_
  · refine r_aload_n C dX11_readWants_12 0 rfl ?_
    refine r_gr C wf_X11_31_10 dX11_readWants_13 (fun q4 => ?_)
    refine r_aload_n C dX11_readWants_16 0 rfl ?_
    refine r_gr C wf_X11_10_10 dX11_readWants_17 (fun q5 => ?_)
    refine r_bipush C dX11_readWants_20 k_b6 ?_
    refine r_aload_n C dX11_readWants_22 0 rfl ?_
    refine r_gr C wf_X11_73_10 dX11_readWants_23 (fun q6 => ?_)
    refine r_cvi (As := []) (st := [.int (6 : Int32), p_rf g q5, p_rf g q4]) C wv_X11_139 (tcX0_wantSize K.2.1 g hg q6 h3) (Nat.le_of_ble_eq_true rfl) rfl rfl (Nat.le_of_ble_eq_true rfl) dX11_readWants_26 ⟨Nat.le_of_ble_eq_true rfl, Nat.le_of_ble_eq_true rfl⟩ (fun x7 h8 => ?_)
    refine r_isub C dX11_readWants_29 ?_
    refine r_cui (As := [p_rf g q5, .int ((6 : Int32) - x7)]) (st := []) C wu_X11_142_X9 (tcX1_slip_X9 K.2.1 g hg q4 q5 ((6 : Int32) - x7) h8) (Nat.le_of_ble_eq_true rfl) rfl rfl (Nat.le_of_ble_eq_true rfl) dX11_readWants_30 ⟨Nat.le_of_ble_eq_true rfl, Nat.le_of_ble_eq_true rfl⟩ (fun x9 h10 => ?_)
    refine r_istore_n (lv9 := [(1, .int x9), (0, p_rf g o0)]) C dX11_readWants_33 (by decide) rfl ?_
    refine r_iload_n C dX11_readWants_34 0 rfl ?_
    refine r_iconst C dX11_readWants_35 k_im1 ?_
    refine r_icmp_eq (tgt := 43) C dX11_readWants_36 (by decide) ?_ ?_
    · refine r_aload_n C dX11_readWants_43 1 rfl ?_
      refine r_gr C wf_X11_73_10 dX11_readWants_44 (fun q11 => ?_)
      refine r_aload_n C dX11_readWants_47 1 rfl ?_
      refine r_gr C wf_X11_10_10 dX11_readWants_48 (fun q12 => ?_)
      refine r_cvv (As := [p_rf g q12]) (st := []) C wv_X11_143 (tcX0_addWants K.2.1 g hg q11 q12 h10) (Nat.le_of_ble_eq_true rfl) rfl rfl (Nat.le_of_ble_eq_true rfl) dX11_readWants_51 ⟨Nat.le_of_ble_eq_true rfl, Nat.le_of_ble_eq_true rfl⟩ (fun h13 => ?_)
      refine r_aload_n C dX11_readWants_54 1 rfl ?_
      refine r_gr C wf_X11_45_10 dX11_readWants_55 (fun q14 => ?_)
      refine r_cvv (As := []) (st := []) C wv_X11_120 (tcX5_forgetAll K.2.1 g hg q14 h13) (Nat.le_of_ble_eq_true rfl) rfl rfl (Nat.le_of_ble_eq_true rfl) dX11_readWants_58 ⟨Nat.le_of_ble_eq_true rfl, Nat.le_of_ble_eq_true rfl⟩ (fun h15 => ?_)
      refine r_aload_n C dX11_readWants_61 1 rfl ?_
      refine r_gr C wf_X11_31_10 dX11_readWants_62 (fun q16 => ?_)
      refine r_cvi (As := []) (st := []) C wv_X11_147 (tcX9_lines K.2.1 g hg q16 h15) (Nat.le_of_ble_eq_true rfl) rfl rfl (Nat.le_of_ble_eq_true rfl) dX11_readWants_65 ⟨Nat.le_of_ble_eq_true rfl, Nat.le_of_ble_eq_true rfl⟩ (fun x17 h18 => ?_)
      exact r_iret C dX11_readWants_68
    · refine r_iconst C dX11_readWants_39 k_im1 ?_
      refine r_iload_n C dX11_readWants_40 0 rfl ?_
      refine r_isub C dX11_readWants_41 ?_
      exact r_iret C dX11_readWants_42
  · refine r_iconst C dX11_readWants_10 k_i0 ?_
    exact r_iret C dX11_readWants_11
set_option maxRecDepth 100000 in
set_option maxHeartbeats 4000000 in
theorem tcX11_wants (l : Launch) (g : WG) (hg : p_al g = false) (o0 : Nat) (h : PH) : CT l g 7 0 0 yX11_wants cX11_wants 2 (some .int) em_i [p_rf g o0] h (fX11_wants o0 h) := by
  refine CT_of (own := RX11) (nm := "wants") (by decide +kernel) (Nat.le_of_ble_eq_true rfl) rfl rfl rfl ⟨rfl, rfl⟩ (fun K hK C => ?_)
  subst hK
  unfold fX11_wants
  show VX K g _ _ _ _ _ [(0, p_rf g o0)] _ _ _
  refine r_aload_n C dX11_wants_0 0 rfl ?_
  refine r_cvi (As := []) (st := []) C wv_X11_136 (tcX11_readWants K.2.1 g hg o0 h) (Nat.le_of_ble_eq_true rfl) rfl rfl (Nat.le_of_ble_eq_true rfl) dX11_wants_1 ⟨Nat.le_of_ble_eq_true rfl, Nat.le_of_ble_eq_true rfl⟩ (fun x1 h2 => ?_)
  refine r_istore_n (lv9 := [(1, .int x1), (0, p_rf g o0)]) C dX11_wants_4 (by decide) rfl ?_
  refine r_aload_n C dX11_wants_5 1 rfl ?_
  refine r_gr C wf_X11_10_10 dX11_wants_6 (fun q3 => ?_)
  refine r_iconst C dX11_wants_9 k_i0 ?_
  refine r_cvi (As := [.int (0 : Int32)]) (st := []) C wv_X11_92 (tcX7_cut K.2.1 g hg q3 (0 : Int32) h2) (Nat.le_of_ble_eq_true rfl) rfl rfl (Nat.le_of_ble_eq_true rfl) dX11_wants_10 ⟨Nat.le_of_ble_eq_true rfl, Nat.le_of_ble_eq_true rfl⟩ (fun x4 h5 => ?_)
  refine r_pop C dX11_wants_13 rfl ?_
  refine r_iload_n C dX11_wants_14 0 rfl ?_
  exact r_iret C dX11_wants_15
set_option maxRecDepth 100000 in
set_option maxHeartbeats 4000000 in
theorem tcX11_rule (l : Launch) (g : WG) (hg : p_al g = false) (o0 : Nat) (h : PH) : CT l g 9 0 0 yX11_rule cX11_rule 2 (some .int) em_i [p_rf g o0] h (fX11_rule o0 h) := by
  refine CT_of (own := RX11) (nm := "rule") (by decide +kernel) (Nat.le_of_ble_eq_true rfl) rfl rfl rfl ⟨rfl, rfl⟩ (fun K hK C => ?_)
  subst hK
  unfold fX11_rule
  show VX K g _ _ _ _ _ [(0, p_rf g o0)] _ _ _
  refine r_aload_n C dX11_rule_0 0 rfl ?_
  refine r_gr C wf_X11_73_10 dX11_rule_1 (fun q1 => ?_)
  refine r_cvr (As := []) (st := []) C wv_X11_148 (tcX0_otherRule K.2.1 g hg q1 h) (Nat.le_of_ble_eq_true rfl) rfl rfl (Nat.le_of_ble_eq_true rfl) dX11_rule_4 ⟨Nat.le_of_ble_eq_true rfl, Nat.le_of_ble_eq_true rfl⟩ (fun q2 h3 => ?_)
  refine r_aload_n C dX11_rule_7 0 rfl ?_
  refine r_gr C wf_X11_10_10 dX11_rule_8 (fun q4 => ?_)
  refine r_cvi (As := [p_rf g q4]) (st := []) C wv_X11_152 (tcX6_read K.2.1 g hg q2 q4 h3) (Nat.le_of_ble_eq_true rfl) rfl rfl (Nat.le_of_ble_eq_true rfl) dX11_rule_11 ⟨Nat.le_of_ble_eq_true rfl, Nat.le_of_ble_eq_true rfl⟩ (fun x5 h6 => ?_)
  refine r_istore_n (lv9 := [(1, .int x5), (0, p_rf g o0)]) C dX11_rule_14 (by decide) rfl ?_
  refine r_aload_n C dX11_rule_15 1 rfl ?_
  refine r_gr C wf_X11_10_10 dX11_rule_16 (fun q7 => ?_)
  refine r_iconst C dX11_rule_19 k_i0 ?_
  refine r_cvi (As := [.int (0 : Int32)]) (st := []) C wv_X11_92 (tcX7_cut K.2.1 g hg q7 (0 : Int32) h6) (Nat.le_of_ble_eq_true rfl) rfl rfl (Nat.le_of_ble_eq_true rfl) dX11_rule_20 ⟨Nat.le_of_ble_eq_true rfl, Nat.le_of_ble_eq_true rfl⟩ (fun x8 h9 => ?_)
  refine r_pop C dX11_rule_23 rfl ?_
  refine r_iload_n C dX11_rule_24 0 rfl ?_
  refine r_iconst C dX11_rule_25 k_im1 ?_
  refine r_icmp_eq (tgt := 33) C dX11_rule_26 (by decide) ?_ ?_
  · refine r_aload_n C dX11_rule_33 1 rfl ?_
    refine r_gr C wf_X11_73_10 dX11_rule_34 (fun q10 => ?_)
    refine r_cvv (As := []) (st := []) C wv_X11_158 (tcX0_takeOtherRule K.2.1 g hg q10 h9) (Nat.le_of_ble_eq_true rfl) rfl rfl (Nat.le_of_ble_eq_true rfl) dX11_rule_37 ⟨Nat.le_of_ble_eq_true rfl, Nat.le_of_ble_eq_true rfl⟩ (fun h11 => ?_)
    refine r_iconst C dX11_rule_40 k_i0 ?_
    exact r_iret C dX11_rule_41
  · refine r_iconst C dX11_rule_29 k_im1 ?_
    refine r_iload_n C dX11_rule_30 0 rfl ?_
    refine r_isub C dX11_rule_31 ?_
    exact r_iret C dX11_rule_32
set_option maxRecDepth 100000 in
set_option maxHeartbeats 4000000 in
theorem tX11_ground_J21 {K : AC} {g : WG} (hg : p_al g = false)  (C : Cx K g cX11_ground 3 RX11 (some .int) "ground" 4 0 0)   (h : PH) : VX K g 3 0 0 (a_fin K g 0 0 em_i) 21 [] [] h (fX11_ground_J21  h) := by
  unfold fX11_ground_J21
  exact r_none
set_option maxRecDepth 100000 in
set_option maxHeartbeats 4000000 in
theorem tcX11_ground (l : Launch) (g : WG) (hg : p_al g = false) (o0 : Nat) (i1 : Int32) (i2 : Int32) (h : PH) : CT l g 4 0 0 yX11_ground cX11_ground 3 (some .int) em_i [p_rf g o0, .int i1, .int i2] h (fX11_ground o0 i1 i2 h) := by
  refine CT_of (own := RX11) (nm := "ground") (by decide +kernel) (Nat.le_of_ble_eq_true rfl) rfl rfl rfl ⟨rfl, rfl⟩ (fun K hK C => ?_)
  subst hK
  unfold fX11_ground
  show VX K g _ _ _ _ _ [(0, p_rf g o0), (1, .int i1), (2, .int i2)] _ _ _
  refine r_aload_n C dX11_ground_0 0 rfl ?_
  refine r_gr C wf_X11_73_10 dX11_ground_1 (fun q1 => ?_)
  refine r_iload_n C dX11_ground_4 1 rfl ?_
  refine r_cvi (As := [.int i1]) (st := []) C wv_X11_161 (tcX0_hasGround K.2.1 g hg q1 i1 h) (Nat.le_of_ble_eq_true rfl) rfl rfl (Nat.le_of_ble_eq_true rfl) dX11_ground_5 ⟨Nat.le_of_ble_eq_true rfl, Nat.le_of_ble_eq_true rfl⟩ (fun x2 h3 => ?_)
  refine r_if_eq (tgt := 21) C dX11_ground_8 (by decide) ?_ ?_
  · refine r_perm (lv' := []) [] rfl ?_
    exact tX11_ground_J21 hg C  h3
  · refine r_iload_n C dX11_ground_11 2 rfl ?_
    refine r_iconst C dX11_ground_12 k_i0 ?_
    refine r_bipush C dX11_ground_13 k_b6 ?_
    refine r_csi (As := [.int i2, .int (0 : Int32), .int (6 : Int32)]) (st := []) C ws_X11_164 (tcX11_within K.2.1 g hg i2 (0 : Int32) (6 : Int32) h3) (Nat.le_of_ble_eq_true rfl) rfl rfl (Nat.le_of_ble_eq_true rfl) dX11_ground_15 ⟨Nat.le_of_ble_eq_true rfl, Nat.le_of_ble_eq_true rfl⟩ (fun x4 h5 => ?_)
    refine r_if_ne (tgt := 29) C dX11_ground_18 (by decide) ?_ ?_
    · refine r_iload_n C dX11_ground_29 2 rfl ?_
      refine r_if_ne (tgt := 42) C dX11_ground_30 (by decide) ?_ ?_
      · refine r_iload_n C dX11_ground_42 2 rfl ?_
        refine r_iconst C dX11_ground_43 k_i1 ?_
        refine r_icmp_ne (tgt := 56) C dX11_ground_44 (by decide) ?_ ?_
        · refine r_iload_n C dX11_ground_56 2 rfl ?_
          refine r_bipush C dX11_ground_57 k_b6 ?_
          refine r_icmp_ne (tgt := 73) C dX11_ground_59 (by decide) ?_ ?_
          · refine r_aload_n C dX11_ground_73 0 rfl ?_
            refine r_gr C wf_X11_73_10 dX11_ground_74 (fun q6 => ?_)
            refine r_iload_n C dX11_ground_77 1 rfl ?_
            refine r_iload_n C dX11_ground_78 2 rfl ?_
            refine r_iconst C dX11_ground_79 k_i2 ?_
            refine r_isub C dX11_ground_80 ?_
            refine r_cvi (As := [.int i1, .int (i2 - (2 : Int32))]) (st := []) C wv_X11_180 (tcX0_pullOf K.2.1 g hg q6 i1 (i2 - (2 : Int32)) h5) (Nat.le_of_ble_eq_true rfl) rfl rfl (Nat.le_of_ble_eq_true rfl) dX11_ground_81 ⟨Nat.le_of_ble_eq_true rfl, Nat.le_of_ble_eq_true rfl⟩ (fun x7 h8 => ?_)
            exact r_iret C dX11_ground_84
          · refine r_aload_n C dX11_ground_62 0 rfl ?_
            refine r_gr C wf_X11_77_10 dX11_ground_63 (fun q9 => ?_)
            refine r_iload_n C dX11_ground_66 1 rfl ?_
            refine r_cvi (As := [.int i1]) (st := []) C wv_X11_177 (tcX8_holdersOf K.2.1 g hg q9 i1 h5) (Nat.le_of_ble_eq_true rfl) rfl rfl (Nat.le_of_ble_eq_true rfl) dX11_ground_67 ⟨Nat.le_of_ble_eq_true rfl, Nat.le_of_ble_eq_true rfl⟩ (fun x10 h11 => ?_)
            refine r_goto (tgt := 84) C dX11_ground_70 (by decide) ?_
            exact r_iret C dX11_ground_84
        · refine r_aload_n C dX11_ground_47 0 rfl ?_
          refine r_gr C wf_X11_77_10 dX11_ground_48 (fun q12 => ?_)
          refine r_iload_n C dX11_ground_51 1 rfl ?_
          refine r_cvi (As := [.int i1]) (st := []) C wv_X11_174 (tcX8_stockOf K.2.1 g hg q12 i1 h5) (Nat.le_of_ble_eq_true rfl) rfl rfl (Nat.le_of_ble_eq_true rfl) dX11_ground_52 ⟨Nat.le_of_ble_eq_true rfl, Nat.le_of_ble_eq_true rfl⟩ (fun x13 h14 => ?_)
          exact r_iret C dX11_ground_55
      · refine r_aload_n C dX11_ground_33 0 rfl ?_
        refine r_gr C wf_X11_73_10 dX11_ground_34 (fun q15 => ?_)
        refine r_iload_n C dX11_ground_37 1 rfl ?_
        refine r_cvi (As := [.int i1]) (st := []) C wv_X11_171 (tcX0_gradeOf K.2.1 g hg q15 i1 h5) (Nat.le_of_ble_eq_true rfl) rfl rfl (Nat.le_of_ble_eq_true rfl) dX11_ground_38 ⟨Nat.le_of_ble_eq_true rfl, Nat.le_of_ble_eq_true rfl⟩ (fun x16 h17 => ?_)
        exact r_iret C dX11_ground_41
    · refine r_perm (lv' := []) [] rfl ?_
      exact tX11_ground_J21 hg C  h5
set_option maxRecDepth 100000 in
set_option maxHeartbeats 4000000 in
theorem tX11_person_J21 {K : AC} {g : WG} (hg : p_al g = false)  (C : Cx K g cX11_person 3 RX11 (some .int) "person" 5 0 0)   (h : PH) : VX K g 3 0 0 (a_fin K g 0 0 em_i) 21 [] [] h (fX11_person_J21  h) := by
  unfold fX11_person_J21
  exact r_none
set_option maxRecDepth 100000 in
set_option maxHeartbeats 4000000 in
theorem tcX11_person (l : Launch) (g : WG) (hg : p_al g = false) (o0 : Nat) (i1 : Int32) (i2 : Int32) (h : PH) : CT l g 5 0 0 yX11_person cX11_person 3 (some .int) em_i [p_rf g o0, .int i1, .int i2] h (fX11_person o0 i1 i2 h) := by
  refine CT_of (own := RX11) (nm := "person") (by decide +kernel) (Nat.le_of_ble_eq_true rfl) rfl rfl rfl ⟨rfl, rfl⟩ (fun K hK C => ?_)
  subst hK
  unfold fX11_person
  show VX K g _ _ _ _ _ [(0, p_rf g o0), (1, .int i1), (2, .int i2)] _ _ _
  refine r_aload_n C dX11_person_0 0 rfl ?_
  refine r_gr C wf_X11_73_10 dX11_person_1 (fun q1 => ?_)
  refine r_iload_n C dX11_person_4 1 rfl ?_
  refine r_cvi (As := [.int i1]) (st := []) C wv_X11_184 (tcX0_hasPerson K.2.1 g hg q1 i1 h) (Nat.le_of_ble_eq_true rfl) rfl rfl (Nat.le_of_ble_eq_true rfl) dX11_person_5 ⟨Nat.le_of_ble_eq_true rfl, Nat.le_of_ble_eq_true rfl⟩ (fun x2 h3 => ?_)
  refine r_if_eq (tgt := 21) C dX11_person_8 (by decide) ?_ ?_
  · refine r_perm (lv' := []) [] rfl ?_
    exact tX11_person_J21 hg C  h3
  · refine r_iload_n C dX11_person_11 2 rfl ?_
    refine r_iconst C dX11_person_12 k_i0 ?_
    refine r_bipush C dX11_person_13 k_b6 ?_
    refine r_csi (As := [.int i2, .int (0 : Int32), .int (6 : Int32)]) (st := []) C ws_X11_164 (tcX11_within K.2.1 g hg i2 (0 : Int32) (6 : Int32) h3) (Nat.le_of_ble_eq_true rfl) rfl rfl (Nat.le_of_ble_eq_true rfl) dX11_person_15 ⟨Nat.le_of_ble_eq_true rfl, Nat.le_of_ble_eq_true rfl⟩ (fun x4 h5 => ?_)
    refine r_if_ne (tgt := 29) C dX11_person_18 (by decide) ?_ ?_
    · refine r_iload_n C dX11_person_29 2 rfl ?_
      refine r_if_ne (tgt := 42) C dX11_person_30 (by decide) ?_ ?_
      · refine r_iload_n C dX11_person_42 2 rfl ?_
        refine r_iconst C dX11_person_43 k_i5 ?_
        refine r_icmp_ne (tgt := 56) C dX11_person_44 (by decide) ?_ ?_
        · refine r_iload_n C dX11_person_56 2 rfl ?_
          refine r_bipush C dX11_person_57 k_b6 ?_
          refine r_icmp_ne (tgt := 73) C dX11_person_59 (by decide) ?_ ?_
          · refine r_aload_n C dX11_person_73 0 rfl ?_
            refine r_gr C wf_X11_77_10 dX11_person_74 (fun q6 => ?_)
            refine r_iload_n C dX11_person_77 1 rfl ?_
            refine r_iload_n C dX11_person_78 2 rfl ?_
            refine r_iconst C dX11_person_79 k_i1 ?_
            refine r_isub C dX11_person_80 ?_
            refine r_cvi (As := [.int i1, .int (i2 - (1 : Int32))]) (st := []) C wv_X11_196 (tcX8_humourOf K.2.1 g hg q6 i1 (i2 - (1 : Int32)) h5) (Nat.le_of_ble_eq_true rfl) rfl rfl (Nat.le_of_ble_eq_true rfl) dX11_person_81 ⟨Nat.le_of_ble_eq_true rfl, Nat.le_of_ble_eq_true rfl⟩ (fun x7 h8 => ?_)
            exact r_iret C dX11_person_84
          · refine r_aload_n C dX11_person_62 0 rfl ?_
            refine r_gr C wf_X11_77_10 dX11_person_63 (fun q9 => ?_)
            refine r_iload_n C dX11_person_66 1 rfl ?_
            refine r_cvi (As := [.int i1]) (st := []) C wv_X11_193 (tcX8_wantsOf K.2.1 g hg q9 i1 h5) (Nat.le_of_ble_eq_true rfl) rfl rfl (Nat.le_of_ble_eq_true rfl) dX11_person_67 ⟨Nat.le_of_ble_eq_true rfl, Nat.le_of_ble_eq_true rfl⟩ (fun x10 h11 => ?_)
            refine r_goto (tgt := 84) C dX11_person_70 (by decide) ?_
            exact r_iret C dX11_person_84
        · refine r_aload_n C dX11_person_47 0 rfl ?_
          refine r_gr C wf_X11_77_10 dX11_person_48 (fun q12 => ?_)
          refine r_iload_n C dX11_person_51 1 rfl ?_
          refine r_cvi (As := [.int i1]) (st := []) C wv_X11_190 (tcX8_groundsOf K.2.1 g hg q12 i1 h5) (Nat.le_of_ble_eq_true rfl) rfl rfl (Nat.le_of_ble_eq_true rfl) dX11_person_52 ⟨Nat.le_of_ble_eq_true rfl, Nat.le_of_ble_eq_true rfl⟩ (fun x13 h14 => ?_)
          exact r_iret C dX11_person_55
      · refine r_aload_n C dX11_person_33 0 rfl ?_
        refine r_gr C wf_X11_73_10 dX11_person_34 (fun q15 => ?_)
        refine r_iload_n C dX11_person_37 1 rfl ?_
        refine r_cvi (As := [.int i1]) (st := []) C wv_X11_187 (tcX0_strengthOf K.2.1 g hg q15 i1 h5) (Nat.le_of_ble_eq_true rfl) rfl rfl (Nat.le_of_ble_eq_true rfl) dX11_person_38 ⟨Nat.le_of_ble_eq_true rfl, Nat.le_of_ble_eq_true rfl⟩ (fun x16 h17 => ?_)
        exact r_iret C dX11_person_41
    · refine r_perm (lv' := []) [] rfl ?_
      exact tX11_person_J21 hg C  h5
set_option maxRecDepth 100000 in
set_option maxHeartbeats 4000000 in
theorem tcX11_held (l : Launch) (g : WG) (hg : p_al g = false) (o0 : Nat) (i1 : Int32) (i2 : Int32) (h : PH) : CT l g 3 0 0 yX11_held cX11_held 3 (some .int) em_i [p_rf g o0, .int i1, .int i2] h (fX11_held o0 i1 i2 h) := by
  refine CT_of (own := RX11) (nm := "held") (by decide +kernel) (Nat.le_of_ble_eq_true rfl) rfl rfl rfl ⟨rfl, rfl⟩ (fun K hK C => ?_)
  subst hK
  unfold fX11_held
  show VX K g _ _ _ _ _ [(0, p_rf g o0), (1, .int i1), (2, .int i2)] _ _ _
  refine r_aload_n C dX11_held_0 0 rfl ?_
  refine r_gr C wf_X11_73_10 dX11_held_1 (fun q1 => ?_)
  refine r_iload_n C dX11_held_4 1 rfl ?_
  refine r_cvi (As := [.int i1]) (st := []) C wv_X11_184 (tcX0_hasPerson K.2.1 g hg q1 i1 h) (Nat.le_of_ble_eq_true rfl) rfl rfl (Nat.le_of_ble_eq_true rfl) dX11_held_5 ⟨Nat.le_of_ble_eq_true rfl, Nat.le_of_ble_eq_true rfl⟩ (fun x2 h3 => ?_)
  refine r_if_eq (tgt := 22) C dX11_held_8 (by decide) ?_ ?_
  · refine r_iconst C dX11_held_22 k_im1 ?_
    exact r_iret C dX11_held_23
  · refine r_aload_n C dX11_held_11 0 rfl ?_
    refine r_gr C wf_X11_73_10 dX11_held_12 (fun q4 => ?_)
    refine r_iload_n C dX11_held_15 2 rfl ?_
    refine r_cvi (As := [.int i2]) (st := []) C wv_X11_161 (tcX0_hasGround K.2.1 g hg q4 i2 h3) (Nat.le_of_ble_eq_true rfl) rfl rfl (Nat.le_of_ble_eq_true rfl) dX11_held_16 ⟨Nat.le_of_ble_eq_true rfl, Nat.le_of_ble_eq_true rfl⟩ (fun x5 h6 => ?_)
    refine r_if_ne (tgt := 24) C dX11_held_19 (by decide) ?_ ?_
    · refine r_aload_n C dX11_held_24 0 rfl ?_
      refine r_gr C wf_X11_77_10 dX11_held_25 (fun q7 => ?_)
      refine r_iload_n C dX11_held_28 1 rfl ?_
      refine r_iload_n C dX11_held_29 2 rfl ?_
      refine r_cvi (As := [.int i1, .int i2]) (st := []) C wv_X11_199 (tcX8_holds K.2.1 g hg q7 i1 i2 h6) (Nat.le_of_ble_eq_true rfl) rfl rfl (Nat.le_of_ble_eq_true rfl) dX11_held_30 ⟨Nat.le_of_ble_eq_true rfl, Nat.le_of_ble_eq_true rfl⟩ (fun x8 h9 => ?_)
      refine r_if_eq (tgt := 48) C dX11_held_33 (by decide) ?_ ?_
      · refine r_bipush C dX11_held_48 k_bm2 ?_
        exact r_iret C dX11_held_50
      · refine r_aload_n C dX11_held_36 0 rfl ?_
        refine r_gr C wf_X11_77_10 dX11_held_37 (fun q10 => ?_)
        refine r_iload_n C dX11_held_40 1 rfl ?_
        refine r_iload_n C dX11_held_41 2 rfl ?_
        refine r_cvi (As := [.int i1, .int i2]) (st := []) C wv_X11_203 (tcX8_daysHeld K.2.1 g hg q10 i1 i2 h9) (Nat.le_of_ble_eq_true rfl) rfl rfl (Nat.le_of_ble_eq_true rfl) dX11_held_42 ⟨Nat.le_of_ble_eq_true rfl, Nat.le_of_ble_eq_true rfl⟩ (fun x11 h12 => ?_)
        refine r_goto (tgt := 50) C dX11_held_45 (by decide) ?_
        exact r_iret C dX11_held_50
    · refine r_iconst C dX11_held_22 k_im1 ?_
      exact r_iret C dX11_held_23
set_option maxRecDepth 100000 in
set_option maxHeartbeats 4000000 in
theorem tcX11_narrowed (l : Launch) (g : WG) (hg : p_al g = false) (i0 : Int32) (i1 : Int32) (h : PH) : CT l g 1 0 0 yX11_narrowed cX11_narrowed 2 (some .int) em_i [.int i0, .int i1] h (fX11_narrowed i0 i1 h) := by
  refine CT_of (own := RX11) (nm := "narrowed") (by decide +kernel) (Nat.le_of_ble_eq_true rfl) rfl rfl rfl ⟨rfl, rfl⟩ (fun K hK C => ?_)
  subst hK
  unfold fX11_narrowed
  show VX K g _ _ _ _ _ [(0, .int i0), (1, .int i1)] _ _ _
  refine r_iload_n C dX11_narrowed_0 0 rfl ?_
  refine r_if_ne (tgt := 7) C dX11_narrowed_1 (by decide) ?_ ?_
  · refine r_iload_n C dX11_narrowed_7 0 rfl ?_
    refine r_iconst C dX11_narrowed_8 k_i1 ?_
    refine r_icmp_ne (tgt := 17) C dX11_narrowed_9 (by decide) ?_ ?_
    · refine r_iload_n C dX11_narrowed_17 1 rfl ?_
      exact r_iret C dX11_narrowed_18
    · refine r_iload_n C dX11_narrowed_12 1 rfl ?_
      refine r_i2s C dX11_narrowed_13 ?_
      refine r_goto (tgt := 18) C dX11_narrowed_14 (by decide) ?_
      exact r_iret C dX11_narrowed_18
  · refine r_iload_n C dX11_narrowed_4 1 rfl ?_
    refine r_i2b C dX11_narrowed_5 ?_
    exact r_iret C dX11_narrowed_6
set_option maxRecDepth 100000 in
set_option maxHeartbeats 4000000 in
theorem tX11_sheet_J94_32 {K : AC} {g : WG} (hg : p_al g = false)  (C : Cx K g cX11_sheet 7 RX11 (some .int) "sheet" 3 0 0) (o0 : Nat) (i1 : Int32) (i2 : Int32) (i3 : Int32) (i4 : Int32) (i5 : Int32) (s0 : Int32) (s1 : Int32) (s2 : Nat)    {rc : Int32 → PH → Option (Int32 × PH)} {kx : PH → Option (Int32 × PH)} (hr : ∀ (i5' : Int32) (h : PH), VX K g 7 0 0 (a_fin K g 0 0 em_i) 32 [(0, p_rf g o0), (1, .int i1), (2, .int i2), (3, .int i3), (4, .int i4), (5, .int i5')] [] h (rc i5' h)) (hk : ∀  (h : PH), VX K g 7 0 0 (a_fin K g 0 0 em_i) 103 [(0, p_rf g o0), (1, .int i1)] [] h (kx  h)) (h : PH) : VX K g 7 0 0 (a_fin K g 0 0 em_i) 94 [(0, p_rf g o0), (1, .int i1), (2, .int i2), (3, .int i3), (4, .int i4), (5, .int i5)] [.int s0, .int s1, p_rf g s2] h (fX11_sheet_J94_32 rc kx o0 i1 i2 i3 i4 i5 s0 s1 s2 h) := by
  unfold fX11_sheet_J94_32
  refine r_cvv (As := [.int s1, .int s0]) (st := []) C wv_X11_112 (tcX8_putStock K.2.1 g hg s2 s1 s0 h) (Nat.le_of_ble_eq_true rfl) rfl rfl (Nat.le_of_ble_eq_true rfl) dX11_sheet_94 ⟨Nat.le_of_ble_eq_true rfl, Nat.le_of_ble_eq_true rfl⟩ (fun h1 => ?_)
  refine r_iinc (lv' := [(0, p_rf g o0), (1, .int i1), (2, .int i2), (3, .int i3), (4, .int i4)]) C dX11_sheet_97 5 rfl k_i1 (by decide) (fun _ => rfl) (fun x2 => ?_)
  refine r_goto (tgt := 32) C dX11_sheet_100 (by decide) ?_
  refine r_perm (lv' := [(0, p_rf g o0), (1, .int i1), (2, .int i2), (3, .int i3), (4, .int i4), (5, .int x2)]) [1, 2, 3, 4, 5, 0] rfl ?_
  exact hr x2 h1
set_option maxRecDepth 100000 in
set_option maxHeartbeats 4000000 in
theorem tX11_sheet_J60_32 {K : AC} {g : WG} (hg : p_al g = false)  (C : Cx K g cX11_sheet 7 RX11 (some .int) "sheet" 3 0 0) (o0 : Nat) (i1 : Int32) (i2 : Int32) (i3 : Int32) (i4 : Int32) (i5 : Int32) (s0 : Int32)    {rc : Int32 → PH → Option (Int32 × PH)} {kx : PH → Option (Int32 × PH)} (hr : ∀ (i5' : Int32) (h : PH), VX K g 7 0 0 (a_fin K g 0 0 em_i) 32 [(0, p_rf g o0), (1, .int i1), (2, .int i2), (3, .int i3), (4, .int i4), (5, .int i5')] [] h (rc i5' h)) (hk : ∀  (h : PH), VX K g 7 0 0 (a_fin K g 0 0 em_i) 103 [(0, p_rf g o0), (1, .int i1)] [] h (kx  h)) (h : PH) : VX K g 7 0 0 (a_fin K g 0 0 em_i) 60 [(0, p_rf g o0), (1, .int i1), (2, .int i2), (3, .int i3), (4, .int i4), (5, .int i5)] [.int s0] h (fX11_sheet_J60_32 rc kx o0 i1 i2 i3 i4 i5 s0 h) := by
  unfold fX11_sheet_J60_32
  refine r_istore (lv9 := [(6, .int s0), (0, p_rf g o0), (1, .int i1), (2, .int i2), (3, .int i3), (4, .int i4), (5, .int i5)]) C dX11_sheet_60 (by decide) rfl ?_
  refine r_aload_n C dX11_sheet_62 1 rfl ?_
  refine r_gr C wf_X11_77_10 dX11_sheet_63 (fun q1 => ?_)
  refine r_iload C dX11_sheet_66 6 rfl ?_
  refine r_iload C dX11_sheet_68 0 rfl ?_
  refine r_if_eq (tgt := 93) C dX11_sheet_70 (by decide) ?_ ?_
  · refine r_iconst C dX11_sheet_93 k_i0 ?_
    refine r_perm (lv' := [(0, p_rf g o0), (1, .int i1), (2, .int i2), (3, .int i3), (4, .int i4), (5, .int i5)]) [1, 2, 3, 4, 5, 6] rfl ?_
    exact tX11_sheet_J94_32 hg C o0 i1 i2 i3 i4 i5 (0 : Int32) i5 q1 hr hk h
  · refine r_iload_n C dX11_sheet_73 2 rfl ?_
    refine r_iload_n C dX11_sheet_74 4 rfl ?_
    refine r_iload C dX11_sheet_75 6 rfl ?_
    refine r_iload C dX11_sheet_77 5 rfl ?_
    refine r_imul C dX11_sheet_79 ?_
    refine r_iadd C dX11_sheet_80 ?_
    refine r_csi (As := [.int i1, .int (i3 + (i5 * i4))]) (st := [.int i5, p_rf g q1]) C ws_X11_206 (tcX11_narrowed K.2.1 g hg i1 (i3 + (i5 * i4)) h) (Nat.le_of_ble_eq_true rfl) rfl rfl (Nat.le_of_ble_eq_true rfl) dX11_sheet_81 ⟨Nat.le_of_ble_eq_true rfl, Nat.le_of_ble_eq_true rfl⟩ (fun x2 h3 => ?_)
    refine r_iconst C dX11_sheet_84 k_i0 ?_
    refine r_bipush C dX11_sheet_85 k_b99 ?_
    refine r_csi (As := [.int x2, .int (0 : Int32), .int (99 : Int32)]) (st := [.int i5, p_rf g q1]) C ws_X11_209 (tcX11_clamp K.2.1 g hg x2 (0 : Int32) (99 : Int32) h3) (Nat.le_of_ble_eq_true rfl) rfl rfl (Nat.le_of_ble_eq_true rfl) dX11_sheet_87 ⟨Nat.le_of_ble_eq_true rfl, Nat.le_of_ble_eq_true rfl⟩ (fun x4 h5 => ?_)
    refine r_goto (tgt := 94) C dX11_sheet_90 (by decide) ?_
    refine r_perm (lv' := [(0, p_rf g o0), (1, .int i1), (2, .int i2), (3, .int i3), (4, .int i4), (5, .int i5)]) [1, 2, 3, 4, 5, 6] rfl ?_
    exact tX11_sheet_J94_32 hg C o0 i1 i2 i3 i4 i5 x4 i5 q1 hr hk h5
set_option maxRecDepth 100000 in
set_option maxHeartbeats 4000000 in
theorem tX11_sheet_J59_32 {K : AC} {g : WG} (hg : p_al g = false)  (C : Cx K g cX11_sheet 7 RX11 (some .int) "sheet" 3 0 0) (o0 : Nat) (i1 : Int32) (i2 : Int32) (i3 : Int32) (i4 : Int32) (i5 : Int32)    {rc : Int32 → PH → Option (Int32 × PH)} {kx : PH → Option (Int32 × PH)} (hr : ∀ (i5' : Int32) (h : PH), VX K g 7 0 0 (a_fin K g 0 0 em_i) 32 [(0, p_rf g o0), (1, .int i1), (2, .int i2), (3, .int i3), (4, .int i4), (5, .int i5')] [] h (rc i5' h)) (hk : ∀  (h : PH), VX K g 7 0 0 (a_fin K g 0 0 em_i) 103 [(0, p_rf g o0), (1, .int i1)] [] h (kx  h)) (h : PH) : VX K g 7 0 0 (a_fin K g 0 0 em_i) 59 [(0, p_rf g o0), (1, .int i1), (2, .int i2), (3, .int i3), (4, .int i4), (5, .int i5)] [] h (fX11_sheet_J59_32 rc kx o0 i1 i2 i3 i4 i5 h) := by
  unfold fX11_sheet_J59_32
  refine r_iconst C dX11_sheet_59 k_i0 ?_
  exact tX11_sheet_J60_32 hg C o0 i1 i2 i3 i4 i5 (0 : Int32) hr hk h
set_option maxRecDepth 100000 in
set_option maxHeartbeats 4000000 in
theorem tX11_sheet_L32 {K : AC} {g : WG} (hg : p_al g = false)  (C : Cx K g cX11_sheet 7 RX11 (some .int) "sheet" 3 0 0) (o0 : Nat) (i1 : Int32) (i2 : Int32) (i3 : Int32) (i4 : Int32) {kx : PH → Option (Int32 × PH)} (hk : ∀  (h : PH), VX K g 7 0 0 (a_fin K g 0 0 em_i) 103 [(0, p_rf g o0), (1, .int i1)] [] h (kx h)) : ∀ (n : Nat) (i5 : Int32) (h : PH), VX K g 7 0 0 (a_fin K g 0 0 em_i) 32 [(0, p_rf g o0), (1, .int i1), (2, .int i2), (3, .int i3), (4, .int i4), (5, .int i5)] [] h (fX11_sheet_L32 o0 i1 i2 i3 i4 kx n i5 h) := by
  intro n
  induction n with
  | zero =>
    intros
    exact r_none
  | succ n ih =>
    intro i5 h
    rw [fX11_sheet_L32]
    refine r_iload C dX11_sheet_32 5 rfl ?_
    refine r_aload_n C dX11_sheet_34 0 rfl ?_
    refine r_gr C wf_X11_73_10 dX11_sheet_35 (fun q1 => ?_)
    refine r_cvi (As := []) (st := [.int i5]) C wv_X11_98 (tcX0_groundSize K.2.1 g hg q1 h) (Nat.le_of_ble_eq_true rfl) rfl rfl (Nat.le_of_ble_eq_true rfl) dX11_sheet_38 ⟨Nat.le_of_ble_eq_true rfl, Nat.le_of_ble_eq_true rfl⟩ (fun x2 h3 => ?_)
    refine r_icmp_ge (tgt := 103) C dX11_sheet_41 (by decide) ?_ ?_
    · refine r_perm (lv' := [(0, p_rf g o0), (1, .int i1)]) [0, 1] rfl ?_
      exact hk h3
    · refine r_iload_n C dX11_sheet_44 1 rfl ?_
      refine r_iconst C dX11_sheet_45 k_i3 ?_
      refine r_icmp_eq (tgt := 59) C dX11_sheet_46 (by decide) ?_ ?_
      · exact tX11_sheet_J59_32 hg C o0 i1 i2 i3 i4 i5 ih hk h3
      · refine r_iload C dX11_sheet_49 5 rfl ?_
        refine r_iload_n C dX11_sheet_51 2 rfl ?_
        refine r_icmp_ge (tgt := 59) C dX11_sheet_52 (by decide) ?_ ?_
        · exact tX11_sheet_J59_32 hg C o0 i1 i2 i3 i4 i5 ih hk h3
        · refine r_iconst C dX11_sheet_55 k_i1 ?_
          refine r_goto (tgt := 60) C dX11_sheet_56 (by decide) ?_
          exact tX11_sheet_J60_32 hg C o0 i1 i2 i3 i4 i5 (1 : Int32) ih hk h3
set_option maxRecDepth 100000 in
set_option maxHeartbeats 4000000 in
theorem tX11_sheet_J29 {K : AC} {g : WG} (hg : p_al g = false)  (C : Cx K g cX11_sheet 7 RX11 (some .int) "sheet" 3 0 0) (o0 : Nat) (i1 : Int32) (i2 : Int32) (i3 : Int32) (i4 : Int32)  (h : PH) : VX K g 7 0 0 (a_fin K g 0 0 em_i) 29 [(0, p_rf g o0), (1, .int i1), (2, .int i2), (3, .int i3), (4, .int i4)] [] h (fX11_sheet_J29 o0 i1 i2 i3 i4 h) := by
  unfold fX11_sheet_J29
  refine r_iconst C dX11_sheet_29 k_i0 ?_
  refine r_istore (lv9 := [(5, .int (0 : Int32)), (0, p_rf g o0), (1, .int i1), (2, .int i2), (3, .int i3), (4, .int i4)]) C dX11_sheet_30 (by decide) rfl ?_
  refine r_perm (lv' := [(0, p_rf g o0), (1, .int i1), (2, .int i2), (3, .int i3), (4, .int i4), (5, .int (0 : Int32))]) [1, 2, 3, 4, 5, 0] rfl ?_
  refine tX11_sheet_L32 hg C o0 i1 i2 i3 i4 (fun h1 => ?_) FU (0 : Int32) h
  refine r_iload_n C dX11_sheet_103 1 rfl ?_
  refine r_iconst C dX11_sheet_104 k_i3 ?_
  refine r_icmp_ne (tgt := 113) C dX11_sheet_105 (by decide) ?_ ?_
  · refine r_aload_n C dX11_sheet_113 0 rfl ?_
    refine r_gr C wf_X11_77_10 dX11_sheet_114 (fun q2 => ?_)
    refine r_cvi (As := []) (st := []) C wv_X11_213 (tcX8_stockOfAll K.2.1 g hg q2 h1) (Nat.le_of_ble_eq_true rfl) rfl rfl (Nat.le_of_ble_eq_true rfl) dX11_sheet_117 ⟨Nat.le_of_ble_eq_true rfl, Nat.le_of_ble_eq_true rfl⟩ (fun x3 h4 => ?_)
    exact r_iret C dX11_sheet_120
  · refine r_bipush C dX11_sheet_108 k_bm3 ?_
    refine r_goto (tgt := 120) C dX11_sheet_110 (by decide) ?_
    exact r_iret C dX11_sheet_120
set_option maxRecDepth 100000 in
set_option maxHeartbeats 4000000 in
theorem tcX11_sheet (l : Launch) (g : WG) (hg : p_al g = false) (o0 : Nat) (i1 : Int32) (i2 : Int32) (i3 : Int32) (i4 : Int32) (h : PH) : CT l g 3 0 0 yX11_sheet cX11_sheet 7 (some .int) em_i [p_rf g o0, .int i1, .int i2, .int i3, .int i4] h (fX11_sheet o0 i1 i2 i3 i4 h) := by
  refine CT_of (own := RX11) (nm := "sheet") (by decide +kernel) (Nat.le_of_ble_eq_true rfl) rfl rfl rfl ⟨rfl, rfl⟩ (fun K hK C => ?_)
  subst hK
  unfold fX11_sheet
  show VX K g _ _ _ _ _ [(0, p_rf g o0), (1, .int i1), (2, .int i2), (3, .int i3), (4, .int i4)] _ _ _
  refine r_iload_n C dX11_sheet_0 1 rfl ?_
  refine r_iconst C dX11_sheet_1 k_i0 ?_
  refine r_iconst C dX11_sheet_2 k_i3 ?_
  refine r_csi (As := [.int i1, .int (0 : Int32), .int (3 : Int32)]) (st := []) C ws_X11_164 (tcX11_within K.2.1 g hg i1 (0 : Int32) (3 : Int32) h) (Nat.le_of_ble_eq_true rfl) rfl rfl (Nat.le_of_ble_eq_true rfl) dX11_sheet_3 ⟨Nat.le_of_ble_eq_true rfl, Nat.le_of_ble_eq_true rfl⟩ (fun x1 h2 => ?_)
  refine r_if_eq (tgt := 15) C dX11_sheet_6 (by decide) ?_ ?_
  · refine r_iconst C dX11_sheet_15 k_im1 ?_
    exact r_iret C dX11_sheet_16
  · refine r_iload_n C dX11_sheet_9 2 rfl ?_
    refine r_bipush C dX11_sheet_10 k_b8 ?_
    refine r_icmp_le (tgt := 17) C dX11_sheet_12 (by decide) ?_ ?_
    · refine r_iload_n C dX11_sheet_17 1 rfl ?_
      refine r_iconst C dX11_sheet_18 k_i3 ?_
      refine r_icmp_eq (tgt := 29) C dX11_sheet_19 (by decide) ?_ ?_
      · exact tX11_sheet_J29 hg C o0 i1 i2 i3 i4 h2
      · refine r_iload_n C dX11_sheet_22 2 rfl ?_
        refine r_if_ge (tgt := 29) C dX11_sheet_23 (by decide) ?_ ?_
        · exact tX11_sheet_J29 hg C o0 i1 i2 i3 i4 h2
        · refine r_bipush C dX11_sheet_26 k_bm2 ?_
          exact r_iret C dX11_sheet_28
    · refine r_iconst C dX11_sheet_15 k_im1 ?_
      exact r_iret C dX11_sheet_16
set_option maxRecDepth 100000 in
set_option maxHeartbeats 4000000 in
theorem tcX11_rememberedIfDone (l : Launch) (g : WG) (hg : p_al g = false) (o0 : Nat) (i1 : Int32) (h : PH) : CT l g 4 0 0 yX11_rememberedIfDone cX11_rememberedIfDone 2 (some .int) em_i [p_rf g o0, .int i1] h (fX11_rememberedIfDone o0 i1 h) := by
  refine CT_of (own := RX11) (nm := "rememberedIfDone") (by decide +kernel) (Nat.le_of_ble_eq_true rfl) rfl rfl rfl ⟨rfl, rfl⟩ (fun K hK C => ?_)
  subst hK
  unfold fX11_rememberedIfDone
  show VX K g _ _ _ _ _ [(0, p_rf g o0), (1, .int i1)] _ _ _
  refine r_iload_n C dX11_rememberedIfDone_0 1 rfl ?_
  refine r_if_lt (tgt := 15) C dX11_rememberedIfDone_1 (by decide) ?_ ?_
  · refine r_iload_n C dX11_rememberedIfDone_15 1 rfl ?_
    exact r_iret C dX11_rememberedIfDone_16
  · refine r_aload_n C dX11_rememberedIfDone_4 0 rfl ?_
    refine r_gr C wf_X11_45_10 dX11_rememberedIfDone_5 (fun q1 => ?_)
    refine r_aload_n C dX11_rememberedIfDone_8 0 rfl ?_
    refine r_gr C wf_X11_81_10 dX11_rememberedIfDone_9 (fun q2 => ?_)
    refine r_cvv (As := [p_rf g q2]) (st := []) C wv_X11_232 (tcX5_remember K.2.1 g hg q1 q2 h) (Nat.le_of_ble_eq_true rfl) rfl rfl (Nat.le_of_ble_eq_true rfl) dX11_rememberedIfDone_12 ⟨Nat.le_of_ble_eq_true rfl, Nat.le_of_ble_eq_true rfl⟩ (fun h3 => ?_)
    refine r_iload_n C dX11_rememberedIfDone_15 1 rfl ?_
    exact r_iret C dX11_rememberedIfDone_16
set_option maxRecDepth 100000 in
set_option maxHeartbeats 4000000 in
theorem tcX11_gives (l : Launch) (g : WG) (hg : p_al g = false) (o0 : Nat) (i1 : Int32) (i2 : Int32) (h : PH) : CT l g 5 0 0 yX11_gives cX11_gives 3 (some .int) em_i [p_rf g o0, .int i1, .int i2] h (fX11_gives o0 i1 i2 h) := by
  refine CT_of (own := RX11) (nm := "gives") (by decide +kernel) (Nat.le_of_ble_eq_true rfl) rfl rfl rfl ⟨rfl, rfl⟩ (fun K hK C => ?_)
  subst hK
  unfold fX11_gives
  show VX K g _ _ _ _ _ [(0, p_rf g o0), (1, .int i1), (2, .int i2)] _ _ _
  refine r_aload_n C dX11_gives_0 0 rfl ?_
  refine r_gr C wf_X11_81_10 dX11_gives_1 (fun q1 => ?_)
  refine r_aload_n C dX11_gives_4 0 rfl ?_
  refine r_gr C wf_X11_77_10 dX11_gives_5 (fun q2 => ?_)
  refine r_cvv (As := [p_rf g q2]) (st := []) C wv_X11_216 (tcX8_copy K.2.1 g hg q1 q2 h) (Nat.le_of_ble_eq_true rfl) rfl rfl (Nat.le_of_ble_eq_true rfl) dX11_gives_8 ⟨Nat.le_of_ble_eq_true rfl, Nat.le_of_ble_eq_true rfl⟩ (fun h3 => ?_)
  refine r_aload_n C dX11_gives_11 0 rfl ?_
  refine r_aload_n C dX11_gives_12 0 rfl ?_
  refine r_gr C wf_X11_77_10 dX11_gives_13 (fun q4 => ?_)
  refine r_iload_n C dX11_gives_16 1 rfl ?_
  refine r_iload_n C dX11_gives_17 2 rfl ?_
  refine r_cvi (As := [.int i1, .int i2]) (st := [p_rf g o0]) C wv_X11_220 (tcX8_give K.2.1 g hg q4 i1 i2 h3) (Nat.le_of_ble_eq_true rfl) rfl rfl (Nat.le_of_ble_eq_true rfl) dX11_gives_18 ⟨Nat.le_of_ble_eq_true rfl, Nat.le_of_ble_eq_true rfl⟩ (fun x5 h6 => ?_)
  refine r_cvi (As := [.int x5]) (st := []) C wv_X11_223 (tcX11_rememberedIfDone K.2.1 g hg o0 x5 h6) (Nat.le_of_ble_eq_true rfl) rfl rfl (Nat.le_of_ble_eq_true rfl) dX11_gives_21 ⟨Nat.le_of_ble_eq_true rfl, Nat.le_of_ble_eq_true rfl⟩ (fun x7 h8 => ?_)
  exact r_iret C dX11_gives_24
set_option maxRecDepth 100000 in
set_option maxHeartbeats 4000000 in
theorem tcX11_takesBack (l : Launch) (g : WG) (hg : p_al g = false) (o0 : Nat) (i1 : Int32) (i2 : Int32) (h : PH) : CT l g 5 0 0 yX11_takesBack cX11_takesBack 3 (some .int) em_i [p_rf g o0, .int i1, .int i2] h (fX11_takesBack o0 i1 i2 h) := by
  refine CT_of (own := RX11) (nm := "takesBack") (by decide +kernel) (Nat.le_of_ble_eq_true rfl) rfl rfl rfl ⟨rfl, rfl⟩ (fun K hK C => ?_)
  subst hK
  unfold fX11_takesBack
  show VX K g _ _ _ _ _ [(0, p_rf g o0), (1, .int i1), (2, .int i2)] _ _ _
  refine r_aload_n C dX11_takesBack_0 0 rfl ?_
  refine r_gr C wf_X11_81_10 dX11_takesBack_1 (fun q1 => ?_)
  refine r_aload_n C dX11_takesBack_4 0 rfl ?_
  refine r_gr C wf_X11_77_10 dX11_takesBack_5 (fun q2 => ?_)
  refine r_cvv (As := [p_rf g q2]) (st := []) C wv_X11_216 (tcX8_copy K.2.1 g hg q1 q2 h) (Nat.le_of_ble_eq_true rfl) rfl rfl (Nat.le_of_ble_eq_true rfl) dX11_takesBack_8 ⟨Nat.le_of_ble_eq_true rfl, Nat.le_of_ble_eq_true rfl⟩ (fun h3 => ?_)
  refine r_aload_n C dX11_takesBack_11 0 rfl ?_
  refine r_aload_n C dX11_takesBack_12 0 rfl ?_
  refine r_gr C wf_X11_77_10 dX11_takesBack_13 (fun q4 => ?_)
  refine r_iload_n C dX11_takesBack_16 1 rfl ?_
  refine r_iload_n C dX11_takesBack_17 2 rfl ?_
  refine r_cvi (As := [.int i1, .int i2]) (st := [p_rf g o0]) C wv_X11_226 (tcX8_takeBack K.2.1 g hg q4 i1 i2 h3) (Nat.le_of_ble_eq_true rfl) rfl rfl (Nat.le_of_ble_eq_true rfl) dX11_takesBack_18 ⟨Nat.le_of_ble_eq_true rfl, Nat.le_of_ble_eq_true rfl⟩ (fun x5 h6 => ?_)
  refine r_cvi (As := [.int x5]) (st := []) C wv_X11_223 (tcX11_rememberedIfDone K.2.1 g hg o0 x5 h6) (Nat.le_of_ble_eq_true rfl) rfl rfl (Nat.le_of_ble_eq_true rfl) dX11_takesBack_21 ⟨Nat.le_of_ble_eq_true rfl, Nat.le_of_ble_eq_true rfl⟩ (fun x7 h8 => ?_)
  exact r_iret C dX11_takesBack_24
set_option maxRecDepth 100000 in
set_option maxHeartbeats 4000000 in
theorem tcX11_makes (l : Launch) (g : WG) (hg : p_al g = false) (o0 : Nat) (i1 : Int32) (i2 : Int32) (h : PH) : CT l g 5 0 0 yX11_makes cX11_makes 3 (some .int) em_i [p_rf g o0, .int i1, .int i2] h (fX11_makes o0 i1 i2 h) := by
  refine CT_of (own := RX11) (nm := "makes") (by decide +kernel) (Nat.le_of_ble_eq_true rfl) rfl rfl rfl ⟨rfl, rfl⟩ (fun K hK C => ?_)
  subst hK
  unfold fX11_makes
  show VX K g _ _ _ _ _ [(0, p_rf g o0), (1, .int i1), (2, .int i2)] _ _ _
  refine r_aload_n C dX11_makes_0 0 rfl ?_
  refine r_gr C wf_X11_81_10 dX11_makes_1 (fun q1 => ?_)
  refine r_aload_n C dX11_makes_4 0 rfl ?_
  refine r_gr C wf_X11_77_10 dX11_makes_5 (fun q2 => ?_)
  refine r_cvv (As := [p_rf g q2]) (st := []) C wv_X11_216 (tcX8_copy K.2.1 g hg q1 q2 h) (Nat.le_of_ble_eq_true rfl) rfl rfl (Nat.le_of_ble_eq_true rfl) dX11_makes_8 ⟨Nat.le_of_ble_eq_true rfl, Nat.le_of_ble_eq_true rfl⟩ (fun h3 => ?_)
  refine r_aload_n C dX11_makes_11 0 rfl ?_
  refine r_aload_n C dX11_makes_12 0 rfl ?_
  refine r_gr C wf_X11_77_10 dX11_makes_13 (fun q4 => ?_)
  refine r_iload_n C dX11_makes_16 1 rfl ?_
  refine r_iload_n C dX11_makes_17 2 rfl ?_
  refine r_cvi (As := [.int i1, .int i2]) (st := [p_rf g o0]) C wv_X11_229 (tcX8_make K.2.1 g hg q4 i1 i2 h3) (Nat.le_of_ble_eq_true rfl) rfl rfl (Nat.le_of_ble_eq_true rfl) dX11_makes_18 ⟨Nat.le_of_ble_eq_true rfl, Nat.le_of_ble_eq_true rfl⟩ (fun x5 h6 => ?_)
  refine r_cvi (As := [.int x5]) (st := []) C wv_X11_223 (tcX11_rememberedIfDone K.2.1 g hg o0 x5 h6) (Nat.le_of_ble_eq_true rfl) rfl rfl (Nat.le_of_ble_eq_true rfl) dX11_makes_21 ⟨Nat.le_of_ble_eq_true rfl, Nat.le_of_ble_eq_true rfl⟩ (fun x7 h8 => ?_)
  exact r_iret C dX11_makes_24
set_option maxRecDepth 100000 in
set_option maxHeartbeats 4000000 in
theorem tX11_days_J27 {K : AC} {g : WG} (hg : p_al g = false)  (C : Cx K g cX11_days 3 RX11 (some .int) "days" 6 0 0) (o0 : Nat) (i1 : Int32)  (h : PH) : VX K g 3 0 0 (a_fin K g 0 0 em_i) 27 [(0, p_rf g o0), (1, .int i1)] [] h (fX11_days_J27 o0 i1 h) := by
  unfold fX11_days_J27
  refine r_aload_n C dX11_days_27 0 rfl ?_
  refine r_gr C wf_X11_77_10 dX11_days_28 (fun q1 => ?_)
  refine r_iload_n C dX11_days_31 1 rfl ?_
  refine r_aload_n C dX11_days_32 0 rfl ?_
  refine r_gr C wf_X11_73_10 dX11_days_33 (fun q2 => ?_)
  refine r_cvr (As := []) (st := [.int i1, p_rf g q1]) C wv_X11_235 (tcX0_presentRule K.2.1 g hg q2 h) (Nat.le_of_ble_eq_true rfl) rfl rfl (Nat.le_of_ble_eq_true rfl) dX11_days_36 ⟨Nat.le_of_ble_eq_true rfl, Nat.le_of_ble_eq_true rfl⟩ (fun q3 h4 => ?_)
  refine r_cvi (As := [.int i1, p_rf g q3]) (st := []) C wv_X11_238 (tcX8_spend K.2.1 g hg q1 i1 q3 h4) (Nat.le_of_ble_eq_true rfl) rfl rfl (Nat.le_of_ble_eq_true rfl) dX11_days_39 ⟨Nat.le_of_ble_eq_true rfl, Nat.le_of_ble_eq_true rfl⟩ (fun x5 h6 => ?_)
  refine r_istore_n (lv9 := [(2, .int x5), (0, p_rf g o0), (1, .int i1)]) C dX11_days_42 (by decide) rfl ?_
  refine r_aload_n C dX11_days_43 1 rfl ?_
  refine r_gr C wf_X11_69_10 dX11_days_44 (fun q7 => ?_)
  refine r_cvv (As := []) (st := []) C wv_X11_242 (tcX3_start K.2.1 g hg q7 h6) (Nat.le_of_ble_eq_true rfl) rfl rfl (Nat.le_of_ble_eq_true rfl) dX11_days_47 ⟨Nat.le_of_ble_eq_true rfl, Nat.le_of_ble_eq_true rfl⟩ (fun h8 => ?_)
  refine r_aload_n C dX11_days_50 1 rfl ?_
  refine r_gr C wf_X11_69_10 dX11_days_51 (fun q9 => ?_)
  refine r_aload_n C dX11_days_54 1 rfl ?_
  refine r_gr C wf_X11_77_10 dX11_days_55 (fun q10 => ?_)
  refine r_cvi (As := []) (st := [p_rf g q9]) C wv_X11_245 (tcX8_humoursOfAll K.2.1 g hg q10 h8) (Nat.le_of_ble_eq_true rfl) rfl rfl (Nat.le_of_ble_eq_true rfl) dX11_days_58 ⟨Nat.le_of_ble_eq_true rfl, Nat.le_of_ble_eq_true rfl⟩ (fun x11 h12 => ?_)
  refine r_i2l C dX11_days_61 ?_
  refine r_cvv (As := [.long (x11.toInt64)]) (st := []) C wv_X11_248 (tcX3_add K.2.1 g hg q9 (x11.toInt64) h12) (Nat.le_of_ble_eq_true rfl) rfl rfl (Nat.le_of_ble_eq_true rfl) dX11_days_62 ⟨Nat.le_of_ble_eq_true rfl, Nat.le_of_ble_eq_true rfl⟩ (fun h13 => ?_)
  refine r_aload_n C dX11_days_65 1 rfl ?_
  refine r_gr C wf_X11_69_10 dX11_days_66 (fun q14 => ?_)
  refine r_iload_n C dX11_days_69 0 rfl ?_
  refine r_i2l C dX11_days_70 ?_
  refine r_cvv (As := [.long (x5.toInt64)]) (st := []) C wv_X11_248 (tcX3_add K.2.1 g hg q14 (x5.toInt64) h13) (Nat.le_of_ble_eq_true rfl) rfl rfl (Nat.le_of_ble_eq_true rfl) dX11_days_71 ⟨Nat.le_of_ble_eq_true rfl, Nat.le_of_ble_eq_true rfl⟩ (fun h15 => ?_)
  refine r_aload_n C dX11_days_74 1 rfl ?_
  refine r_gr C wf_X11_77_10 dX11_days_75 (fun q16 => ?_)
  refine r_cvi (As := []) (st := []) C wv_X11_251 (tcX8_wantsOfAll K.2.1 g hg q16 h15) (Nat.le_of_ble_eq_true rfl) rfl rfl (Nat.le_of_ble_eq_true rfl) dX11_days_78 ⟨Nat.le_of_ble_eq_true rfl, Nat.le_of_ble_eq_true rfl⟩ (fun x17 h18 => ?_)
  exact r_iret C dX11_days_81
set_option maxRecDepth 100000 in
set_option maxHeartbeats 4000000 in
theorem tcX11_days (l : Launch) (g : WG) (hg : p_al g = false) (o0 : Nat) (i1 : Int32) (h : PH) : CT l g 6 0 0 yX11_days cX11_days 3 (some .int) em_i [p_rf g o0, .int i1] h (fX11_days o0 i1 h) := by
  refine CT_of (own := RX11) (nm := "days") (by decide +kernel) (Nat.le_of_ble_eq_true rfl) rfl rfl rfl ⟨rfl, rfl⟩ (fun K hK C => ?_)
  subst hK
  unfold fX11_days
  show VX K g _ _ _ _ _ [(0, p_rf g o0), (1, .int i1)] _ _ _
  refine r_iload_n C dX11_days_0 1 rfl ?_
  refine r_iconst C dX11_days_1 k_i0 ?_
  refine r_bipush C dX11_days_2 k_b60 ?_
  refine r_csi (As := [.int i1, .int (0 : Int32), .int (60 : Int32)]) (st := []) C ws_X11_164 (tcX11_within K.2.1 g hg i1 (0 : Int32) (60 : Int32) h) (Nat.le_of_ble_eq_true rfl) rfl rfl (Nat.le_of_ble_eq_true rfl) dX11_days_4 ⟨Nat.le_of_ble_eq_true rfl, Nat.le_of_ble_eq_true rfl⟩ (fun x1 h2 => ?_)
  refine r_if_ne (tgt := 12) C dX11_days_7 (by decide) ?_ ?_
  · refine r_iload_n C dX11_days_12 1 rfl ?_
    refine r_if_le (tgt := 27) C dX11_days_13 (by decide) ?_ ?_
    · exact tX11_days_J27 hg C o0 i1 h2
    · refine r_aload_n C dX11_days_16 0 rfl ?_
      refine r_gr C wf_X11_45_10 dX11_days_17 (fun q3 => ?_)
      refine r_aload_n C dX11_days_20 0 rfl ?_
      refine r_gr C wf_X11_77_10 dX11_days_21 (fun q4 => ?_)
      refine r_cvv (As := [p_rf g q4]) (st := []) C wv_X11_232 (tcX5_remember K.2.1 g hg q3 q4 h2) (Nat.le_of_ble_eq_true rfl) rfl rfl (Nat.le_of_ble_eq_true rfl) dX11_days_24 ⟨Nat.le_of_ble_eq_true rfl, Nat.le_of_ble_eq_true rfl⟩ (fun h5 => ?_)
      exact tX11_days_J27 hg C o0 i1 h5
  · refine r_iconst C dX11_days_10 k_im1 ?_
    exact r_iret C dX11_days_11
