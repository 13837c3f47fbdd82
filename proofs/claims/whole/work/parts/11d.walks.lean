set_option maxRecDepth 100000 in
set_option maxHeartbeats 4000000 in
theorem tcX12_isHumour (l : Launch) (g : WG) (hg : p_al g = false) (i0 : Int32) (h : PH) : CT l g 2 0 0 yX12_isHumour cX12_isHumour 1 (some .boolean) em_i [.int i0] h (fX12_isHumour i0 h) := by
  refine CT_of (own := RX12) (nm := "isHumour") (by decide +kernel) (Nat.le_of_ble_eq_true rfl) rfl rfl rfl ⟨rfl, rfl⟩ (fun K hK C => ?_)
  subst hK
  unfold fX12_isHumour
  show VX K g _ _ _ _ _ [(0, .int i0)] _ _ _
  refine r_iload_n C dX12_isHumour_0 0 rfl ?_
  refine r_bipush C dX12_isHumour_1 k_b97 ?_
  refine r_bipush C dX12_isHumour_3 k_b100 ?_
  refine r_csi (As := [.int i0, .int (97 : Int32), .int (100 : Int32)]) (st := []) C ws_X12_119 (tcX12_in K.2.1 g hg i0 (97 : Int32) (100 : Int32) h) (Nat.le_of_ble_eq_true rfl) rfl rfl (Nat.le_of_ble_eq_true rfl) dX12_isHumour_5 ⟨Nat.le_of_ble_eq_true rfl, Nat.le_of_ble_eq_true rfl⟩ (fun x1 h2 => ?_)
  exact r_zret C dX12_isHumour_8
set_option maxRecDepth 100000 in
set_option maxHeartbeats 4000000 in
theorem tX12_readWant_J145_2 {K : AC} {g : WG} (hg : p_al g = false)  (C : Cx K g cX12_readWant 3 RX12 (some .int) "readWant" 4 0 0) (o0 : Nat) (i1 : Int32) (i2 : Int32)    {rc : Int32 → PH → Option (Int32 × PH)} {kx : Int32 → PH → Option (Int32 × PH)} (hr : ∀ (i2' : Int32) (h : PH), VX K g 3 0 0 (a_fin K g 0 0 em_i) 2 [(0, p_rf g o0), (1, .int i1), (2, .int i2')] [] h (rc i2' h)) (hk : ∀ (i2' : Int32) (h : PH), VX K g 3 0 0 (a_fin K g 0 0 em_i) 151 [(2, .int i2')] [] h (kx i2' h)) (h : PH) : VX K g 3 0 0 (a_fin K g 0 0 em_i) 145 [(0, p_rf g o0), (1, .int i1), (2, .int i2)] [] h (fX12_readWant_J145_2 rc kx o0 i1 i2 h) := by
  unfold fX12_readWant_J145_2
  refine r_iinc (lv' := [(0, p_rf g o0), (1, .int i1)]) C dX12_readWant_145 2 rfl k_i1 (by decide) (fun _ => rfl) (fun x1 => ?_)
  refine r_goto (tgt := 2) C dX12_readWant_148 (by decide) ?_
  refine r_perm (lv' := [(0, p_rf g o0), (1, .int i1), (2, .int x1)]) [1, 2, 0] rfl ?_
  exact hr x1 h
set_option maxRecDepth 100000 in
set_option maxHeartbeats 4000000 in
theorem tX12_readWant_J115_2 {K : AC} {g : WG} (hg : p_al g = false)  (C : Cx K g cX12_readWant 3 RX12 (some .int) "readWant" 4 0 0) (o0 : Nat) (i1 : Int32) (i2 : Int32)    {rc : Int32 → PH → Option (Int32 × PH)} {kx : Int32 → PH → Option (Int32 × PH)} (hr : ∀ (i2' : Int32) (h : PH), VX K g 3 0 0 (a_fin K g 0 0 em_i) 2 [(0, p_rf g o0), (1, .int i1), (2, .int i2')] [] h (rc i2' h)) (hk : ∀ (i2' : Int32) (h : PH), VX K g 3 0 0 (a_fin K g 0 0 em_i) 151 [(2, .int i2')] [] h (kx i2' h)) (h : PH) : VX K g 3 0 0 (a_fin K g 0 0 em_i) 115 [(0, p_rf g o0), (1, .int i1), (2, .int i2)] [] h (fX12_readWant_J115_2 rc kx o0 i1 i2 h) := by
  unfold fX12_readWant_J115_2
  refine r_aload_n C dX12_readWant_115 0 rfl ?_
  refine r_dup C dX12_readWant_116 rfl ?_
  refine r_gi C wf_X12_141_11 dX12_readWant_117 (fun x1 => ?_)
  refine r_iconst C dX12_readWant_120 k_i1 ?_
  refine r_iadd C dX12_readWant_121 ?_
  refine r_pi C wf_X12_141_11 dX12_readWant_122 (fun h2 => ?_)
  refine r_aload_n C dX12_readWant_125 0 rfl ?_
  refine r_gr C wf_X12_36_11 dX12_readWant_126 (fun q3 => ?_)
  refine r_iload_n C dX12_readWant_129 1 rfl ?_
  refine r_iconst C dX12_readWant_130 k_i3 ?_
  refine r_iload_n C dX12_readWant_131 2 rfl ?_
  refine r_imul C dX12_readWant_132 ?_
  refine r_iadd C dX12_readWant_133 ?_
  refine r_iconst C dX12_readWant_134 k_i2 ?_
  refine r_iadd C dX12_readWant_135 ?_
  refine r_aload_n C dX12_readWant_136 0 rfl ?_
  refine r_bipush C dX12_readWant_137 k_b48 ?_
  refine r_bipush C dX12_readWant_139 k_b10 ?_
  refine r_cvi (As := [.int (48 : Int32), .int (10 : Int32)]) (st := [.int ((i1 + ((3 : Int32) * i2)) + (2 : Int32)), p_rf g q3]) C wv_X12_167 (tcX12_oneOf K.2.1 g hg o0 (48 : Int32) (10 : Int32) h2) (Nat.le_of_ble_eq_true rfl) rfl rfl (Nat.le_of_ble_eq_true rfl) dX12_readWant_141 ⟨Nat.le_of_ble_eq_true rfl, Nat.le_of_ble_eq_true rfl⟩ (fun x4 h5 => ?_)
  refine r_iast C dX12_readWant_144 (fun h6 => ?_)
  exact tX12_readWant_J145_2 hg C o0 i1 i2 hr hk h6
set_option maxRecDepth 100000 in
set_option maxHeartbeats 4000000 in
theorem tX12_readWant_J81_2 {K : AC} {g : WG} (hg : p_al g = false)  (C : Cx K g cX12_readWant 3 RX12 (some .int) "readWant" 4 0 0) (o0 : Nat) (i1 : Int32) (i2 : Int32) (s0 : Int32) (s1 : Int32) (s2 : Nat)    {rc : Int32 → PH → Option (Int32 × PH)} {kx : Int32 → PH → Option (Int32 × PH)} (hr : ∀ (i2' : Int32) (h : PH), VX K g 3 0 0 (a_fin K g 0 0 em_i) 2 [(0, p_rf g o0), (1, .int i1), (2, .int i2')] [] h (rc i2' h)) (hk : ∀ (i2' : Int32) (h : PH), VX K g 3 0 0 (a_fin K g 0 0 em_i) 151 [(2, .int i2')] [] h (kx i2' h)) (h : PH) : VX K g 3 0 0 (a_fin K g 0 0 em_i) 81 [(0, p_rf g o0), (1, .int i1), (2, .int i2)] [.int s0, .int s1, p_rf g s2] h (fX12_readWant_J81_2 rc kx o0 i1 i2 s0 s1 s2 h) := by
  unfold fX12_readWant_J81_2
  refine r_iast C dX12_readWant_81 (fun h1 => ?_)
  refine r_aload_n C dX12_readWant_82 0 rfl ?_
  refine r_cvi (As := []) (st := []) C wv_X12_151 (tcX12_fine K.2.1 g hg o0 h1) (Nat.le_of_ble_eq_true rfl) rfl rfl (Nat.le_of_ble_eq_true rfl) dX12_readWant_83 ⟨Nat.le_of_ble_eq_true rfl, Nat.le_of_ble_eq_true rfl⟩ (fun x2 h3 => ?_)
  refine r_if_eq (tgt := 115) C dX12_readWant_86 (by decide) ?_ ?_
  · exact tX12_readWant_J115_2 hg C o0 i1 i2 hr hk h3
  · refine r_aload_n C dX12_readWant_89 0 rfl ?_
    refine r_cvi (As := []) (st := []) C wv_X12_155 (tcX12_here K.2.1 g hg o0 h3) (Nat.le_of_ble_eq_true rfl) rfl rfl (Nat.le_of_ble_eq_true rfl) dX12_readWant_90 ⟨Nat.le_of_ble_eq_true rfl, Nat.le_of_ble_eq_true rfl⟩ (fun x4 h5 => ?_)
    refine r_bipush C dX12_readWant_93 k_b62 ?_
    refine r_icmp_eq (tgt := 115) C dX12_readWant_95 (by decide) ?_ ?_
    · exact tX12_readWant_J115_2 hg C o0 i1 i2 hr hk h5
    · refine r_aload_n C dX12_readWant_98 0 rfl ?_
      refine r_cvi (As := []) (st := []) C wv_X12_155 (tcX12_here K.2.1 g hg o0 h5) (Nat.le_of_ble_eq_true rfl) rfl rfl (Nat.le_of_ble_eq_true rfl) dX12_readWant_99 ⟨Nat.le_of_ble_eq_true rfl, Nat.le_of_ble_eq_true rfl⟩ (fun x6 h7 => ?_)
      refine r_bipush C dX12_readWant_102 k_b60 ?_
      refine r_icmp_eq (tgt := 115) C dX12_readWant_104 (by decide) ?_ ?_
      · exact tX12_readWant_J115_2 hg C o0 i1 i2 hr hk h7
      · refine r_aload_n C dX12_readWant_107 0 rfl ?_
        refine r_aload_n C dX12_readWant_108 0 rfl ?_
        refine r_gi C wf_X12_141_11 dX12_readWant_109 (fun x8 => ?_)
        refine r_cvv (As := [.int x8]) (st := []) C wv_X12_163 (tcX12_fault K.2.1 g hg o0 x8 h7) (Nat.le_of_ble_eq_true rfl) rfl rfl (Nat.le_of_ble_eq_true rfl) dX12_readWant_112 ⟨Nat.le_of_ble_eq_true rfl, Nat.le_of_ble_eq_true rfl⟩ (fun h9 => ?_)
        exact tX12_readWant_J115_2 hg C o0 i1 i2 hr hk h9
set_option maxRecDepth 100000 in
set_option maxHeartbeats 4000000 in
theorem tX12_readWant_J23_2 {K : AC} {g : WG} (hg : p_al g = false)  (C : Cx K g cX12_readWant 3 RX12 (some .int) "readWant" 4 0 0) (o0 : Nat) (i1 : Int32) (i2 : Int32)    {rc : Int32 → PH → Option (Int32 × PH)} {kx : Int32 → PH → Option (Int32 × PH)} (hr : ∀ (i2' : Int32) (h : PH), VX K g 3 0 0 (a_fin K g 0 0 em_i) 2 [(0, p_rf g o0), (1, .int i1), (2, .int i2')] [] h (rc i2' h)) (hk : ∀ (i2' : Int32) (h : PH), VX K g 3 0 0 (a_fin K g 0 0 em_i) 151 [(2, .int i2')] [] h (kx i2' h)) (h : PH) : VX K g 3 0 0 (a_fin K g 0 0 em_i) 23 [(0, p_rf g o0), (1, .int i1), (2, .int i2)] [] h (fX12_readWant_J23_2 rc kx o0 i1 i2 h) := by
  unfold fX12_readWant_J23_2
  refine r_iload_n C dX12_readWant_23 2 rfl ?_
  refine r_iconst C dX12_readWant_24 k_i3 ?_
  refine r_icmp_ne (tgt := 39) C dX12_readWant_25 (by decide) ?_ ?_
  · refine r_aload_n C dX12_readWant_39 0 rfl ?_
    refine r_gr C wf_X12_36_11 dX12_readWant_40 (fun q1 => ?_)
    refine r_iload_n C dX12_readWant_43 1 rfl ?_
    refine r_iconst C dX12_readWant_44 k_i3 ?_
    refine r_iload_n C dX12_readWant_45 2 rfl ?_
    refine r_imul C dX12_readWant_46 ?_
    refine r_iadd C dX12_readWant_47 ?_
    refine r_aload_n C dX12_readWant_48 0 rfl ?_
    refine r_bipush C dX12_readWant_49 k_b97 ?_
    refine r_iconst C dX12_readWant_51 k_i4 ?_
    refine r_cvi (As := [.int (97 : Int32), .int (4 : Int32)]) (st := [.int (i1 + ((3 : Int32) * i2)), p_rf g q1]) C wv_X12_167 (tcX12_oneOf K.2.1 g hg o0 (97 : Int32) (4 : Int32) h) (Nat.le_of_ble_eq_true rfl) rfl rfl (Nat.le_of_ble_eq_true rfl) dX12_readWant_52 ⟨Nat.le_of_ble_eq_true rfl, Nat.le_of_ble_eq_true rfl⟩ (fun x2 h3 => ?_)
    refine r_iast C dX12_readWant_55 (fun h4 => ?_)
    refine r_aload_n C dX12_readWant_56 0 rfl ?_
    refine r_gr C wf_X12_36_11 dX12_readWant_57 (fun q5 => ?_)
    refine r_iload_n C dX12_readWant_60 1 rfl ?_
    refine r_iconst C dX12_readWant_61 k_i3 ?_
    refine r_iload_n C dX12_readWant_62 2 rfl ?_
    refine r_imul C dX12_readWant_63 ?_
    refine r_iadd C dX12_readWant_64 ?_
    refine r_iconst C dX12_readWant_65 k_i1 ?_
    refine r_iadd C dX12_readWant_66 ?_
    refine r_aload_n C dX12_readWant_67 0 rfl ?_
    refine r_cvi (As := []) (st := [.int ((i1 + ((3 : Int32) * i2)) + (1 : Int32)), p_rf g q5]) C wv_X12_155 (tcX12_here K.2.1 g hg o0 h4) (Nat.le_of_ble_eq_true rfl) rfl rfl (Nat.le_of_ble_eq_true rfl) dX12_readWant_68 ⟨Nat.le_of_ble_eq_true rfl, Nat.le_of_ble_eq_true rfl⟩ (fun x6 h7 => ?_)
    refine r_bipush C dX12_readWant_71 k_b62 ?_
    refine r_icmp_ne (tgt := 80) C dX12_readWant_73 (by decide) ?_ ?_
    · refine r_iconst C dX12_readWant_80 k_i0 ?_
      exact tX12_readWant_J81_2 hg C o0 i1 i2 (0 : Int32) ((i1 + ((3 : Int32) * i2)) + (1 : Int32)) q5 hr hk h7
    · refine r_iconst C dX12_readWant_76 k_i1 ?_
      refine r_goto (tgt := 81) C dX12_readWant_77 (by decide) ?_
      exact tX12_readWant_J81_2 hg C o0 i1 i2 (1 : Int32) ((i1 + ((3 : Int32) * i2)) + (1 : Int32)) q5 hr hk h7
  · refine r_aload_n C dX12_readWant_28 0 rfl ?_
    refine r_aload_n C dX12_readWant_29 0 rfl ?_
    refine r_gi C wf_X12_141_11 dX12_readWant_30 (fun x8 => ?_)
    refine r_cvv (As := [.int x8]) (st := []) C wv_X12_163 (tcX12_fault K.2.1 g hg o0 x8 h) (Nat.le_of_ble_eq_true rfl) rfl rfl (Nat.le_of_ble_eq_true rfl) dX12_readWant_33 ⟨Nat.le_of_ble_eq_true rfl, Nat.le_of_ble_eq_true rfl⟩ (fun h9 => ?_)
    refine r_goto (tgt := 145) C dX12_readWant_36 (by decide) ?_
    exact tX12_readWant_J145_2 hg C o0 i1 i2 hr hk h9
set_option maxRecDepth 100000 in
set_option maxHeartbeats 4000000 in
theorem tX12_readWant_L2 {K : AC} {g : WG} (hg : p_al g = false)  (C : Cx K g cX12_readWant 3 RX12 (some .int) "readWant" 4 0 0) (o0 : Nat) (i1 : Int32) {kx : Int32 → PH → Option (Int32 × PH)} (hk : ∀ (i2 : Int32) (h : PH), VX K g 3 0 0 (a_fin K g 0 0 em_i) 151 [(2, .int i2)] [] h (kx i2 h)) : ∀ (n : Nat) (i2 : Int32) (h : PH), VX K g 3 0 0 (a_fin K g 0 0 em_i) 2 [(0, p_rf g o0), (1, .int i1), (2, .int i2)] [] h (fX12_readWant_L2 o0 i1 kx n i2 h) := by
  intro n
  induction n with
  | zero =>
    intros
    exact r_none
  | succ n ih =>
    intro i2 h
    rw [fX12_readWant_L2]
    refine r_aload_n C dX12_readWant_2 0 rfl ?_
    refine r_cvi (As := []) (st := []) C wv_X12_151 (tcX12_fine K.2.1 g hg o0 h) (Nat.le_of_ble_eq_true rfl) rfl rfl (Nat.le_of_ble_eq_true rfl) dX12_readWant_3 ⟨Nat.le_of_ble_eq_true rfl, Nat.le_of_ble_eq_true rfl⟩ (fun x1 h2 => ?_)
    refine r_if_eq (tgt := 151) C dX12_readWant_6 (by decide) ?_ ?_
    · refine r_perm (lv' := [(2, .int i2)]) [2] rfl ?_
      exact hk i2 h2
    · refine r_iload_n C dX12_readWant_9 2 rfl ?_
      refine r_if_eq (tgt := 23) C dX12_readWant_10 (by decide) ?_ ?_
      · exact tX12_readWant_J23_2 hg C o0 i1 i2 ih hk h2
      · refine r_aload_n C dX12_readWant_13 0 rfl ?_
        refine r_cvi (As := []) (st := []) C wv_X12_155 (tcX12_here K.2.1 g hg o0 h2) (Nat.le_of_ble_eq_true rfl) rfl rfl (Nat.le_of_ble_eq_true rfl) dX12_readWant_14 ⟨Nat.le_of_ble_eq_true rfl, Nat.le_of_ble_eq_true rfl⟩ (fun x3 h4 => ?_)
        refine r_csi (As := [.int x3]) (st := []) C ws_X12_192 (tcX12_isHumour K.2.1 g hg x3 h4) (Nat.le_of_ble_eq_true rfl) rfl rfl (Nat.le_of_ble_eq_true rfl) dX12_readWant_17 ⟨Nat.le_of_ble_eq_true rfl, Nat.le_of_ble_eq_true rfl⟩ (fun x5 h6 => ?_)
        refine r_if_eq (tgt := 151) C dX12_readWant_20 (by decide) ?_ ?_
        · refine r_perm (lv' := [(2, .int i2)]) [2] rfl ?_
          exact hk i2 h6
        · exact tX12_readWant_J23_2 hg C o0 i1 i2 ih hk h6
set_option maxRecDepth 100000 in
set_option maxHeartbeats 4000000 in
theorem tcX12_readWant (l : Launch) (g : WG) (hg : p_al g = false) (o0 : Nat) (i1 : Int32) (h : PH) : CT l g 4 0 0 yX12_readWant cX12_readWant 3 (some .int) em_i [p_rf g o0, .int i1] h (fX12_readWant o0 i1 h) := by
  refine CT_of (own := RX12) (nm := "readWant") (by decide +kernel) (Nat.le_of_ble_eq_true rfl) rfl rfl rfl ⟨rfl, rfl⟩ (fun K hK C => ?_)
  subst hK
  unfold fX12_readWant
  show VX K g _ _ _ _ _ [(0, p_rf g o0), (1, .int i1)] _ _ _
  refine r_iconst C dX12_readWant_0 k_i0 ?_
  refine r_istore_n (lv9 := [(2, .int (0 : Int32)), (0, p_rf g o0), (1, .int i1)]) C dX12_readWant_1 (by decide) rfl ?_
  refine r_perm (lv' := [(0, p_rf g o0), (1, .int i1), (2, .int (0 : Int32))]) [1, 2, 0] rfl ?_
  refine tX12_readWant_L2 hg C o0 i1 (fun x1 h2 => ?_) FU (0 : Int32) h
  refine r_iload_n C dX12_readWant_151 0 rfl ?_
  exact r_iret C dX12_readWant_152
set_option maxRecDepth 100000 in
set_option maxHeartbeats 4000000 in
theorem tX12_wants_J71_24 {K : AC} {g : WG} (hg : p_al g = false)  (C : Cx K g cX12_wants 5 RX12 (some .int) "wants" 5 0 0) (o0 : Nat) (i1 : Int32)    {rc : Int32 → Int32 → PH → Option (Int32 × PH)} {kx : Int32 → PH → Option (Int32 × PH)} (hr : ∀ (i1' : Int32) (i2' : Int32) (h : PH), VX K g 5 0 0 (a_fin K g 0 0 em_i) 24 [(0, p_rf g o0), (1, .int i1'), (2, .int i2')] [] h (rc i1' i2' h)) (hk : ∀ (i1' : Int32) (h : PH), VX K g 5 0 0 (a_fin K g 0 0 em_i) 84 [(0, p_rf g o0), (1, .int i1')] [] h (kx i1' h)) (h : PH) : VX K g 5 0 0 (a_fin K g 0 0 em_i) 71 [(0, p_rf g o0), (1, .int i1)] [] h (fX12_wants_J71_24 rc kx o0 i1 h) := by
  unfold fX12_wants_J71_24
  refine r_iinc (lv' := [(0, p_rf g o0)]) C dX12_wants_71 1 rfl k_i1 (by decide) (fun _ => rfl) (fun x1 => ?_)
  refine r_aload_n C dX12_wants_74 1 rfl ?_
  refine r_bipush C dX12_wants_75 k_b59 ?_
  refine r_cvi (As := [.int (59 : Int32)]) (st := []) C wv_X12_159 (tcX12_passes K.2.1 g hg o0 (59 : Int32) h) (Nat.le_of_ble_eq_true rfl) rfl rfl (Nat.le_of_ble_eq_true rfl) dX12_wants_77 ⟨Nat.le_of_ble_eq_true rfl, Nat.le_of_ble_eq_true rfl⟩ (fun x2 h3 => ?_)
  refine r_istore_n (lv9 := [(2, .int x2), (1, .int x1), (0, p_rf g o0)]) C dX12_wants_80 (by decide) rfl ?_
  refine r_goto (tgt := 24) C dX12_wants_81 (by decide) ?_
  refine r_perm (lv' := [(0, p_rf g o0), (1, .int x1), (2, .int x2)]) [2, 1, 0] rfl ?_
  exact hr x1 x2 h3
set_option maxRecDepth 100000 in
set_option maxHeartbeats 4000000 in
theorem tX12_wants_L24 {K : AC} {g : WG} (hg : p_al g = false)  (C : Cx K g cX12_wants 5 RX12 (some .int) "wants" 5 0 0) (o0 : Nat) {kx : Int32 → PH → Option (Int32 × PH)} (hk : ∀ (i1 : Int32) (h : PH), VX K g 5 0 0 (a_fin K g 0 0 em_i) 84 [(0, p_rf g o0), (1, .int i1)] [] h (kx i1 h)) : ∀ (n : Nat) (i1 : Int32) (i2 : Int32) (h : PH), VX K g 5 0 0 (a_fin K g 0 0 em_i) 24 [(0, p_rf g o0), (1, .int i1), (2, .int i2)] [] h (fX12_wants_L24 o0 kx n i1 i2 h) := by
  intro n
  induction n with
  | zero =>
    intros
    exact r_none
  | succ n ih =>
    intro i1 i2 h
    rw [fX12_wants_L24]
    refine r_iload_n C dX12_wants_24 2 rfl ?_
    refine r_if_eq (tgt := 84) C dX12_wants_25 (by decide) ?_ ?_
    · refine r_perm (lv' := [(0, p_rf g o0), (1, .int i1)]) [0, 1] rfl ?_
      exact hk i1 h
    · refine r_aload_n C dX12_wants_28 0 rfl ?_
      refine r_cvi (As := []) (st := []) C wv_X12_151 (tcX12_fine K.2.1 g hg o0 h) (Nat.le_of_ble_eq_true rfl) rfl rfl (Nat.le_of_ble_eq_true rfl) dX12_wants_29 ⟨Nat.le_of_ble_eq_true rfl, Nat.le_of_ble_eq_true rfl⟩ (fun x1 h2 => ?_)
      refine r_if_eq (tgt := 84) C dX12_wants_32 (by decide) ?_ ?_
      · refine r_perm (lv' := [(0, p_rf g o0), (1, .int i1)]) [0, 1] rfl ?_
        exact hk i1 h2
      · refine r_aload_n C dX12_wants_35 0 rfl ?_
        refine r_gi C wf_X12_126_11 dX12_wants_36 (fun x3 => ?_)
        refine r_iload_n C dX12_wants_39 1 rfl ?_
        refine r_iadd C dX12_wants_40 ?_
        refine r_bipush C dX12_wants_41 k_b6 ?_
        refine r_icmp_ne (tgt := 57) C dX12_wants_43 (by decide) ?_ ?_
        · refine r_aload_n C dX12_wants_57 0 rfl ?_
          refine r_gr C wf_X12_39_11 dX12_wants_58 (fun q4 => ?_)
          refine r_iload_n C dX12_wants_61 1 rfl ?_
          refine r_aload_n C dX12_wants_62 0 rfl ?_
          refine r_bipush C dX12_wants_63 k_b9 ?_
          refine r_iload_n C dX12_wants_65 1 rfl ?_
          refine r_imul C dX12_wants_66 ?_
          refine r_cvi (As := [.int ((9 : Int32) * i1)]) (st := [.int i1, p_rf g q4]) C wv_X12_196 (tcX12_readWant K.2.1 g hg o0 ((9 : Int32) * i1) h2) (Nat.le_of_ble_eq_true rfl) rfl rfl (Nat.le_of_ble_eq_true rfl) dX12_wants_67 ⟨Nat.le_of_ble_eq_true rfl, Nat.le_of_ble_eq_true rfl⟩ (fun x5 h6 => ?_)
          refine r_iast C dX12_wants_70 (fun h7 => ?_)
          refine r_perm (lv' := [(0, p_rf g o0), (1, .int i1)]) [0, 1] rfl ?_
          exact tX12_wants_J71_24 hg C o0 i1 ih hk h7
        · refine r_aload_n C dX12_wants_46 0 rfl ?_
          refine r_aload_n C dX12_wants_47 0 rfl ?_
          refine r_gi C wf_X12_141_11 dX12_wants_48 (fun x8 => ?_)
          refine r_cvv (As := [.int x8]) (st := []) C wv_X12_163 (tcX12_fault K.2.1 g hg o0 x8 h2) (Nat.le_of_ble_eq_true rfl) rfl rfl (Nat.le_of_ble_eq_true rfl) dX12_wants_51 ⟨Nat.le_of_ble_eq_true rfl, Nat.le_of_ble_eq_true rfl⟩ (fun h9 => ?_)
          refine r_goto (tgt := 71) C dX12_wants_54 (by decide) ?_
          refine r_perm (lv' := [(0, p_rf g o0), (1, .int i1)]) [0, 1] rfl ?_
          exact tX12_wants_J71_24 hg C o0 i1 ih hk h9
set_option maxRecDepth 100000 in
set_option maxHeartbeats 4000000 in
theorem tX12_wants_L123 {K : AC} {g : WG} (hg : p_al g = false)  (C : Cx K g cX12_wants 5 RX12 (some .int) "wants" 5 0 0) (o0 : Nat) (i1 : Int32) (i3 : Int32) {kx : PH → Option (Int32 × PH)} (hk : ∀  (h : PH), VX K g 5 0 0 (a_fin K g 0 0 em_i) 163 [(0, p_rf g o0), (1, .int i1), (3, .int i3)] [] h (kx h)) : ∀ (n : Nat) (i4 : Int32) (h : PH), VX K g 5 0 0 (a_fin K g 0 0 em_i) 123 [(0, p_rf g o0), (1, .int i1), (3, .int i3), (4, .int i4)] [] h (fX12_wants_L123 o0 i1 i3 kx n i4 h) := by
  intro n
  induction n with
  | zero =>
    intros
    exact r_none
  | succ n ih =>
    intro i4 h
    rw [fX12_wants_L123]
    refine r_iload C dX12_wants_123 3 rfl ?_
    refine r_bipush C dX12_wants_125 k_b9 ?_
    refine r_icmp_ge (tgt := 163) C dX12_wants_127 (by decide) ?_ ?_
    · refine r_perm (lv' := [(0, p_rf g o0), (1, .int i1), (3, .int i3)]) [0, 1, 2] rfl ?_
      exact hk h
    · refine r_aload_n C dX12_wants_130 0 rfl ?_
      refine r_gr C wf_X12_25_11 dX12_wants_131 (fun q1 => ?_)
      refine r_bipush C dX12_wants_134 k_b9 ?_
      refine r_aload_n C dX12_wants_136 0 rfl ?_
      refine r_gi C wf_X12_126_11 dX12_wants_137 (fun x2 => ?_)
      refine r_imul C dX12_wants_140 ?_
      refine r_iload C dX12_wants_141 3 rfl ?_
      refine r_iadd C dX12_wants_143 ?_
      refine r_aload_n C dX12_wants_144 0 rfl ?_
      refine r_gr C wf_X12_36_11 dX12_wants_145 (fun q3 => ?_)
      refine r_bipush C dX12_wants_148 k_b9 ?_
      refine r_iload_n C dX12_wants_150 2 rfl ?_
      refine r_imul C dX12_wants_151 ?_
      refine r_iload C dX12_wants_152 3 rfl ?_
      refine r_iadd C dX12_wants_154 ?_
      refine r_iald C dX12_wants_155 (fun x4 => ?_)
      refine r_iast C dX12_wants_156 (fun h5 => ?_)
      refine r_iinc (lv' := [(0, p_rf g o0), (1, .int i1), (3, .int i3)]) C dX12_wants_157 3 rfl k_i1 (by decide) (fun _ => rfl) (fun x6 => ?_)
      refine r_goto (tgt := 123) C dX12_wants_160 (by decide) ?_
      refine r_perm (lv' := [(0, p_rf g o0), (1, .int i1), (3, .int i3), (4, .int x6)]) [1, 2, 3, 0] rfl ?_
      exact ih x6 h5
set_option maxRecDepth 100000 in
set_option maxHeartbeats 4000000 in
theorem tX12_wants_L100 {K : AC} {g : WG} (hg : p_al g = false)  (C : Cx K g cX12_wants 5 RX12 (some .int) "wants" 5 0 0) (o0 : Nat) (i1 : Int32) {kx : PH → Option (Int32 × PH)} (hk : ∀  (h : PH), VX K g 5 0 0 (a_fin K g 0 0 em_i) 179 [(0, p_rf g o0), (1, .int i1)] [] h (kx h)) : ∀ (n : Nat) (i3 : Int32) (h : PH), VX K g 5 0 0 (a_fin K g 0 0 em_i) 100 [(0, p_rf g o0), (1, .int i1), (3, .int i3)] [] h (fX12_wants_L100 o0 i1 kx n i3 h) := by
  intro n
  induction n with
  | zero =>
    intros
    exact r_none
  | succ n ih =>
    intro i3 h
    rw [fX12_wants_L100]
    refine r_iload_n C dX12_wants_100 2 rfl ?_
    refine r_iload_n C dX12_wants_101 1 rfl ?_
    refine r_icmp_ge (tgt := 179) C dX12_wants_102 (by decide) ?_ ?_
    · refine r_perm (lv' := [(0, p_rf g o0), (1, .int i1)]) [0, 1] rfl ?_
      exact hk h
    · refine r_aload_n C dX12_wants_105 0 rfl ?_
      refine r_gr C wf_X12_22_11 dX12_wants_106 (fun q1 => ?_)
      refine r_aload_n C dX12_wants_109 0 rfl ?_
      refine r_gi C wf_X12_126_11 dX12_wants_110 (fun x2 => ?_)
      refine r_aload_n C dX12_wants_113 0 rfl ?_
      refine r_gr C wf_X12_39_11 dX12_wants_114 (fun q3 => ?_)
      refine r_iload_n C dX12_wants_117 2 rfl ?_
      refine r_iald C dX12_wants_118 (fun x4 => ?_)
      refine r_iast C dX12_wants_119 (fun h5 => ?_)
      refine r_iconst C dX12_wants_120 k_i0 ?_
      refine r_istore (lv9 := [(4, .int (0 : Int32)), (0, p_rf g o0), (1, .int i1), (3, .int i3)]) C dX12_wants_121 (by decide) rfl ?_
      refine r_perm (lv' := [(0, p_rf g o0), (1, .int i1), (3, .int i3), (4, .int (0 : Int32))]) [1, 2, 3, 0] rfl ?_
      refine tX12_wants_L123 hg C o0 i1 i3 (fun h6 => ?_) FU (0 : Int32) h5
      refine r_aload_n C dX12_wants_163 0 rfl ?_
      refine r_dup C dX12_wants_164 rfl ?_
      refine r_gi C wf_X12_126_11 dX12_wants_165 (fun x7 => ?_)
      refine r_iconst C dX12_wants_168 k_i1 ?_
      refine r_iadd C dX12_wants_169 ?_
      refine r_pi C wf_X12_126_11 dX12_wants_170 (fun h8 => ?_)
      refine r_iinc (lv' := [(0, p_rf g o0), (1, .int i1)]) C dX12_wants_173 2 rfl k_i1 (by decide) (fun _ => rfl) (fun x9 => ?_)
      refine r_goto (tgt := 100) C dX12_wants_176 (by decide) ?_
      refine r_perm (lv' := [(0, p_rf g o0), (1, .int i1), (3, .int x9)]) [1, 2, 0] rfl ?_
      exact ih x9 h8
set_option maxRecDepth 100000 in
set_option maxHeartbeats 4000000 in
theorem tcX12_wants (l : Launch) (g : WG) (hg : p_al g = false) (o0 : Nat) (h : PH) : CT l g 5 0 0 yX12_wants cX12_wants 5 (some .int) em_i [p_rf g o0] h (fX12_wants o0 h) := by
  refine CT_of (own := RX12) (nm := "wants") (by decide +kernel) (Nat.le_of_ble_eq_true rfl) rfl rfl rfl ⟨rfl, rfl⟩ (fun K hK C => ?_)
  subst hK
  unfold fX12_wants
  show VX K g _ _ _ _ _ [(0, p_rf g o0)] _ _ _
  refine r_aload_n C dX12_wants_0 0 rfl ?_
  refine r_iconst C dX12_wants_1 k_i0 ?_
  refine r_pi C wf_X12_109_11 dX12_wants_2 (fun h1 => ?_)
  refine r_aload_n C dX12_wants_5 0 rfl ?_
  refine r_bipush C dX12_wants_6 k_b59 ?_
  refine r_cvv (As := [.int (59 : Int32)]) (st := []) C wv_X12_177 (tcX12_beginText K.2.1 g hg o0 (59 : Int32) h1) (Nat.le_of_ble_eq_true rfl) rfl rfl (Nat.le_of_ble_eq_true rfl) dX12_wants_8 ⟨Nat.le_of_ble_eq_true rfl, Nat.le_of_ble_eq_true rfl⟩ (fun h2 => ?_)
  refine r_aload_n C dX12_wants_11 0 rfl ?_
  refine r_gi C wf_X12_135_11 dX12_wants_12 (fun x3 => ?_)
  refine r_if_ne (tgt := 20) C dX12_wants_15 (by decide) ?_ ?_
  · refine r_iconst C dX12_wants_20 k_i0 ?_
    refine r_istore_n (lv9 := [(1, .int (0 : Int32)), (0, p_rf g o0)]) C dX12_wants_21 (by decide) rfl ?_
    refine r_iconst C dX12_wants_22 k_i1 ?_
    refine r_istore_n (lv9 := [(2, .int (1 : Int32)), (1, .int (0 : Int32)), (0, p_rf g o0)]) C dX12_wants_23 (by decide) rfl ?_
    refine r_perm (lv' := [(0, p_rf g o0), (1, .int (0 : Int32)), (2, .int (1 : Int32))]) [2, 1, 0] rfl ?_
    refine tX12_wants_L24 hg C o0 (fun x4 h5 => ?_) FU (0 : Int32) (1 : Int32) h2
    refine r_aload_n C dX12_wants_84 0 rfl ?_
    refine r_cvi (As := []) (st := []) C wv_X12_183 (tcX12_wasRight K.2.1 g hg o0 h5) (Nat.le_of_ble_eq_true rfl) rfl rfl (Nat.le_of_ble_eq_true rfl) dX12_wants_85 ⟨Nat.le_of_ble_eq_true rfl, Nat.le_of_ble_eq_true rfl⟩ (fun x6 h7 => ?_)
    refine r_if_ne (tgt := 98) C dX12_wants_88 (by decide) ?_ ?_
    · refine r_iconst C dX12_wants_98 k_i0 ?_
      refine r_istore_n (lv9 := [(3, .int (0 : Int32)), (0, p_rf g o0), (1, .int x4)]) C dX12_wants_99 (by decide) rfl ?_
      refine r_perm (lv' := [(0, p_rf g o0), (1, .int x4), (3, .int (0 : Int32))]) [1, 2, 0] rfl ?_
      refine tX12_wants_L100 hg C o0 x4 (fun h8 => ?_) FU (0 : Int32) h7
      refine r_aload_n C dX12_wants_179 0 rfl ?_
      refine r_cvv (As := []) (st := []) C wv_X12_186 (tcX12_told K.2.1 g hg o0 h8) (Nat.le_of_ble_eq_true rfl) rfl rfl (Nat.le_of_ble_eq_true rfl) dX12_wants_180 ⟨Nat.le_of_ble_eq_true rfl, Nat.le_of_ble_eq_true rfl⟩ (fun h9 => ?_)
      refine r_iload_n C dX12_wants_183 1 rfl ?_
      exact r_iret C dX12_wants_184
    · refine r_iconst C dX12_wants_91 k_im1 ?_
      refine r_aload_n C dX12_wants_92 0 rfl ?_
      refine r_gi C wf_X12_144_11 dX12_wants_93 (fun x10 => ?_)
      refine r_isub C dX12_wants_96 ?_
      exact r_iret C dX12_wants_97
  · refine r_iconst C dX12_wants_18 k_i0 ?_
    exact r_iret C dX12_wants_19
set_option maxRecDepth 100000 in
set_option maxHeartbeats 4000000 in
theorem tcX12_heldBy (l : Launch) (g : WG) (hg : p_al g = false) {d dr : Nat} (hdd : dr + 3 ≤ d) {rS : Nat → Int32 → PH → Option (Int32 × PH)} (hrS : ∀ (o : Nat) (a : Int32) (h : PH), CT l g dr 0 0 yX12_sum cX12_sum 5 (some .int) em_i [p_rf g o, .int a] h (rS o a h)) (o0 : Nat) (i1 : Int32) (h : PH) : CT l g d 0 0 yX12_heldBy cX12_heldBy 3 (some .int) em_i [p_rf g o0, .int i1] h (fX12_heldBy rS o0 i1 h) := by
  refine CT_of (own := RX12) (nm := "heldBy") (by decide +kernel) (Nat.le_of_ble_eq_true rfl) rfl rfl rfl ⟨rfl, rfl⟩ (fun K hK C => ?_)
  subst hK
  unfold fX12_heldBy
  show VX K g _ _ _ _ _ [(0, p_rf g o0), (1, .int i1)] _ _ _
  refine r_aload_n C dX12_heldBy_0 0 rfl ?_
  refine r_iload_n C dX12_heldBy_1 1 rfl ?_
  refine r_cvi (As := [.int i1]) (st := []) C wv_X12_200 (hrS o0 i1 h) (by omega) rfl rfl (Nat.le_of_ble_eq_true rfl) dX12_heldBy_2 ⟨Nat.le_of_ble_eq_true rfl, Nat.le_of_ble_eq_true rfl⟩ (fun x1 h2 => ?_)
  refine r_istore_n (lv9 := [(2, .int x1), (0, p_rf g o0), (1, .int i1)]) C dX12_heldBy_5 (by decide) rfl ?_
  refine r_aload_n C dX12_heldBy_6 1 rfl ?_
  refine r_bipush C dX12_heldBy_7 k_b60 ?_
  refine r_cvi (As := [.int (60 : Int32)]) (st := []) C wv_X12_159 (tcX12_passes K.2.1 g hg o0 (60 : Int32) h2) (by omega) rfl rfl (Nat.le_of_ble_eq_true rfl) dX12_heldBy_9 ⟨Nat.le_of_ble_eq_true rfl, Nat.le_of_ble_eq_true rfl⟩ (fun x3 h4 => ?_)
  refine r_if_eq (tgt := 30) C dX12_heldBy_12 (by decide) ?_ ?_
  · refine r_aload_n C dX12_heldBy_30 1 rfl ?_
    refine r_bipush C dX12_heldBy_31 k_b62 ?_
    refine r_cvi (As := [.int (62 : Int32)]) (st := []) C wv_X12_159 (tcX12_passes K.2.1 g hg o0 (62 : Int32) h4) (by omega) rfl rfl (Nat.le_of_ble_eq_true rfl) dX12_heldBy_33 ⟨Nat.le_of_ble_eq_true rfl, Nat.le_of_ble_eq_true rfl⟩ (fun x5 h6 => ?_)
    refine r_if_eq (tgt := 54) C dX12_heldBy_36 (by decide) ?_ ?_
    · refine r_aload_n C dX12_heldBy_54 1 rfl ?_
      refine r_bipush C dX12_heldBy_55 k_b61 ?_
      refine r_cvi (As := [.int (61 : Int32)]) (st := []) C wv_X12_159 (tcX12_passes K.2.1 g hg o0 (61 : Int32) h6) (by omega) rfl rfl (Nat.le_of_ble_eq_true rfl) dX12_heldBy_57 ⟨Nat.le_of_ble_eq_true rfl, Nat.le_of_ble_eq_true rfl⟩ (fun x7 h8 => ?_)
      refine r_if_eq (tgt := 78) C dX12_heldBy_60 (by decide) ?_ ?_
      · refine r_iload_n C dX12_heldBy_78 0 rfl ?_
        exact r_iret C dX12_heldBy_79
      · refine r_iload_n C dX12_heldBy_63 0 rfl ?_
        refine r_aload_n C dX12_heldBy_64 1 rfl ?_
        refine r_iload_n C dX12_heldBy_65 2 rfl ?_
        refine r_cvi (As := [.int i1]) (st := [.int x1]) C wv_X12_200 (hrS o0 i1 h8) (by omega) rfl rfl (Nat.le_of_ble_eq_true rfl) dX12_heldBy_66 ⟨Nat.le_of_ble_eq_true rfl, Nat.le_of_ble_eq_true rfl⟩ (fun x9 h10 => ?_)
        refine r_icmp_ne (tgt := 76) C dX12_heldBy_69 (by decide) ?_ ?_
        · refine r_iconst C dX12_heldBy_76 k_i0 ?_
          exact r_iret C dX12_heldBy_77
        · refine r_iconst C dX12_heldBy_72 k_i1 ?_
          refine r_goto (tgt := 77) C dX12_heldBy_73 (by decide) ?_
          exact r_iret C dX12_heldBy_77
    · refine r_iload_n C dX12_heldBy_39 0 rfl ?_
      refine r_aload_n C dX12_heldBy_40 1 rfl ?_
      refine r_iload_n C dX12_heldBy_41 2 rfl ?_
      refine r_cvi (As := [.int i1]) (st := [.int x1]) C wv_X12_200 (hrS o0 i1 h6) (by omega) rfl rfl (Nat.le_of_ble_eq_true rfl) dX12_heldBy_42 ⟨Nat.le_of_ble_eq_true rfl, Nat.le_of_ble_eq_true rfl⟩ (fun x11 h12 => ?_)
      refine r_icmp_le (tgt := 52) C dX12_heldBy_45 (by decide) ?_ ?_
      · refine r_iconst C dX12_heldBy_52 k_i0 ?_
        exact r_iret C dX12_heldBy_53
      · refine r_iconst C dX12_heldBy_48 k_i1 ?_
        refine r_goto (tgt := 53) C dX12_heldBy_49 (by decide) ?_
        exact r_iret C dX12_heldBy_53
  · refine r_iload_n C dX12_heldBy_15 0 rfl ?_
    refine r_aload_n C dX12_heldBy_16 1 rfl ?_
    refine r_iload_n C dX12_heldBy_17 2 rfl ?_
    refine r_cvi (As := [.int i1]) (st := [.int x1]) C wv_X12_200 (hrS o0 i1 h4) (by omega) rfl rfl (Nat.le_of_ble_eq_true rfl) dX12_heldBy_18 ⟨Nat.le_of_ble_eq_true rfl, Nat.le_of_ble_eq_true rfl⟩ (fun x13 h14 => ?_)
    refine r_icmp_ge (tgt := 28) C dX12_heldBy_21 (by decide) ?_ ?_
    · refine r_iconst C dX12_heldBy_28 k_i0 ?_
      exact r_iret C dX12_heldBy_29
    · refine r_iconst C dX12_heldBy_24 k_i1 ?_
      refine r_goto (tgt := 29) C dX12_heldBy_25 (by decide) ?_
      exact r_iret C dX12_heldBy_29
set_option maxRecDepth 100000 in
set_option maxHeartbeats 4000000 in
theorem tcX12_letterOf (l : Launch) (g : WG) (hg : p_al g = false) (i0 : Int32) (h : PH) : CT l g 1 0 0 yX12_letterOf cX12_letterOf 1 (some .int) em_i [.int i0] h (fX12_letterOf i0 h) := by
  refine CT_of (own := RX12) (nm := "letterOf") (by decide +kernel) (Nat.le_of_ble_eq_true rfl) rfl rfl rfl ⟨rfl, rfl⟩ (fun K hK C => ?_)
  subst hK
  unfold fX12_letterOf
  show VX K g _ _ _ _ _ [(0, .int i0)] _ _ _
  refine r_iload_n C dX12_letterOf_0 0 rfl ?_
  refine r_bipush C dX12_letterOf_1 k_b118 ?_
  refine r_icmp_ne (tgt := 10) C dX12_letterOf_3 (by decide) ?_ ?_
  · refine r_iload_n C dX12_letterOf_10 0 rfl ?_
    refine r_bipush C dX12_letterOf_11 k_b116 ?_
    refine r_icmp_ne (tgt := 20) C dX12_letterOf_13 (by decide) ?_ ?_
    · refine r_iload_n C dX12_letterOf_20 0 rfl ?_
      refine r_bipush C dX12_letterOf_21 k_b103 ?_
      refine r_icmp_ne (tgt := 30) C dX12_letterOf_23 (by decide) ?_ ?_
      · refine r_iload_n C dX12_letterOf_30 0 rfl ?_
        refine r_bipush C dX12_letterOf_31 k_b101 ?_
        refine r_icmp_ne (tgt := 40) C dX12_letterOf_33 (by decide) ?_ ?_
        · refine r_iload_n C dX12_letterOf_40 0 rfl ?_
          refine r_bipush C dX12_letterOf_41 k_b100 ?_
          refine r_icmp_ne (tgt := 50) C dX12_letterOf_43 (by decide) ?_ ?_
          · refine r_iload_n C dX12_letterOf_50 0 rfl ?_
            refine r_bipush C dX12_letterOf_51 k_b115 ?_
            refine r_icmp_ne (tgt := 60) C dX12_letterOf_53 (by decide) ?_ ?_
            · refine r_iload_n C dX12_letterOf_60 0 rfl ?_
              refine r_bipush C dX12_letterOf_61 k_b110 ?_
              refine r_icmp_ne (tgt := 71) C dX12_letterOf_63 (by decide) ?_ ?_
              · refine r_iconst C dX12_letterOf_71 k_im1 ?_
                exact r_iret C dX12_letterOf_72
              · refine r_bipush C dX12_letterOf_66 k_b6 ?_
                refine r_goto (tgt := 72) C dX12_letterOf_68 (by decide) ?_
                exact r_iret C dX12_letterOf_72
            · refine r_iconst C dX12_letterOf_56 k_i5 ?_
              refine r_goto (tgt := 72) C dX12_letterOf_57 (by decide) ?_
              exact r_iret C dX12_letterOf_72
          · refine r_iconst C dX12_letterOf_46 k_i4 ?_
            refine r_goto (tgt := 72) C dX12_letterOf_47 (by decide) ?_
            exact r_iret C dX12_letterOf_72
        · refine r_iconst C dX12_letterOf_36 k_i3 ?_
          refine r_goto (tgt := 72) C dX12_letterOf_37 (by decide) ?_
          exact r_iret C dX12_letterOf_72
      · refine r_iconst C dX12_letterOf_26 k_i2 ?_
        refine r_goto (tgt := 72) C dX12_letterOf_27 (by decide) ?_
        exact r_iret C dX12_letterOf_72
    · refine r_iconst C dX12_letterOf_16 k_i1 ?_
      refine r_goto (tgt := 72) C dX12_letterOf_17 (by decide) ?_
      exact r_iret C dX12_letterOf_72
  · refine r_iconst C dX12_letterOf_6 k_i0 ?_
    refine r_goto (tgt := 72) C dX12_letterOf_7 (by decide) ?_
    exact r_iret C dX12_letterOf_72
set_option maxRecDepth 100000 in
set_option maxHeartbeats 4000000 in
theorem tX12_thing_J67 {K : AC} {g : WG} (hg : p_al g = false)  {d dr : Nat} (hdd : dr + 5 ≤ d) {rH : Nat → Int32 → PH → Option (Int32 × PH)} (hrH : ∀ (o : Nat) (a : Int32) (h : PH), CT K.2.1 g dr 0 0 yX12_heldBy cX12_heldBy 3 (some .int) em_i [p_rf g o, .int a] h (rH o a h)) {rT : Nat → Int32 → PH → Option (Int32 × PH)} (hrT : ∀ (o : Nat) (a : Int32) (h : PH), CT K.2.1 g dr 0 0 yX12_thing cX12_thing 4 (some .int) em_i [p_rf g o, .int a] h (rT o a h)) (C : Cx K g cX12_thing 4 RX12 (some .int) "thing" d 0 0) (o0 : Nat) (i2 : Int32)  (h : PH) : VX K g 4 0 0 (a_fin K g 0 0 em_i) 67 [(0, p_rf g o0), (2, .int i2)] [] h (fX12_thing_J67 rH rT o0 i2 h) := by
  unfold fX12_thing_J67
  refine r_iload_n C dX12_thing_67 1 rfl ?_
  refine r_bipush C dX12_thing_68 k_b48 ?_
  refine r_bipush C dX12_thing_70 k_b57 ?_
  refine r_csi (As := [.int i2, .int (48 : Int32), .int (57 : Int32)]) (st := []) C ws_X12_119 (tcX12_in K.2.1 g hg i2 (48 : Int32) (57 : Int32) h) (by omega) rfl rfl (Nat.le_of_ble_eq_true rfl) dX12_thing_72 ⟨Nat.le_of_ble_eq_true rfl, Nat.le_of_ble_eq_true rfl⟩ (fun x1 h2 => ?_)
  refine r_if_eq (tgt := 84) C dX12_thing_75 (by decide) ?_ ?_
  · refine r_iload_n C dX12_thing_84 1 rfl ?_
    refine r_csi (As := [.int i2]) (st := []) C ws_X12_219 (tcX12_letterOf K.2.1 g hg i2 h2) (by omega) rfl rfl (Nat.le_of_ble_eq_true rfl) dX12_thing_85 ⟨Nat.le_of_ble_eq_true rfl, Nat.le_of_ble_eq_true rfl⟩ (fun x3 h4 => ?_)
    refine r_iconst C dX12_thing_88 k_im1 ?_
    refine r_icmp_ne (tgt := 102) C dX12_thing_89 (by decide) ?_ ?_
    · refine r_aload_n C dX12_thing_102 0 rfl ?_
      refine r_dup C dX12_thing_103 rfl ?_
      refine r_gi C wf_X12_141_11 dX12_thing_104 (fun x5 => ?_)
      refine r_iconst C dX12_thing_107 k_i1 ?_
      refine r_iadd C dX12_thing_108 ?_
      refine r_pi C wf_X12_141_11 dX12_thing_109 (fun h6 => ?_)
      refine r_aload_n C dX12_thing_112 0 rfl ?_
      refine r_gi C wf_X12_222_11 dX12_thing_113 (fun x7 => ?_)
      refine r_if_eq (tgt := 131) C dX12_thing_116 (by decide) ?_ ?_
      · refine r_iconst C dX12_thing_131 k_i0 ?_
        exact r_iret C dX12_thing_132
      · refine r_aload_n C dX12_thing_119 0 rfl ?_
        refine r_gr C wf_X12_48_11 dX12_thing_120 (fun q8 => ?_)
        refine r_iload_n C dX12_thing_123 1 rfl ?_
        refine r_csi (As := [.int i2]) (st := [p_rf g q8]) C ws_X12_219 (tcX12_letterOf K.2.1 g hg i2 h6) (by omega) rfl rfl (Nat.le_of_ble_eq_true rfl) dX12_thing_124 ⟨Nat.le_of_ble_eq_true rfl, Nat.le_of_ble_eq_true rfl⟩ (fun x9 h10 => ?_)
        refine r_iald C dX12_thing_127 (fun x11 => ?_)
        refine r_goto (tgt := 132) C dX12_thing_128 (by decide) ?_
        exact r_iret C dX12_thing_132
    · refine r_aload_n C dX12_thing_92 0 rfl ?_
      refine r_aload_n C dX12_thing_93 0 rfl ?_
      refine r_gi C wf_X12_141_11 dX12_thing_94 (fun x12 => ?_)
      refine r_cvv (As := [.int x12]) (st := []) C wv_X12_163 (tcX12_fault K.2.1 g hg o0 x12 h4) (by omega) rfl rfl (Nat.le_of_ble_eq_true rfl) dX12_thing_97 ⟨Nat.le_of_ble_eq_true rfl, Nat.le_of_ble_eq_true rfl⟩ (fun h13 => ?_)
      refine r_iconst C dX12_thing_100 k_i0 ?_
      exact r_iret C dX12_thing_101
  · refine r_aload_n C dX12_thing_78 0 rfl ?_
    refine r_iconst C dX12_thing_79 k_i3 ?_
    refine r_cvi (As := [.int (3 : Int32)]) (st := []) C wv_X12_216 (tcX12_number K.2.1 g hg o0 (3 : Int32) h2) (by omega) rfl rfl (Nat.le_of_ble_eq_true rfl) dX12_thing_80 ⟨Nat.le_of_ble_eq_true rfl, Nat.le_of_ble_eq_true rfl⟩ (fun x14 h15 => ?_)
    exact r_iret C dX12_thing_83
set_option maxRecDepth 100000 in
set_option maxHeartbeats 4000000 in
theorem tcX12_thing (l : Launch) (g : WG) (hg : p_al g = false) {d dr : Nat} (hdd : dr + 5 ≤ d) {rH : Nat → Int32 → PH → Option (Int32 × PH)} (hrH : ∀ (o : Nat) (a : Int32) (h : PH), CT l g dr 0 0 yX12_heldBy cX12_heldBy 3 (some .int) em_i [p_rf g o, .int a] h (rH o a h)) {rT : Nat → Int32 → PH → Option (Int32 × PH)} (hrT : ∀ (o : Nat) (a : Int32) (h : PH), CT l g dr 0 0 yX12_thing cX12_thing 4 (some .int) em_i [p_rf g o, .int a] h (rT o a h)) (o0 : Nat) (i1 : Int32) (h : PH) : CT l g d 0 0 yX12_thing cX12_thing 4 (some .int) em_i [p_rf g o0, .int i1] h (fX12_thing rH rT o0 i1 h) := by
  refine CT_of (own := RX12) (nm := "thing") (by decide +kernel) (Nat.le_of_ble_eq_true rfl) rfl rfl rfl ⟨rfl, rfl⟩ (fun K hK C => ?_)
  subst hK
  unfold fX12_thing
  show VX K g _ _ _ _ _ [(0, p_rf g o0), (1, .int i1)] _ _ _
  refine r_aload_n C dX12_thing_0 0 rfl ?_
  refine r_bipush C dX12_thing_1 k_b45 ?_
  refine r_cvi (As := [.int (45 : Int32)]) (st := []) C wv_X12_159 (tcX12_passes K.2.1 g hg o0 (45 : Int32) h) (by omega) rfl rfl (Nat.le_of_ble_eq_true rfl) dX12_thing_3 ⟨Nat.le_of_ble_eq_true rfl, Nat.le_of_ble_eq_true rfl⟩ (fun x1 h2 => ?_)
  refine r_if_eq (tgt := 16) C dX12_thing_6 (by decide) ?_ ?_
  · refine r_aload_n C dX12_thing_16 0 rfl ?_
    refine r_cvi (As := []) (st := []) C wv_X12_151 (tcX12_fine K.2.1 g hg o0 h2) (by omega) rfl rfl (Nat.le_of_ble_eq_true rfl) dX12_thing_17 ⟨Nat.le_of_ble_eq_true rfl, Nat.le_of_ble_eq_true rfl⟩ (fun x3 h4 => ?_)
    refine r_if_ne (tgt := 25) C dX12_thing_20 (by decide) ?_ ?_
    · refine r_aload_n C dX12_thing_25 0 rfl ?_
      refine r_cvi (As := []) (st := []) C wv_X12_155 (tcX12_here K.2.1 g hg o0 h4) (by omega) rfl rfl (Nat.le_of_ble_eq_true rfl) dX12_thing_26 ⟨Nat.le_of_ble_eq_true rfl, Nat.le_of_ble_eq_true rfl⟩ (fun x5 h6 => ?_)
      refine r_istore_n (lv9 := [(2, .int x5), (0, p_rf g o0), (1, .int i1)]) C dX12_thing_29 (by decide) rfl ?_
      refine r_iload_n C dX12_thing_30 0 rfl ?_
      refine r_bipush C dX12_thing_31 k_b40 ?_
      refine r_icmp_ne (tgt := 67) C dX12_thing_33 (by decide) ?_ ?_
      · refine r_perm (lv' := [(0, p_rf g o0), (2, .int x5)]) [1, 0] rfl ?_
        exact tX12_thing_J67 hg hdd hrH hrT C o0 x5 h6
      · refine r_iload_n C dX12_thing_36 2 rfl ?_
        refine r_iconst C dX12_thing_37 k_i4 ?_
        refine r_icmp_ge (tgt := 67) C dX12_thing_38 (by decide) ?_ ?_
        · refine r_perm (lv' := [(0, p_rf g o0), (2, .int x5)]) [1, 0] rfl ?_
          exact tX12_thing_J67 hg hdd hrH hrT C o0 x5 h6
        · refine r_aload_n C dX12_thing_41 1 rfl ?_
          refine r_dup C dX12_thing_42 rfl ?_
          refine r_gi C wf_X12_141_11 dX12_thing_43 (fun x7 => ?_)
          refine r_iconst C dX12_thing_46 k_i1 ?_
          refine r_iadd C dX12_thing_47 ?_
          refine r_pi C wf_X12_141_11 dX12_thing_48 (fun h8 => ?_)
          refine r_aload_n C dX12_thing_51 1 rfl ?_
          refine r_iload_n C dX12_thing_52 2 rfl ?_
          refine r_iconst C dX12_thing_53 k_i1 ?_
          refine r_iadd C dX12_thing_54 ?_
          refine r_cvi (As := [.int (i1 + (1 : Int32))]) (st := []) C wv_X12_209 (hrH o0 (i1 + (1 : Int32)) h8) (by omega) rfl rfl (Nat.le_of_ble_eq_true rfl) dX12_thing_55 ⟨Nat.le_of_ble_eq_true rfl, Nat.le_of_ble_eq_true rfl⟩ (fun x9 h10 => ?_)
          refine r_istore_n (lv9 := [(3, .int x9), (2, .int x5), (0, p_rf g o0), (1, .int i1)]) C dX12_thing_58 (by decide) rfl ?_
          refine r_aload_n C dX12_thing_59 2 rfl ?_
          refine r_bipush C dX12_thing_60 k_b41 ?_
          refine r_cvv (As := [.int (41 : Int32)]) (st := []) C wv_X12_212 (tcX12_need K.2.1 g hg o0 (41 : Int32) h10) (by omega) rfl rfl (Nat.le_of_ble_eq_true rfl) dX12_thing_62 ⟨Nat.le_of_ble_eq_true rfl, Nat.le_of_ble_eq_true rfl⟩ (fun h11 => ?_)
          refine r_iload_n C dX12_thing_65 0 rfl ?_
          exact r_iret C dX12_thing_66
    · refine r_iconst C dX12_thing_23 k_i0 ?_
      exact r_iret C dX12_thing_24
  · refine r_aload_n C dX12_thing_9 0 rfl ?_
    refine r_iload_n C dX12_thing_10 1 rfl ?_
    refine r_cvi (As := [.int i1]) (st := []) C wv_X12_206 (hrT o0 i1 h2) (by omega) rfl rfl (Nat.le_of_ble_eq_true rfl) dX12_thing_11 ⟨Nat.le_of_ble_eq_true rfl, Nat.le_of_ble_eq_true rfl⟩ (fun x12 h13 => ?_)
    refine r_ineg C dX12_thing_14 ?_
    exact r_iret C dX12_thing_15
set_option maxRecDepth 100000 in
set_option maxHeartbeats 4000000 in
theorem tX12_product_J87_6 {K : AC} {g : WG} (hg : p_al g = false)  {d dr : Nat} (hdd : dr + 2 ≤ d) {rT : Nat → Int32 → PH → Option (Int32 × PH)} (hrT : ∀ (o : Nat) (a : Int32) (h : PH), CT K.2.1 g dr 0 0 yX12_thing cX12_thing 4 (some .int) em_i [p_rf g o, .int a] h (rT o a h)) (C : Cx K g cX12_product 5 RX12 (some .int) "product" d 0 0) (o0 : Nat) (i1 : Int32) (s0 : Int32)    {rc : Int32 → PH → Option (Int32 × PH)} {kx : Int32 → PH → Option (Int32 × PH)} (hr : ∀ (i2' : Int32) (h : PH), VX K g 5 0 0 (a_fin K g 0 0 em_i) 6 [(0, p_rf g o0), (1, .int i1), (2, .int i2')] [] h (rc i2' h)) (hk : ∀ (i2' : Int32) (h : PH), VX K g 5 0 0 (a_fin K g 0 0 em_i) 91 [(2, .int i2')] [] h (kx i2' h)) (h : PH) : VX K g 5 0 0 (a_fin K g 0 0 em_i) 87 [(0, p_rf g o0), (1, .int i1)] [.int s0] h (fX12_product_J87_6 rT rc kx o0 i1 s0 h) := by
  unfold fX12_product_J87_6
  refine r_istore_n (lv9 := [(2, .int s0), (0, p_rf g o0), (1, .int i1)]) C dX12_product_87 (by decide) rfl ?_
  refine r_goto (tgt := 6) C dX12_product_88 (by decide) ?_
  refine r_perm (lv' := [(0, p_rf g o0), (1, .int i1), (2, .int s0)]) [1, 2, 0] rfl ?_
  exact hr s0 h
set_option maxRecDepth 100000 in
set_option maxHeartbeats 4000000 in
theorem tX12_product_J45_6 {K : AC} {g : WG} (hg : p_al g = false)  {d dr : Nat} (hdd : dr + 2 ≤ d) {rT : Nat → Int32 → PH → Option (Int32 × PH)} (hrT : ∀ (o : Nat) (a : Int32) (h : PH), CT K.2.1 g dr 0 0 yX12_thing cX12_thing 4 (some .int) em_i [p_rf g o, .int a] h (rT o a h)) (C : Cx K g cX12_product 5 RX12 (some .int) "product" d 0 0) (o0 : Nat) (i1 : Int32) (i2 : Int32) (s0 : Int32)    {rc : Int32 → PH → Option (Int32 × PH)} {kx : Int32 → PH → Option (Int32 × PH)} (hr : ∀ (i2' : Int32) (h : PH), VX K g 5 0 0 (a_fin K g 0 0 em_i) 6 [(0, p_rf g o0), (1, .int i1), (2, .int i2')] [] h (rc i2' h)) (hk : ∀ (i2' : Int32) (h : PH), VX K g 5 0 0 (a_fin K g 0 0 em_i) 91 [(2, .int i2')] [] h (kx i2' h)) (h : PH) : VX K g 5 0 0 (a_fin K g 0 0 em_i) 45 [(0, p_rf g o0), (1, .int i1), (2, .int i2)] [.int s0] h (fX12_product_J45_6 rT rc kx o0 i1 i2 s0 h) := by
  unfold fX12_product_J45_6
  refine r_istore_n (lv9 := [(3, .int s0), (0, p_rf g o0), (1, .int i1), (2, .int i2)]) C dX12_product_45 (by decide) rfl ?_
  refine r_aload_n C dX12_product_46 1 rfl ?_
  refine r_dup C dX12_product_47 rfl ?_
  refine r_gi C wf_X12_141_11 dX12_product_48 (fun x1 => ?_)
  refine r_iconst C dX12_product_51 k_i1 ?_
  refine r_iadd C dX12_product_52 ?_
  refine r_pi C wf_X12_141_11 dX12_product_53 (fun h2 => ?_)
  refine r_aload_n C dX12_product_56 1 rfl ?_
  refine r_iload_n C dX12_product_57 2 rfl ?_
  refine r_cvi (As := [.int i1]) (st := []) C wv_X12_206 (hrT o0 i1 h2) (by omega) rfl rfl (Nat.le_of_ble_eq_true rfl) dX12_product_58 ⟨Nat.le_of_ble_eq_true rfl, Nat.le_of_ble_eq_true rfl⟩ (fun x3 h4 => ?_)
  refine r_istore (lv9 := [(4, .int x3), (3, .int s0), (0, p_rf g o0), (1, .int i1), (2, .int i2)]) C dX12_product_61 (by decide) rfl ?_
  refine r_iload_n C dX12_product_63 1 rfl ?_
  refine r_if_eq (tgt := 74) C dX12_product_64 (by decide) ?_ ?_
  · refine r_iload C dX12_product_74 0 rfl ?_
    refine r_if_ne (tgt := 83) C dX12_product_76 (by decide) ?_ ?_
    · refine r_iload_n C dX12_product_83 4 rfl ?_
      refine r_iload C dX12_product_84 0 rfl ?_
      refine r_idiv C dX12_product_86 ?_
      refine r_perm (lv' := [(0, p_rf g o0), (1, .int i1)]) [2, 3] rfl ?_
      exact tX12_product_J87_6 hg hdd hrT C o0 i1 (i2 / x3) hr hk h4
    · refine r_iconst C dX12_product_79 k_i0 ?_
      refine r_goto (tgt := 87) C dX12_product_80 (by decide) ?_
      refine r_perm (lv' := [(0, p_rf g o0), (1, .int i1)]) [2, 3] rfl ?_
      exact tX12_product_J87_6 hg hdd hrT C o0 i1 (0 : Int32) hr hk h4
  · refine r_iload_n C dX12_product_67 4 rfl ?_
    refine r_iload C dX12_product_68 0 rfl ?_
    refine r_imul C dX12_product_70 ?_
    refine r_goto (tgt := 87) C dX12_product_71 (by decide) ?_
    refine r_perm (lv' := [(0, p_rf g o0), (1, .int i1)]) [2, 3] rfl ?_
    exact tX12_product_J87_6 hg hdd hrT C o0 i1 (i2 * x3) hr hk h4
set_option maxRecDepth 100000 in
set_option maxHeartbeats 4000000 in
theorem tX12_product_J31_6 {K : AC} {g : WG} (hg : p_al g = false)  {d dr : Nat} (hdd : dr + 2 ≤ d) {rT : Nat → Int32 → PH → Option (Int32 × PH)} (hrT : ∀ (o : Nat) (a : Int32) (h : PH), CT K.2.1 g dr 0 0 yX12_thing cX12_thing 4 (some .int) em_i [p_rf g o, .int a] h (rT o a h)) (C : Cx K g cX12_product 5 RX12 (some .int) "product" d 0 0) (o0 : Nat) (i1 : Int32) (i2 : Int32)    {rc : Int32 → PH → Option (Int32 × PH)} {kx : Int32 → PH → Option (Int32 × PH)} (hr : ∀ (i2' : Int32) (h : PH), VX K g 5 0 0 (a_fin K g 0 0 em_i) 6 [(0, p_rf g o0), (1, .int i1), (2, .int i2')] [] h (rc i2' h)) (hk : ∀ (i2' : Int32) (h : PH), VX K g 5 0 0 (a_fin K g 0 0 em_i) 91 [(2, .int i2')] [] h (kx i2' h)) (h : PH) : VX K g 5 0 0 (a_fin K g 0 0 em_i) 31 [(0, p_rf g o0), (1, .int i1), (2, .int i2)] [] h (fX12_product_J31_6 rT rc kx o0 i1 i2 h) := by
  unfold fX12_product_J31_6
  refine r_aload_n C dX12_product_31 0 rfl ?_
  refine r_cvi (As := []) (st := []) C wv_X12_155 (tcX12_here K.2.1 g hg o0 h) (by omega) rfl rfl (Nat.le_of_ble_eq_true rfl) dX12_product_32 ⟨Nat.le_of_ble_eq_true rfl, Nat.le_of_ble_eq_true rfl⟩ (fun x1 h2 => ?_)
  refine r_bipush C dX12_product_35 k_b42 ?_
  refine r_icmp_ne (tgt := 44) C dX12_product_37 (by decide) ?_ ?_
  · refine r_iconst C dX12_product_44 k_i0 ?_
    exact tX12_product_J45_6 hg hdd hrT C o0 i1 i2 (0 : Int32) hr hk h2
  · refine r_iconst C dX12_product_40 k_i1 ?_
    refine r_goto (tgt := 45) C dX12_product_41 (by decide) ?_
    exact tX12_product_J45_6 hg hdd hrT C o0 i1 i2 (1 : Int32) hr hk h2
set_option maxRecDepth 100000 in
set_option maxHeartbeats 4000000 in
theorem tX12_product_L6 {K : AC} {g : WG} (hg : p_al g = false)  {d dr : Nat} (hdd : dr + 2 ≤ d) {rT : Nat → Int32 → PH → Option (Int32 × PH)} (hrT : ∀ (o : Nat) (a : Int32) (h : PH), CT K.2.1 g dr 0 0 yX12_thing cX12_thing 4 (some .int) em_i [p_rf g o, .int a] h (rT o a h)) (C : Cx K g cX12_product 5 RX12 (some .int) "product" d 0 0) (o0 : Nat) (i1 : Int32) {kx : Int32 → PH → Option (Int32 × PH)} (hk : ∀ (i2 : Int32) (h : PH), VX K g 5 0 0 (a_fin K g 0 0 em_i) 91 [(2, .int i2)] [] h (kx i2 h)) : ∀ (n : Nat) (i2 : Int32) (h : PH), VX K g 5 0 0 (a_fin K g 0 0 em_i) 6 [(0, p_rf g o0), (1, .int i1), (2, .int i2)] [] h (fX12_product_L6 rT o0 i1 kx n i2 h) := by
  intro n
  induction n with
  | zero =>
    intros
    exact r_none
  | succ n ih =>
    intro i2 h
    rw [fX12_product_L6]
    refine r_aload_n C dX12_product_6 0 rfl ?_
    refine r_cvi (As := []) (st := []) C wv_X12_151 (tcX12_fine K.2.1 g hg o0 h) (by omega) rfl rfl (Nat.le_of_ble_eq_true rfl) dX12_product_7 ⟨Nat.le_of_ble_eq_true rfl, Nat.le_of_ble_eq_true rfl⟩ (fun x1 h2 => ?_)
    refine r_if_eq (tgt := 91) C dX12_product_10 (by decide) ?_ ?_
    · refine r_perm (lv' := [(2, .int i2)]) [2] rfl ?_
      exact hk i2 h2
    · refine r_aload_n C dX12_product_13 0 rfl ?_
      refine r_cvi (As := []) (st := []) C wv_X12_155 (tcX12_here K.2.1 g hg o0 h2) (by omega) rfl rfl (Nat.le_of_ble_eq_true rfl) dX12_product_14 ⟨Nat.le_of_ble_eq_true rfl, Nat.le_of_ble_eq_true rfl⟩ (fun x3 h4 => ?_)
      refine r_bipush C dX12_product_17 k_b42 ?_
      refine r_icmp_eq (tgt := 31) C dX12_product_19 (by decide) ?_ ?_
      · exact tX12_product_J31_6 hg hdd hrT C o0 i1 i2 ih hk h4
      · refine r_aload_n C dX12_product_22 0 rfl ?_
        refine r_cvi (As := []) (st := []) C wv_X12_155 (tcX12_here K.2.1 g hg o0 h4) (by omega) rfl rfl (Nat.le_of_ble_eq_true rfl) dX12_product_23 ⟨Nat.le_of_ble_eq_true rfl, Nat.le_of_ble_eq_true rfl⟩ (fun x5 h6 => ?_)
        refine r_bipush C dX12_product_26 k_b47 ?_
        refine r_icmp_ne (tgt := 91) C dX12_product_28 (by decide) ?_ ?_
        · refine r_perm (lv' := [(2, .int i2)]) [2] rfl ?_
          exact hk i2 h6
        · exact tX12_product_J31_6 hg hdd hrT C o0 i1 i2 ih hk h6
set_option maxRecDepth 100000 in
set_option maxHeartbeats 4000000 in
theorem tcX12_product (l : Launch) (g : WG) (hg : p_al g = false) {d dr : Nat} (hdd : dr + 2 ≤ d) {rT : Nat → Int32 → PH → Option (Int32 × PH)} (hrT : ∀ (o : Nat) (a : Int32) (h : PH), CT l g dr 0 0 yX12_thing cX12_thing 4 (some .int) em_i [p_rf g o, .int a] h (rT o a h)) (o0 : Nat) (i1 : Int32) (h : PH) : CT l g d 0 0 yX12_product cX12_product 5 (some .int) em_i [p_rf g o0, .int i1] h (fX12_product rT o0 i1 h) := by
  refine CT_of (own := RX12) (nm := "product") (by decide +kernel) (Nat.le_of_ble_eq_true rfl) rfl rfl rfl ⟨rfl, rfl⟩ (fun K hK C => ?_)
  subst hK
  unfold fX12_product
  show VX K g _ _ _ _ _ [(0, p_rf g o0), (1, .int i1)] _ _ _
  refine r_aload_n C dX12_product_0 0 rfl ?_
  refine r_iload_n C dX12_product_1 1 rfl ?_
  refine r_cvi (As := [.int i1]) (st := []) C wv_X12_206 (hrT o0 i1 h) (by omega) rfl rfl (Nat.le_of_ble_eq_true rfl) dX12_product_2 ⟨Nat.le_of_ble_eq_true rfl, Nat.le_of_ble_eq_true rfl⟩ (fun x1 h2 => ?_)
  refine r_istore_n (lv9 := [(2, .int x1), (0, p_rf g o0), (1, .int i1)]) C dX12_product_5 (by decide) rfl ?_
  refine r_perm (lv' := [(0, p_rf g o0), (1, .int i1), (2, .int x1)]) [1, 2, 0] rfl ?_
  refine tX12_product_L6 hg hdd hrT C o0 i1 (fun x3 h4 => ?_) FU x1 h2
  refine r_iload_n C dX12_product_91 0 rfl ?_
  exact r_iret C dX12_product_92
set_option maxRecDepth 100000 in
set_option maxHeartbeats 4000000 in
theorem tX12_sum_J78_6 {K : AC} {g : WG} (hg : p_al g = false)  {d dr : Nat} (hdd : dr + 2 ≤ d) {rP : Nat → Int32 → PH → Option (Int32 × PH)} (hrP : ∀ (o : Nat) (a : Int32) (h : PH), CT K.2.1 g dr 0 0 yX12_product cX12_product 5 (some .int) em_i [p_rf g o, .int a] h (rP o a h)) (C : Cx K g cX12_sum 5 RX12 (some .int) "sum" d 0 0) (o0 : Nat) (i1 : Int32) (s0 : Int32)    {rc : Int32 → PH → Option (Int32 × PH)} {kx : Int32 → PH → Option (Int32 × PH)} (hr : ∀ (i2' : Int32) (h : PH), VX K g 5 0 0 (a_fin K g 0 0 em_i) 6 [(0, p_rf g o0), (1, .int i1), (2, .int i2')] [] h (rc i2' h)) (hk : ∀ (i2' : Int32) (h : PH), VX K g 5 0 0 (a_fin K g 0 0 em_i) 82 [(2, .int i2')] [] h (kx i2' h)) (h : PH) : VX K g 5 0 0 (a_fin K g 0 0 em_i) 78 [(0, p_rf g o0), (1, .int i1)] [.int s0] h (fX12_sum_J78_6 rP rc kx o0 i1 s0 h) := by
  unfold fX12_sum_J78_6
  refine r_istore_n (lv9 := [(2, .int s0), (0, p_rf g o0), (1, .int i1)]) C dX12_sum_78 (by decide) rfl ?_
  refine r_goto (tgt := 6) C dX12_sum_79 (by decide) ?_
  refine r_perm (lv' := [(0, p_rf g o0), (1, .int i1), (2, .int s0)]) [1, 2, 0] rfl ?_
  exact hr s0 h
set_option maxRecDepth 100000 in
set_option maxHeartbeats 4000000 in
theorem tX12_sum_J45_6 {K : AC} {g : WG} (hg : p_al g = false)  {d dr : Nat} (hdd : dr + 2 ≤ d) {rP : Nat → Int32 → PH → Option (Int32 × PH)} (hrP : ∀ (o : Nat) (a : Int32) (h : PH), CT K.2.1 g dr 0 0 yX12_product cX12_product 5 (some .int) em_i [p_rf g o, .int a] h (rP o a h)) (C : Cx K g cX12_sum 5 RX12 (some .int) "sum" d 0 0) (o0 : Nat) (i1 : Int32) (i2 : Int32) (s0 : Int32)    {rc : Int32 → PH → Option (Int32 × PH)} {kx : Int32 → PH → Option (Int32 × PH)} (hr : ∀ (i2' : Int32) (h : PH), VX K g 5 0 0 (a_fin K g 0 0 em_i) 6 [(0, p_rf g o0), (1, .int i1), (2, .int i2')] [] h (rc i2' h)) (hk : ∀ (i2' : Int32) (h : PH), VX K g 5 0 0 (a_fin K g 0 0 em_i) 82 [(2, .int i2')] [] h (kx i2' h)) (h : PH) : VX K g 5 0 0 (a_fin K g 0 0 em_i) 45 [(0, p_rf g o0), (1, .int i1), (2, .int i2)] [.int s0] h (fX12_sum_J45_6 rP rc kx o0 i1 i2 s0 h) := by
  unfold fX12_sum_J45_6
  refine r_istore_n (lv9 := [(3, .int s0), (0, p_rf g o0), (1, .int i1), (2, .int i2)]) C dX12_sum_45 (by decide) rfl ?_
  refine r_aload_n C dX12_sum_46 1 rfl ?_
  refine r_dup C dX12_sum_47 rfl ?_
  refine r_gi C wf_X12_141_11 dX12_sum_48 (fun x1 => ?_)
  refine r_iconst C dX12_sum_51 k_i1 ?_
  refine r_iadd C dX12_sum_52 ?_
  refine r_pi C wf_X12_141_11 dX12_sum_53 (fun h2 => ?_)
  refine r_aload_n C dX12_sum_56 1 rfl ?_
  refine r_iload_n C dX12_sum_57 2 rfl ?_
  refine r_cvi (As := [.int i1]) (st := []) C wv_X12_203 (hrP o0 i1 h2) (by omega) rfl rfl (Nat.le_of_ble_eq_true rfl) dX12_sum_58 ⟨Nat.le_of_ble_eq_true rfl, Nat.le_of_ble_eq_true rfl⟩ (fun x3 h4 => ?_)
  refine r_istore (lv9 := [(4, .int x3), (3, .int s0), (0, p_rf g o0), (1, .int i1), (2, .int i2)]) C dX12_sum_61 (by decide) rfl ?_
  refine r_iload_n C dX12_sum_63 1 rfl ?_
  refine r_if_eq (tgt := 74) C dX12_sum_64 (by decide) ?_ ?_
  · refine r_iload_n C dX12_sum_74 4 rfl ?_
    refine r_iload C dX12_sum_75 0 rfl ?_
    refine r_isub C dX12_sum_77 ?_
    refine r_perm (lv' := [(0, p_rf g o0), (1, .int i1)]) [2, 3] rfl ?_
    exact tX12_sum_J78_6 hg hdd hrP C o0 i1 (i2 - x3) hr hk h4
  · refine r_iload_n C dX12_sum_67 4 rfl ?_
    refine r_iload C dX12_sum_68 0 rfl ?_
    refine r_iadd C dX12_sum_70 ?_
    refine r_goto (tgt := 78) C dX12_sum_71 (by decide) ?_
    refine r_perm (lv' := [(0, p_rf g o0), (1, .int i1)]) [2, 3] rfl ?_
    exact tX12_sum_J78_6 hg hdd hrP C o0 i1 (i2 + x3) hr hk h4
set_option maxRecDepth 100000 in
set_option maxHeartbeats 4000000 in
theorem tX12_sum_J31_6 {K : AC} {g : WG} (hg : p_al g = false)  {d dr : Nat} (hdd : dr + 2 ≤ d) {rP : Nat → Int32 → PH → Option (Int32 × PH)} (hrP : ∀ (o : Nat) (a : Int32) (h : PH), CT K.2.1 g dr 0 0 yX12_product cX12_product 5 (some .int) em_i [p_rf g o, .int a] h (rP o a h)) (C : Cx K g cX12_sum 5 RX12 (some .int) "sum" d 0 0) (o0 : Nat) (i1 : Int32) (i2 : Int32)    {rc : Int32 → PH → Option (Int32 × PH)} {kx : Int32 → PH → Option (Int32 × PH)} (hr : ∀ (i2' : Int32) (h : PH), VX K g 5 0 0 (a_fin K g 0 0 em_i) 6 [(0, p_rf g o0), (1, .int i1), (2, .int i2')] [] h (rc i2' h)) (hk : ∀ (i2' : Int32) (h : PH), VX K g 5 0 0 (a_fin K g 0 0 em_i) 82 [(2, .int i2')] [] h (kx i2' h)) (h : PH) : VX K g 5 0 0 (a_fin K g 0 0 em_i) 31 [(0, p_rf g o0), (1, .int i1), (2, .int i2)] [] h (fX12_sum_J31_6 rP rc kx o0 i1 i2 h) := by
  unfold fX12_sum_J31_6
  refine r_aload_n C dX12_sum_31 0 rfl ?_
  refine r_cvi (As := []) (st := []) C wv_X12_155 (tcX12_here K.2.1 g hg o0 h) (by omega) rfl rfl (Nat.le_of_ble_eq_true rfl) dX12_sum_32 ⟨Nat.le_of_ble_eq_true rfl, Nat.le_of_ble_eq_true rfl⟩ (fun x1 h2 => ?_)
  refine r_bipush C dX12_sum_35 k_b43 ?_
  refine r_icmp_ne (tgt := 44) C dX12_sum_37 (by decide) ?_ ?_
  · refine r_iconst C dX12_sum_44 k_i0 ?_
    exact tX12_sum_J45_6 hg hdd hrP C o0 i1 i2 (0 : Int32) hr hk h2
  · refine r_iconst C dX12_sum_40 k_i1 ?_
    refine r_goto (tgt := 45) C dX12_sum_41 (by decide) ?_
    exact tX12_sum_J45_6 hg hdd hrP C o0 i1 i2 (1 : Int32) hr hk h2
set_option maxRecDepth 100000 in
set_option maxHeartbeats 4000000 in
theorem tX12_sum_L6 {K : AC} {g : WG} (hg : p_al g = false)  {d dr : Nat} (hdd : dr + 2 ≤ d) {rP : Nat → Int32 → PH → Option (Int32 × PH)} (hrP : ∀ (o : Nat) (a : Int32) (h : PH), CT K.2.1 g dr 0 0 yX12_product cX12_product 5 (some .int) em_i [p_rf g o, .int a] h (rP o a h)) (C : Cx K g cX12_sum 5 RX12 (some .int) "sum" d 0 0) (o0 : Nat) (i1 : Int32) {kx : Int32 → PH → Option (Int32 × PH)} (hk : ∀ (i2 : Int32) (h : PH), VX K g 5 0 0 (a_fin K g 0 0 em_i) 82 [(2, .int i2)] [] h (kx i2 h)) : ∀ (n : Nat) (i2 : Int32) (h : PH), VX K g 5 0 0 (a_fin K g 0 0 em_i) 6 [(0, p_rf g o0), (1, .int i1), (2, .int i2)] [] h (fX12_sum_L6 rP o0 i1 kx n i2 h) := by
  intro n
  induction n with
  | zero =>
    intros
    exact r_none
  | succ n ih =>
    intro i2 h
    rw [fX12_sum_L6]
    refine r_aload_n C dX12_sum_6 0 rfl ?_
    refine r_cvi (As := []) (st := []) C wv_X12_151 (tcX12_fine K.2.1 g hg o0 h) (by omega) rfl rfl (Nat.le_of_ble_eq_true rfl) dX12_sum_7 ⟨Nat.le_of_ble_eq_true rfl, Nat.le_of_ble_eq_true rfl⟩ (fun x1 h2 => ?_)
    refine r_if_eq (tgt := 82) C dX12_sum_10 (by decide) ?_ ?_
    · refine r_perm (lv' := [(2, .int i2)]) [2] rfl ?_
      exact hk i2 h2
    · refine r_aload_n C dX12_sum_13 0 rfl ?_
      refine r_cvi (As := []) (st := []) C wv_X12_155 (tcX12_here K.2.1 g hg o0 h2) (by omega) rfl rfl (Nat.le_of_ble_eq_true rfl) dX12_sum_14 ⟨Nat.le_of_ble_eq_true rfl, Nat.le_of_ble_eq_true rfl⟩ (fun x3 h4 => ?_)
      refine r_bipush C dX12_sum_17 k_b43 ?_
      refine r_icmp_eq (tgt := 31) C dX12_sum_19 (by decide) ?_ ?_
      · exact tX12_sum_J31_6 hg hdd hrP C o0 i1 i2 ih hk h4
      · refine r_aload_n C dX12_sum_22 0 rfl ?_
        refine r_cvi (As := []) (st := []) C wv_X12_155 (tcX12_here K.2.1 g hg o0 h4) (by omega) rfl rfl (Nat.le_of_ble_eq_true rfl) dX12_sum_23 ⟨Nat.le_of_ble_eq_true rfl, Nat.le_of_ble_eq_true rfl⟩ (fun x5 h6 => ?_)
        refine r_bipush C dX12_sum_26 k_b45 ?_
        refine r_icmp_ne (tgt := 82) C dX12_sum_28 (by decide) ?_ ?_
        · refine r_perm (lv' := [(2, .int i2)]) [2] rfl ?_
          exact hk i2 h6
        · exact tX12_sum_J31_6 hg hdd hrP C o0 i1 i2 ih hk h6
set_option maxRecDepth 100000 in
set_option maxHeartbeats 4000000 in
theorem tcX12_sum (l : Launch) (g : WG) (hg : p_al g = false) {d dr : Nat} (hdd : dr + 2 ≤ d) {rP : Nat → Int32 → PH → Option (Int32 × PH)} (hrP : ∀ (o : Nat) (a : Int32) (h : PH), CT l g dr 0 0 yX12_product cX12_product 5 (some .int) em_i [p_rf g o, .int a] h (rP o a h)) (o0 : Nat) (i1 : Int32) (h : PH) : CT l g d 0 0 yX12_sum cX12_sum 5 (some .int) em_i [p_rf g o0, .int i1] h (fX12_sum rP o0 i1 h) := by
  refine CT_of (own := RX12) (nm := "sum") (by decide +kernel) (Nat.le_of_ble_eq_true rfl) rfl rfl rfl ⟨rfl, rfl⟩ (fun K hK C => ?_)
  subst hK
  unfold fX12_sum
  show VX K g _ _ _ _ _ [(0, p_rf g o0), (1, .int i1)] _ _ _
  refine r_aload_n C dX12_sum_0 0 rfl ?_
  refine r_iload_n C dX12_sum_1 1 rfl ?_
  refine r_cvi (As := [.int i1]) (st := []) C wv_X12_203 (hrP o0 i1 h) (by omega) rfl rfl (Nat.le_of_ble_eq_true rfl) dX12_sum_2 ⟨Nat.le_of_ble_eq_true rfl, Nat.le_of_ble_eq_true rfl⟩ (fun x1 h2 => ?_)
  refine r_istore_n (lv9 := [(2, .int x1), (0, p_rf g o0), (1, .int i1)]) C dX12_sum_5 (by decide) rfl ?_
  refine r_perm (lv' := [(0, p_rf g o0), (1, .int i1), (2, .int x1)]) [1, 2, 0] rfl ?_
  refine tX12_sum_L6 hg hdd hrP C o0 i1 (fun x3 h4 => ?_) FU x1 h2
  refine r_iload_n C dX12_sum_82 0 rfl ?_
  exact r_iret C dX12_sum_83
theorem xX12_thing (l : Launch) (g : WG) (hg : p_al g = false) : ∀ (n d : Nat), n * 12 ≤ d → ∀ (o : Nat) (a : Int32) (h : PH), CT l g d 0 0 yX12_thing cX12_thing 4 (some .int) em_i [p_rf g o, .int a] h (rX12_thing n o a h)
  | 0, _, _, _, _, _ => fun r h' hz => by cases hz
  | n + 1, d, hd, o, a, h => by
    have ih := xX12_thing l g hg n
    show CT l g d 0 0 yX12_thing cX12_thing 4 (some .int) em_i [p_rf g o, .int a] h (fX12_thing (fX12_heldBy (fX12_sum (fX12_product (rX12_thing n)))) (rX12_thing n) o a h)
    refine tcX12_thing l g hg (dr := d - 5) (by omega) (fun o a h => ?_) (fun o a h => ih _ (by omega) o a h) o a h
    refine tcX12_heldBy l g hg (dr := d - 8) (by omega) (fun o a h => ?_) o a h
    refine tcX12_sum l g hg (dr := d - 10) (by omega) (fun o a h => ?_) o a h
    exact tcX12_product l g hg (dr := d - 12) (by omega) (fun o a h => ih _ (by omega) o a h) o a h
theorem xX12_heldBy (l : Launch) (g : WG) (hg : p_al g = false) (o : Nat) (a : Int32) (h : PH) : CT l g 607 0 0 yX12_heldBy cX12_heldBy 3 (some .int) em_i [p_rf g o, .int a] h (rX12_heldBy 50 o a h) := by
  show CT l g 607 0 0 yX12_heldBy cX12_heldBy 3 (some .int) em_i [p_rf g o, .int a] h (fX12_heldBy (fX12_sum (fX12_product (rX12_thing 50))) o a h)
  refine tcX12_heldBy l g hg (dr := 604) (by omega) (fun o a h => ?_) o a h
  refine tcX12_sum l g hg (dr := 602) (by omega) (fun o a h => ?_) o a h
  exact tcX12_product l g hg (dr := 600) (by omega) (fun o a h => xX12_thing l g hg _ _ (by omega) o a h) o a h
set_option maxRecDepth 100000 in
set_option maxHeartbeats 4000000 in
theorem tX12_readRule_J24 {K : AC} {g : WG} (hg : p_al g = false)  (C : Cx K g cX12_readRule 1 RX12 (some .boolean) "readRule" 608 0 0) (o0 : Nat)  (h : PH) : VX K g 1 0 0 (a_fin K g 0 0 em_i) 24 [(0, p_rf g o0)] [] h (fX12_readRule_J24 o0 h) := by
  unfold fX12_readRule_J24
  refine r_aload_n C dX12_readRule_24 0 rfl ?_
  refine r_cvi (As := []) (st := []) C wv_X12_183 (tcX12_wasRight K.2.1 g hg o0 h) (Nat.le_of_ble_eq_true rfl) rfl rfl (Nat.le_of_ble_eq_true rfl) dX12_readRule_25 ⟨Nat.le_of_ble_eq_true rfl, Nat.le_of_ble_eq_true rfl⟩ (fun x1 h2 => ?_)
  exact r_zret C dX12_readRule_28
set_option maxRecDepth 100000 in
set_option maxHeartbeats 4000000 in
theorem tcX12_readRule (l : Launch) (g : WG) (hg : p_al g = false) (o0 : Nat) (h : PH) : CT l g 608 0 0 yX12_readRule cX12_readRule 1 (some .boolean) em_i [p_rf g o0] h (fX12_readRule o0 h) := by
  refine CT_of (own := RX12) (nm := "readRule") (by decide +kernel) (Nat.le_of_ble_eq_true rfl) rfl rfl rfl ⟨rfl, rfl⟩ (fun K hK C => ?_)
  subst hK
  unfold fX12_readRule
  show VX K g _ _ _ _ _ [(0, p_rf g o0)] _ _ _
  refine r_aload_n C dX12_readRule_0 0 rfl ?_
  refine r_bipush C dX12_readRule_1 k_b40 ?_
  refine r_cvv (As := [.int (40 : Int32)]) (st := []) C wv_X12_177 (tcX12_beginText K.2.1 g hg o0 (40 : Int32) h) (Nat.le_of_ble_eq_true rfl) rfl rfl (Nat.le_of_ble_eq_true rfl) dX12_readRule_3 ⟨Nat.le_of_ble_eq_true rfl, Nat.le_of_ble_eq_true rfl⟩ (fun h1 => ?_)
  refine r_aload_n C dX12_readRule_6 0 rfl ?_
  refine r_iconst C dX12_readRule_7 k_i0 ?_
  refine r_pz C wf_X12_222_11 dX12_readRule_8 (fun h2 => ?_)
  refine r_aload_n C dX12_readRule_11 0 rfl ?_
  refine r_gi C wf_X12_135_11 dX12_readRule_12 (fun x3 => ?_)
  refine r_if_le (tgt := 24) C dX12_readRule_15 (by decide) ?_ ?_
  · exact tX12_readRule_J24 hg C o0 h2
  · refine r_aload_n C dX12_readRule_18 0 rfl ?_
    refine r_iconst C dX12_readRule_19 k_i0 ?_
    refine r_cvi (As := [.int (0 : Int32)]) (st := []) C wv_X12_209 (xX12_heldBy K.2.1 g hg o0 (0 : Int32) h2) (Nat.le_of_ble_eq_true rfl) rfl rfl (Nat.le_of_ble_eq_true rfl) dX12_readRule_20 ⟨Nat.le_of_ble_eq_true rfl, Nat.le_of_ble_eq_true rfl⟩ (fun x4 h5 => ?_)
    refine r_pop C dX12_readRule_23 rfl ?_
    exact tX12_readRule_J24 hg C o0 h5
set_option maxRecDepth 100000 in
set_option maxHeartbeats 4000000 in
theorem tX12_rule_L26 {K : AC} {g : WG} (hg : p_al g = false)  (C : Cx K g cX12_rule 3 RX12 (some .int) "rule" 609 0 0) (o0 : Nat) (i1 : Int32) {kx : PH → Option (Int32 × PH)} (hk : ∀  (h : PH), VX K g 3 0 0 (a_fin K g 0 0 em_i) 49 [(0, p_rf g o0), (1, .int i1)] [] h (kx h)) : ∀ (n : Nat) (i2 : Int32) (h : PH), VX K g 3 0 0 (a_fin K g 0 0 em_i) 26 [(0, p_rf g o0), (1, .int i1), (2, .int i2)] [] h (fX12_rule_L26 o0 i1 kx n i2 h) := by
  intro n
  induction n with
  | zero =>
    intros
    exact r_none
  | succ n ih =>
    intro i2 h
    rw [fX12_rule_L26]
    refine r_iload_n C dX12_rule_26 2 rfl ?_
    refine r_iload_n C dX12_rule_27 1 rfl ?_
    refine r_icmp_ge (tgt := 49) C dX12_rule_28 (by decide) ?_ ?_
    · refine r_perm (lv' := [(0, p_rf g o0), (1, .int i1)]) [0, 1] rfl ?_
      exact hk h
    · refine r_aload_n C dX12_rule_31 0 rfl ?_
      refine r_gr C wf_X12_42_11 dX12_rule_32 (fun q1 => ?_)
      refine r_iload_n C dX12_rule_35 2 rfl ?_
      refine r_aload_n C dX12_rule_36 0 rfl ?_
      refine r_gr C wf_X12_28_11 dX12_rule_37 (fun q2 => ?_)
      refine r_iload_n C dX12_rule_40 2 rfl ?_
      refine r_bald C dX12_rule_41 (fun x3 => ?_)
      refine r_bast hg C dX12_rule_42 (fun h4 => ?_)
      refine r_iinc (lv' := [(0, p_rf g o0), (1, .int i1)]) C dX12_rule_43 2 rfl k_i1 (by decide) (fun _ => rfl) (fun x5 => ?_)
      refine r_goto (tgt := 26) C dX12_rule_46 (by decide) ?_
      refine r_perm (lv' := [(0, p_rf g o0), (1, .int i1), (2, .int x5)]) [1, 2, 0] rfl ?_
      exact ih x5 h4
set_option maxRecDepth 100000 in
set_option maxHeartbeats 4000000 in
theorem tcX12_rule (l : Launch) (g : WG) (hg : p_al g = false) (o0 : Nat) (h : PH) : CT l g 609 0 0 yX12_rule cX12_rule 3 (some .int) em_i [p_rf g o0] h (fX12_rule o0 h) := by
  refine CT_of (own := RX12) (nm := "rule") (by decide +kernel) (Nat.le_of_ble_eq_true rfl) rfl rfl rfl ⟨rfl, rfl⟩ (fun K hK C => ?_)
  subst hK
  unfold fX12_rule
  show VX K g _ _ _ _ _ [(0, p_rf g o0)] _ _ _
  refine r_aload_n C dX12_rule_0 0 rfl ?_
  refine r_iconst C dX12_rule_1 k_i0 ?_
  refine r_pi C wf_X12_109_11 dX12_rule_2 (fun h1 => ?_)
  refine r_aload_n C dX12_rule_5 0 rfl ?_
  refine r_gi C wf_X12_129_11 dX12_rule_6 (fun x2 => ?_)
  refine r_istore_n (lv9 := [(1, .int x2), (0, p_rf g o0)]) C dX12_rule_9 (by decide) rfl ?_
  refine r_aload_n C dX12_rule_10 1 rfl ?_
  refine r_cvi (As := []) (st := []) C wv_X12_226 (tcX12_readRule K.2.1 g hg o0 h1) (Nat.le_of_ble_eq_true rfl) rfl rfl (Nat.le_of_ble_eq_true rfl) dX12_rule_11 ⟨Nat.le_of_ble_eq_true rfl, Nat.le_of_ble_eq_true rfl⟩ (fun x3 h4 => ?_)
  refine r_if_ne (tgt := 24) C dX12_rule_14 (by decide) ?_ ?_
  · refine r_iconst C dX12_rule_24 k_i0 ?_
    refine r_istore_n (lv9 := [(2, .int (0 : Int32)), (1, .int x2), (0, p_rf g o0)]) C dX12_rule_25 (by decide) rfl ?_
    refine r_perm (lv' := [(0, p_rf g o0), (1, .int x2), (2, .int (0 : Int32))]) [2, 1, 0] rfl ?_
    refine tX12_rule_L26 hg C o0 x2 (fun h5 => ?_) FU (0 : Int32) h4
    refine r_aload_n C dX12_rule_49 0 rfl ?_
    refine r_iload_n C dX12_rule_50 1 rfl ?_
    refine r_pi C wf_X12_229_11 dX12_rule_51 (fun h6 => ?_)
    refine r_iconst C dX12_rule_54 k_i0 ?_
    exact r_iret C dX12_rule_55
  · refine r_iconst C dX12_rule_17 k_im1 ?_
    refine r_aload_n C dX12_rule_18 1 rfl ?_
    refine r_gi C wf_X12_144_11 dX12_rule_19 (fun x7 => ?_)
    refine r_isub C dX12_rule_22 ?_
    exact r_iret C dX12_rule_23
set_option maxRecDepth 100000 in
set_option maxHeartbeats 4000000 in
theorem tcX12_humour (l : Launch) (g : WG) (hg : p_al g = false) (o0 : Nat) (i1 : Int32) (i2 : Int32) (h : PH) : CT l g 1 0 0 yX12_humour cX12_humour 3 (some .int) em_i [p_rf g o0, .int i1, .int i2] h (fX12_humour o0 i1 i2 h) := by
  refine CT_of (own := RX12) (nm := "humour") (by decide +kernel) (Nat.le_of_ble_eq_true rfl) rfl rfl rfl ⟨rfl, rfl⟩ (fun K hK C => ?_)
  subst hK
  unfold fX12_humour
  show VX K g _ _ _ _ _ [(0, p_rf g o0), (1, .int i1), (2, .int i2)] _ _ _
  refine r_aload_n C dX12_humour_0 0 rfl ?_
  refine r_bipush C dX12_humour_1 k_b8 ?_
  refine r_iconst C dX12_humour_3 k_i4 ?_
  refine r_iload_n C dX12_humour_4 1 rfl ?_
  refine r_imul C dX12_humour_5 ?_
  refine r_iadd C dX12_humour_6 ?_
  refine r_iload_n C dX12_humour_7 2 rfl ?_
  refine r_iadd C dX12_humour_8 ?_
  refine r_iald C dX12_humour_9 (fun x1 => ?_)
  exact r_iret C dX12_humour_10
set_option maxRecDepth 100000 in
set_option maxHeartbeats 4000000 in
theorem tcJ6_compare_7cf53 (l : Launch) (g : WG) (hg : p_al g = false) (i0 : Int32) (i1 : Int32) (h : PH) : CT l g 1 0 0 yJ6_compare_7cf53 cJ6_compare_7cf53 2 (some .int) em_i [.int i0, .int i1] h (fJ6_compare_7cf53 i0 i1 h) := by
  refine CT_of (own := RJ6) (nm := "compare") (by decide +kernel) (Nat.le_of_ble_eq_true rfl) rfl rfl rfl ⟨rfl, rfl⟩ (fun K hK C => ?_)
  subst hK
  unfold fJ6_compare_7cf53
  show VX K g _ _ _ _ _ [(0, .int i0), (1, .int i1)] _ _ _
  refine r_iload_n C dJ6_compare_7cf53_0 0 rfl ?_
  refine r_iload_n C dJ6_compare_7cf53_1 1 rfl ?_
  refine r_icmp_ge (tgt := 9) C dJ6_compare_7cf53_2 (by decide) ?_ ?_
  · refine r_iload_n C dJ6_compare_7cf53_9 0 rfl ?_
    refine r_iload_n C dJ6_compare_7cf53_10 1 rfl ?_
    refine r_icmp_ne (tgt := 18) C dJ6_compare_7cf53_11 (by decide) ?_ ?_
    · refine r_iconst C dJ6_compare_7cf53_18 k_i1 ?_
      exact r_iret C dJ6_compare_7cf53_19
    · refine r_iconst C dJ6_compare_7cf53_14 k_i0 ?_
      refine r_goto (tgt := 19) C dJ6_compare_7cf53_15 (by decide) ?_
      exact r_iret C dJ6_compare_7cf53_19
  · refine r_iconst C dJ6_compare_7cf53_5 k_im1 ?_
    refine r_goto (tgt := 19) C dJ6_compare_7cf53_6 (by decide) ?_
    exact r_iret C dJ6_compare_7cf53_19
set_option maxRecDepth 100000 in
set_option maxHeartbeats 4000000 in
theorem tX12_pushOf_J155 {K : AC} {g : WG} (hg : p_al g = false)  (C : Cx K g cX12_pushOf 8 RX12 (some .int) "pushOf" 608 0 0) (i7 : Int32)  (h : PH) : VX K g 8 0 0 (a_fin K g 0 0 em_i) 155 [(7, .int i7)] [] h (fX12_pushOf_J155 i7 h) := by
  unfold fX12_pushOf_J155
  refine r_bipush C dX12_pushOf_155 k_bm99 ?_
  refine r_bipush C dX12_pushOf_157 k_b99 ?_
  refine r_iload C dX12_pushOf_159 0 rfl ?_
  refine r_min C wm_X12_245 (Nat.le_of_ble_eq_true rfl) (Nat.le_of_ble_eq_true rfl) ⟨Nat.le_of_ble_eq_true rfl, Nat.le_of_ble_eq_true rfl⟩ dX12_pushOf_161 ?_
  refine r_topi (fun x1 => ?_)
  refine r_max C wm_X12_250 (Nat.le_of_ble_eq_true rfl) (Nat.le_of_ble_eq_true rfl) ⟨Nat.le_of_ble_eq_true rfl, Nat.le_of_ble_eq_true rfl⟩ dX12_pushOf_164 ?_
  exact r_iret C dX12_pushOf_167
set_option maxRecDepth 100000 in
set_option maxHeartbeats 4000000 in
theorem tcX12_pushOf (l : Launch) (g : WG) (hg : p_al g = false) (o0 : Nat) (o1 : Nat) (i2 : Int32) (i3 : Int32) (i4 : Int32) (h : PH) : CT l g 608 0 0 yX12_pushOf cX12_pushOf 8 (some .int) em_i [p_rf g o0, p_rf g o1, .int i2, .int i3, .int i4] h (fX12_pushOf o0 o1 i2 i3 i4 h) := by
  refine CT_of (own := RX12) (nm := "pushOf") (by decide +kernel) (Nat.le_of_ble_eq_true rfl) rfl rfl rfl ⟨rfl, rfl⟩ (fun K hK C => ?_)
  subst hK
  unfold fX12_pushOf
  show VX K g _ _ _ _ _ [(0, p_rf g o0), (1, p_rf g o1), (2, .int i2), (3, .int i3), (4, .int i4)] _ _ _
  refine r_aload_n C dX12_pushOf_0 1 rfl ?_
  refine r_iload_n C dX12_pushOf_1 2 rfl ?_
  refine r_iload C dX12_pushOf_2 4 rfl ?_
  refine r_csi (As := [p_rf g o1, .int i2, .int i4]) (st := []) C ws_X12_232 (tcX12_humour K.2.1 g hg o1 i2 i4 h) (Nat.le_of_ble_eq_true rfl) rfl rfl (Nat.le_of_ble_eq_true rfl) dX12_pushOf_4 ⟨Nat.le_of_ble_eq_true rfl, Nat.le_of_ble_eq_true rfl⟩ (fun x1 h2 => ?_)
  refine r_istore (lv9 := [(5, .int x1), (0, p_rf g o0), (1, p_rf g o1), (2, .int i2), (3, .int i3), (4, .int i4)]) C dX12_pushOf_7 (by decide) rfl ?_
  refine r_aload_n C dX12_pushOf_9 1 rfl ?_
  refine r_gr C wf_X12_16_11 dX12_pushOf_10 (fun q3 => ?_)
  refine r_iconst C dX12_pushOf_13 k_i4 ?_
  refine r_iload_n C dX12_pushOf_14 4 rfl ?_
  refine r_imul C dX12_pushOf_15 ?_
  refine r_iload C dX12_pushOf_16 5 rfl ?_
  refine r_iadd C dX12_pushOf_18 ?_
  refine r_iald C dX12_pushOf_19 (fun x4 => ?_)
  refine r_istore (lv9 := [(6, .int x4), (5, .int x1), (0, p_rf g o0), (1, p_rf g o1), (2, .int i2), (3, .int i3), (4, .int i4)]) C dX12_pushOf_20 (by decide) rfl ?_
  refine r_iload C dX12_pushOf_22 0 rfl ?_
  refine r_iload C dX12_pushOf_24 1 rfl ?_
  refine r_csi (As := [.int x4, .int x1]) (st := []) C ws_X12_236 (tcJ6_compare_7cf53 K.2.1 g hg x4 x1 h2) (Nat.le_of_ble_eq_true rfl) rfl rfl (Nat.le_of_ble_eq_true rfl) dX12_pushOf_26 ⟨Nat.le_of_ble_eq_true rfl, Nat.le_of_ble_eq_true rfl⟩ (fun x5 h6 => ?_)
  refine r_istore (lv9 := [(7, .int x5), (6, .int x4), (5, .int x1), (0, p_rf g o0), (1, p_rf g o1), (2, .int i2), (3, .int i3), (4, .int i4)]) C dX12_pushOf_29 (by decide) rfl ?_
  refine r_aload_n C dX12_pushOf_31 3 rfl ?_
  refine r_gi C wf_X12_229_11 dX12_pushOf_32 (fun x7 => ?_)
  refine r_if_le (tgt := 155) C dX12_pushOf_35 (by decide) ?_ ?_
  · refine r_perm (lv' := [(7, .int x5)]) [0] rfl ?_
    exact tX12_pushOf_J155 hg C x5 h6
  · refine r_aload_n C dX12_pushOf_38 3 rfl ?_
    refine r_gr C wf_X12_48_11 dX12_pushOf_39 (fun q8 => ?_)
    refine r_iconst C dX12_pushOf_42 k_i0 ?_
    refine r_iload C dX12_pushOf_43 2 rfl ?_
    refine r_iast C dX12_pushOf_45 (fun h9 => ?_)
    refine r_aload_n C dX12_pushOf_46 3 rfl ?_
    refine r_gr C wf_X12_48_11 dX12_pushOf_47 (fun q10 => ?_)
    refine r_iconst C dX12_pushOf_50 k_i1 ?_
    refine r_iload C dX12_pushOf_51 1 rfl ?_
    refine r_iast C dX12_pushOf_53 (fun h11 => ?_)
    refine r_aload_n C dX12_pushOf_54 3 rfl ?_
    refine r_gr C wf_X12_48_11 dX12_pushOf_55 (fun q12 => ?_)
    refine r_iconst C dX12_pushOf_58 k_i2 ?_
    refine r_aload_n C dX12_pushOf_59 3 rfl ?_
    refine r_gr C wf_X12_13_11 dX12_pushOf_60 (fun q13 => ?_)
    refine r_iload_n C dX12_pushOf_63 6 rfl ?_
    refine r_iald C dX12_pushOf_64 (fun x14 => ?_)
    refine r_iast C dX12_pushOf_65 (fun h15 => ?_)
    refine r_aload_n C dX12_pushOf_66 3 rfl ?_
    refine r_gr C wf_X12_48_11 dX12_pushOf_67 (fun q16 => ?_)
    refine r_iconst C dX12_pushOf_70 k_i3 ?_
    refine r_aload_n C dX12_pushOf_71 4 rfl ?_
    refine r_bipush C dX12_pushOf_72 k_b32 ?_
    refine r_iload_n C dX12_pushOf_74 5 rfl ?_
    refine r_iadd C dX12_pushOf_75 ?_
    refine r_iald C dX12_pushOf_76 (fun x17 => ?_)
    refine r_csi (As := [.int x17]) (st := [.int (3 : Int32), p_rf g q16]) C ws_X12_242 (tcJ6_bitCount_0f7a4 K.2.1 g hg x17 h15) (Nat.le_of_ble_eq_true rfl) rfl rfl (Nat.le_of_ble_eq_true rfl) dX12_pushOf_77 ⟨Nat.le_of_ble_eq_true rfl, Nat.le_of_ble_eq_true rfl⟩ (fun x18 h19 => ?_)
    refine r_iast C dX12_pushOf_80 (fun h20 => ?_)
    refine r_aload_n C dX12_pushOf_81 3 rfl ?_
    refine r_gr C wf_X12_48_11 dX12_pushOf_82 (fun q21 => ?_)
    refine r_iconst C dX12_pushOf_85 k_i4 ?_
    refine r_aload_n C dX12_pushOf_86 4 rfl ?_
    refine r_bipush C dX12_pushOf_87 k_b38 ?_
    refine r_bipush C dX12_pushOf_89 k_b8 ?_
    refine r_iload_n C dX12_pushOf_91 5 rfl ?_
    refine r_imul C dX12_pushOf_92 ?_
    refine r_iadd C dX12_pushOf_93 ?_
    refine r_iload_n C dX12_pushOf_94 6 rfl ?_
    refine r_iadd C dX12_pushOf_95 ?_
    refine r_iald C dX12_pushOf_96 (fun x22 => ?_)
    refine r_iast C dX12_pushOf_97 (fun h23 => ?_)
    refine r_aload_n C dX12_pushOf_98 3 rfl ?_
    refine r_gr C wf_X12_48_11 dX12_pushOf_99 (fun q24 => ?_)
    refine r_iconst C dX12_pushOf_102 k_i5 ?_
    refine r_aload_n C dX12_pushOf_103 3 rfl ?_
    refine r_gr C wf_X12_19_11 dX12_pushOf_104 (fun q25 => ?_)
    refine r_iload_n C dX12_pushOf_107 5 rfl ?_
    refine r_iald C dX12_pushOf_108 (fun x26 => ?_)
    refine r_iast C dX12_pushOf_109 (fun h27 => ?_)
    refine r_aload_n C dX12_pushOf_110 3 rfl ?_
    refine r_gr C wf_X12_48_11 dX12_pushOf_111 (fun q28 => ?_)
    refine r_bipush C dX12_pushOf_114 k_b6 ?_
    refine r_aload_n C dX12_pushOf_116 4 rfl ?_
    refine r_bipush C dX12_pushOf_117 k_b86 ?_
    refine r_iald C dX12_pushOf_119 (fun x29 => ?_)
    refine r_bipush C dX12_pushOf_120 k_b7 ?_
    refine r_irem C dX12_pushOf_122 ?_
    refine r_iast C dX12_pushOf_123 (fun h30 => ?_)
    refine r_aload_n C dX12_pushOf_124 3 rfl ?_
    refine r_aload_n C dX12_pushOf_125 3 rfl ?_
    refine r_gr C wf_X12_42_11 dX12_pushOf_126 (fun q31 => ?_)
    refine r_aload_n C dX12_pushOf_129 3 rfl ?_
    refine r_gi C wf_X12_229_11 dX12_pushOf_130 (fun x32 => ?_)
    refine r_bipush C dX12_pushOf_133 k_b40 ?_
    refine r_cvv (As := [p_rf g q31, .int x32, .int (40 : Int32)]) (st := []) C wv_X12_147 (tcX12_begin K.2.1 g hg o0 q31 x32 (40 : Int32) h30) (Nat.le_of_ble_eq_true rfl) rfl rfl (Nat.le_of_ble_eq_true rfl) dX12_pushOf_135 ⟨Nat.le_of_ble_eq_true rfl, Nat.le_of_ble_eq_true rfl⟩ (fun h33 => ?_)
    refine r_aload_n C dX12_pushOf_138 3 rfl ?_
    refine r_iconst C dX12_pushOf_139 k_i1 ?_
    refine r_pz C wf_X12_222_11 dX12_pushOf_140 (fun h34 => ?_)
    refine r_aload_n C dX12_pushOf_143 3 rfl ?_
    refine r_iconst C dX12_pushOf_144 k_i0 ?_
    refine r_cvi (As := [.int (0 : Int32)]) (st := []) C wv_X12_209 (xX12_heldBy K.2.1 g hg o0 (0 : Int32) h34) (Nat.le_of_ble_eq_true rfl) rfl rfl (Nat.le_of_ble_eq_true rfl) dX12_pushOf_145 ⟨Nat.le_of_ble_eq_true rfl, Nat.le_of_ble_eq_true rfl⟩ (fun x35 h36 => ?_)
    refine r_istore (lv9 := [(7, .int x35), (6, .int x4), (5, .int x1), (0, p_rf g o0), (1, p_rf g o1), (2, .int i2), (3, .int i3), (4, .int i4)]) C dX12_pushOf_148 (by decide) rfl ?_
    refine r_aload_n C dX12_pushOf_150 3 rfl ?_
    refine r_iconst C dX12_pushOf_151 k_i0 ?_
    refine r_pz C wf_X12_222_11 dX12_pushOf_152 (fun h37 => ?_)
    refine r_perm (lv' := [(7, .int x35)]) [0] rfl ?_
    exact tX12_pushOf_J155 hg C x35 h37
set_option maxRecDepth 100000 in
set_option maxHeartbeats 4000000 in
theorem tcX12_isTerm (l : Launch) (g : WG) (hg : p_al g = false) (o0 : Nat) (o1 : Nat) (i2 : Int32) (i3 : Int32) (i4 : Int32) (h : PH) : CT l g 2 0 0 yX12_isTerm cX12_isTerm 7 (some .boolean) em_i [p_rf g o0, p_rf g o1, .int i2, .int i3, .int i4] h (fX12_isTerm o0 o1 i2 i3 i4 h) := by
  refine CT_of (own := RX12) (nm := "isTerm") (by decide +kernel) (Nat.le_of_ble_eq_true rfl) rfl rfl rfl ⟨rfl, rfl⟩ (fun K hK C => ?_)
  subst hK
  unfold fX12_isTerm
  show VX K g _ _ _ _ _ [(0, p_rf g o0), (1, p_rf g o1), (2, .int i2), (3, .int i3), (4, .int i4)] _ _ _
  refine r_bipush C dX12_isTerm_0 k_b9 ?_
  refine r_iload_n C dX12_isTerm_2 3 rfl ?_
  refine r_imul C dX12_isTerm_3 ?_
  refine r_iconst C dX12_isTerm_4 k_i3 ?_
  refine r_iload C dX12_isTerm_5 4 rfl ?_
  refine r_imul C dX12_isTerm_7 ?_
  refine r_iadd C dX12_isTerm_8 ?_
  refine r_topi (fun x1 => ?_)
  refine r_istore (lv9 := [(5, .int x1), (0, p_rf g o0), (1, p_rf g o1), (2, .int i2), (3, .int i3), (4, .int i4)]) C dX12_isTerm_9 (by decide) rfl ?_
  refine r_aload_n C dX12_isTerm_11 2 rfl ?_
  refine r_iload_n C dX12_isTerm_12 3 rfl ?_
  refine r_aload_n C dX12_isTerm_13 1 rfl ?_
  refine r_gr C wf_X12_25_11 dX12_isTerm_14 (fun q2 => ?_)
  refine r_iload C dX12_isTerm_17 0 rfl ?_
  refine r_iald C dX12_isTerm_19 (fun x3 => ?_)
  refine r_csi (As := [p_rf g o1, .int i2, .int x3]) (st := []) C ws_X12_232 (tcX12_humour K.2.1 g hg o1 i2 x3 h) (Nat.le_of_ble_eq_true rfl) rfl rfl (Nat.le_of_ble_eq_true rfl) dX12_isTerm_20 ⟨Nat.le_of_ble_eq_true rfl, Nat.le_of_ble_eq_true rfl⟩ (fun x4 h5 => ?_)
  refine r_istore (lv9 := [(6, .int x4), (5, .int x1), (0, p_rf g o0), (1, p_rf g o1), (2, .int i2), (3, .int i3), (4, .int i4)]) C dX12_isTerm_23 (by decide) rfl ?_
  refine r_aload_n C dX12_isTerm_25 2 rfl ?_
  refine r_gr C wf_X12_25_11 dX12_isTerm_26 (fun q6 => ?_)
  refine r_iload C dX12_isTerm_29 1 rfl ?_
  refine r_iconst C dX12_isTerm_31 k_i1 ?_
  refine r_iadd C dX12_isTerm_32 ?_
  refine r_iald C dX12_isTerm_33 (fun x7 => ?_)
  refine r_iconst C dX12_isTerm_34 k_i1 ?_
  refine r_icmp_ne (tgt := 60) C dX12_isTerm_35 (by decide) ?_ ?_
  · refine r_iload C dX12_isTerm_60 0 rfl ?_
    refine r_aload_n C dX12_isTerm_62 2 rfl ?_
    refine r_gr C wf_X12_25_11 dX12_isTerm_63 (fun q8 => ?_)
    refine r_iload C dX12_isTerm_66 1 rfl ?_
    refine r_iconst C dX12_isTerm_68 k_i2 ?_
    refine r_iadd C dX12_isTerm_69 ?_
    refine r_iald C dX12_isTerm_70 (fun x9 => ?_)
    refine r_icmp_ge (tgt := 78) C dX12_isTerm_71 (by decide) ?_ ?_
    · refine r_iconst C dX12_isTerm_78 k_i0 ?_
      exact r_zret C dX12_isTerm_79
    · refine r_iconst C dX12_isTerm_74 k_i1 ?_
      refine r_goto (tgt := 79) C dX12_isTerm_75 (by decide) ?_
      exact r_zret C dX12_isTerm_79
  · refine r_iload C dX12_isTerm_38 0 rfl ?_
    refine r_aload_n C dX12_isTerm_40 2 rfl ?_
    refine r_gr C wf_X12_25_11 dX12_isTerm_41 (fun q10 => ?_)
    refine r_iload C dX12_isTerm_44 1 rfl ?_
    refine r_iconst C dX12_isTerm_46 k_i2 ?_
    refine r_iadd C dX12_isTerm_47 ?_
    refine r_iald C dX12_isTerm_48 (fun x11 => ?_)
    refine r_icmp_le (tgt := 56) C dX12_isTerm_49 (by decide) ?_ ?_
    · refine r_iconst C dX12_isTerm_56 k_i0 ?_
      refine r_goto (tgt := 79) C dX12_isTerm_57 (by decide) ?_
      exact r_zret C dX12_isTerm_79
    · refine r_iconst C dX12_isTerm_52 k_i1 ?_
      refine r_goto (tgt := 79) C dX12_isTerm_53 (by decide) ?_
      exact r_zret C dX12_isTerm_79
set_option maxRecDepth 100000 in
set_option maxHeartbeats 4000000 in
theorem tX12_hasWant_L3 {K : AC} {g : WG} (hg : p_al g = false)  (C : Cx K g cX12_hasWant 5 RX12 (some .boolean) "hasWant" 3 0 0) (o0 : Nat) (o1 : Nat) (i2 : Int32) (i3 : Int32) {kx : PH → Option (Int32 × PH)} (hk : ∀  (h : PH), VX K g 5 0 0 (a_fin K g 0 0 em_i) 34 [] [] h (kx h)) : ∀ (n : Nat) (i4 : Int32) (h : PH), VX K g 5 0 0 (a_fin K g 0 0 em_i) 3 [(0, p_rf g o0), (1, p_rf g o1), (2, .int i2), (3, .int i3), (4, .int i4)] [] h (fX12_hasWant_L3 o0 o1 i2 i3 kx n i4 h) := by
  intro n
  induction n with
  | zero =>
    intros
    exact r_none
  | succ n ih =>
    intro i4 h
    rw [fX12_hasWant_L3]
    refine r_iload C dX12_hasWant_3 4 rfl ?_
    refine r_aload_n C dX12_hasWant_5 0 rfl ?_
    refine r_gr C wf_X12_22_11 dX12_hasWant_6 (fun q1 => ?_)
    refine r_iload_n C dX12_hasWant_9 3 rfl ?_
    refine r_iald C dX12_hasWant_10 (fun x2 => ?_)
    refine r_icmp_ge (tgt := 34) C dX12_hasWant_11 (by decide) ?_ ?_
    · refine r_perm (lv' := []) [] rfl ?_
      exact hk h
    · refine r_aload_n C dX12_hasWant_14 0 rfl ?_
      refine r_aload_n C dX12_hasWant_15 1 rfl ?_
      refine r_iload_n C dX12_hasWant_16 2 rfl ?_
      refine r_iload_n C dX12_hasWant_17 3 rfl ?_
      refine r_iload C dX12_hasWant_18 4 rfl ?_
      refine r_cvi (As := [p_rf g o1, .int i2, .int i3, .int i4]) (st := []) C wv_X12_253 (tcX12_isTerm K.2.1 g hg o0 o1 i2 i3 i4 h) (Nat.le_of_ble_eq_true rfl) rfl rfl (Nat.le_of_ble_eq_true rfl) dX12_hasWant_20 ⟨Nat.le_of_ble_eq_true rfl, Nat.le_of_ble_eq_true rfl⟩ (fun x3 h4 => ?_)
      refine r_if_ne (tgt := 28) C dX12_hasWant_23 (by decide) ?_ ?_
      · refine r_iinc (lv' := [(0, p_rf g o0), (1, p_rf g o1), (2, .int i2), (3, .int i3)]) C dX12_hasWant_28 4 rfl k_i1 (by decide) (fun _ => rfl) (fun x5 => ?_)
        refine r_goto (tgt := 3) C dX12_hasWant_31 (by decide) ?_
        refine r_perm (lv' := [(0, p_rf g o0), (1, p_rf g o1), (2, .int i2), (3, .int i3), (4, .int x5)]) [1, 2, 3, 4, 0] rfl ?_
        exact ih x5 h4
      · refine r_iconst C dX12_hasWant_26 k_i0 ?_
        exact r_zret C dX12_hasWant_27
set_option maxRecDepth 100000 in
set_option maxHeartbeats 4000000 in
theorem tcX12_hasWant (l : Launch) (g : WG) (hg : p_al g = false) (o0 : Nat) (o1 : Nat) (i2 : Int32) (i3 : Int32) (h : PH) : CT l g 3 0 0 yX12_hasWant cX12_hasWant 5 (some .boolean) em_i [p_rf g o0, p_rf g o1, .int i2, .int i3] h (fX12_hasWant o0 o1 i2 i3 h) := by
  refine CT_of (own := RX12) (nm := "hasWant") (by decide +kernel) (Nat.le_of_ble_eq_true rfl) rfl rfl rfl ⟨rfl, rfl⟩ (fun K hK C => ?_)
  subst hK
  unfold fX12_hasWant
  show VX K g _ _ _ _ _ [(0, p_rf g o0), (1, p_rf g o1), (2, .int i2), (3, .int i3)] _ _ _
  refine r_iconst C dX12_hasWant_0 k_i0 ?_
  refine r_istore (lv9 := [(4, .int (0 : Int32)), (0, p_rf g o0), (1, p_rf g o1), (2, .int i2), (3, .int i3)]) C dX12_hasWant_1 (by decide) rfl ?_
  refine r_perm (lv' := [(0, p_rf g o0), (1, p_rf g o1), (2, .int i2), (3, .int i3), (4, .int (0 : Int32))]) [1, 2, 3, 4, 0] rfl ?_
  refine tX12_hasWant_L3 hg C o0 o1 i2 i3 (fun h1 => ?_) FU (0 : Int32) h
  refine r_iconst C dX12_hasWant_34 k_i1 ?_
  exact r_zret C dX12_hasWant_35
set_option maxRecDepth 100000 in
set_option maxHeartbeats 4000000 in
theorem tX12_had_J34_5 {K : AC} {g : WG} (hg : p_al g = false)  (C : Cx K g cX12_had 5 RX12 (some .int) "had" 4 0 0) (o0 : Nat) (o1 : Nat) (i2 : Int32) (i4 : Int32) (s0 : Int32) (s1 : Int32)    {rc : Int32 → Int32 → PH → Option (Int32 × PH)} {kx : Int32 → PH → Option (Int32 × PH)} (hr : ∀ (i3' : Int32) (i4' : Int32) (h : PH), VX K g 5 0 0 (a_fin K g 0 0 em_i) 5 [(0, p_rf g o0), (1, p_rf g o1), (2, .int i2), (3, .int i3'), (4, .int i4')] [] h (rc i3' i4' h)) (hk : ∀ (i3' : Int32) (h : PH), VX K g 5 0 0 (a_fin K g 0 0 em_i) 42 [(3, .int i3')] [] h (kx i3' h)) (h : PH) : VX K g 5 0 0 (a_fin K g 0 0 em_i) 34 [(0, p_rf g o0), (1, p_rf g o1), (2, .int i2), (4, .int i4)] [.int s0, .int s1] h (fX12_had_J34_5 rc kx o0 o1 i2 i4 s0 s1 h) := by
  unfold fX12_had_J34_5
  refine r_ior C dX12_had_34 ?_
  refine r_topi (fun x1 => ?_)
  refine r_istore_n (lv9 := [(3, .int x1), (0, p_rf g o0), (1, p_rf g o1), (2, .int i2), (4, .int i4)]) C dX12_had_35 (by decide) rfl ?_
  refine r_iinc (lv' := [(3, .int x1), (0, p_rf g o0), (1, p_rf g o1), (2, .int i2)]) C dX12_had_36 4 rfl k_i1 (by decide) (fun _ => rfl) (fun x2 => ?_)
  refine r_goto (tgt := 5) C dX12_had_39 (by decide) ?_
  refine r_perm (lv' := [(0, p_rf g o0), (1, p_rf g o1), (2, .int i2), (3, .int x1), (4, .int x2)]) [2, 3, 4, 1, 0] rfl ?_
  exact hr x1 x2 h
set_option maxRecDepth 100000 in
set_option maxHeartbeats 4000000 in
theorem tX12_had_L5 {K : AC} {g : WG} (hg : p_al g = false)  (C : Cx K g cX12_had 5 RX12 (some .int) "had" 4 0 0) (o0 : Nat) (o1 : Nat) (i2 : Int32) {kx : Int32 → PH → Option (Int32 × PH)} (hk : ∀ (i3 : Int32) (h : PH), VX K g 5 0 0 (a_fin K g 0 0 em_i) 42 [(3, .int i3)] [] h (kx i3 h)) : ∀ (n : Nat) (i3 : Int32) (i4 : Int32) (h : PH), VX K g 5 0 0 (a_fin K g 0 0 em_i) 5 [(0, p_rf g o0), (1, p_rf g o1), (2, .int i2), (3, .int i3), (4, .int i4)] [] h (fX12_had_L5 o0 o1 i2 kx n i3 i4 h) := by
  intro n
  induction n with
  | zero =>
    intros
    exact r_none
  | succ n ih =>
    intro i3 i4 h
    rw [fX12_had_L5]
    refine r_iload C dX12_had_5 4 rfl ?_
    refine r_aload_n C dX12_had_7 0 rfl ?_
    refine r_gi C wf_X12_126_11 dX12_had_8 (fun x1 => ?_)
    refine r_icmp_ge (tgt := 42) C dX12_had_11 (by decide) ?_ ?_
    · refine r_perm (lv' := [(3, .int i3)]) [3] rfl ?_
      exact hk i3 h
    · refine r_iload_n C dX12_had_14 3 rfl ?_
      refine r_aload_n C dX12_had_15 0 rfl ?_
      refine r_aload_n C dX12_had_16 1 rfl ?_
      refine r_iload_n C dX12_had_17 2 rfl ?_
      refine r_iload C dX12_had_18 4 rfl ?_
      refine r_cvi (As := [p_rf g o1, .int i2, .int i4]) (st := [.int i3]) C wv_X12_257 (tcX12_hasWant K.2.1 g hg o0 o1 i2 i4 h) (Nat.le_of_ble_eq_true rfl) rfl rfl (Nat.le_of_ble_eq_true rfl) dX12_had_20 ⟨Nat.le_of_ble_eq_true rfl, Nat.le_of_ble_eq_true rfl⟩ (fun x2 h3 => ?_)
      refine r_if_eq (tgt := 33) C dX12_had_23 (by decide) ?_ ?_
      · refine r_iconst C dX12_had_33 k_i0 ?_
        refine r_perm (lv' := [(0, p_rf g o0), (1, p_rf g o1), (2, .int i2), (4, .int i4)]) [0, 1, 2, 4] rfl ?_
        exact tX12_had_J34_5 hg C o0 o1 i2 i4 (0 : Int32) i3 ih hk h3
      · refine r_iconst C dX12_had_26 k_i1 ?_
        refine r_iload C dX12_had_27 4 rfl ?_
        refine r_ishl C dX12_had_29 ?_
        refine r_goto (tgt := 34) C dX12_had_30 (by decide) ?_
        refine r_perm (lv' := [(0, p_rf g o0), (1, p_rf g o1), (2, .int i2), (4, .int i4)]) [0, 1, 2, 4] rfl ?_
        exact tX12_had_J34_5 hg C o0 o1 i2 i4 ((1 : Int32) <<< (i4 &&& 31)) i3 ih hk h3
set_option maxRecDepth 100000 in
set_option maxHeartbeats 4000000 in
theorem tcX12_had (l : Launch) (g : WG) (hg : p_al g = false) (o0 : Nat) (o1 : Nat) (i2 : Int32) (h : PH) : CT l g 4 0 0 yX12_had cX12_had 5 (some .int) em_i [p_rf g o0, p_rf g o1, .int i2] h (fX12_had o0 o1 i2 h) := by
  refine CT_of (own := RX12) (nm := "had") (by decide +kernel) (Nat.le_of_ble_eq_true rfl) rfl rfl rfl ⟨rfl, rfl⟩ (fun K hK C => ?_)
  subst hK
  unfold fX12_had
  show VX K g _ _ _ _ _ [(0, p_rf g o0), (1, p_rf g o1), (2, .int i2)] _ _ _
  refine r_iconst C dX12_had_0 k_i0 ?_
  refine r_istore_n (lv9 := [(3, .int (0 : Int32)), (0, p_rf g o0), (1, p_rf g o1), (2, .int i2)]) C dX12_had_1 (by decide) rfl ?_
  refine r_iconst C dX12_had_2 k_i0 ?_
  refine r_istore (lv9 := [(4, .int (0 : Int32)), (3, .int (0 : Int32)), (0, p_rf g o0), (1, p_rf g o1), (2, .int i2)]) C dX12_had_3 (by decide) rfl ?_
  refine r_perm (lv' := [(0, p_rf g o0), (1, p_rf g o1), (2, .int i2), (3, .int (0 : Int32)), (4, .int (0 : Int32))]) [2, 3, 4, 1, 0] rfl ?_
  refine tX12_had_L5 hg C o0 o1 i2 (fun x1 h2 => ?_) FU (0 : Int32) (0 : Int32) h
  refine r_iload_n C dX12_had_42 0 rfl ?_
  exact r_iret C dX12_had_43
set_option maxRecDepth 100000 in
set_option maxHeartbeats 4000000 in
theorem tX12_hadByAll_L4 {K : AC} {g : WG} (hg : p_al g = false)  (C : Cx K g cX12_hadByAll 4 RX12 (some .int) "hadByAll" 5 0 0) (o0 : Nat) (o1 : Nat) {kx : Int32 → PH → Option (Int32 × PH)} (hk : ∀ (i2 : Int32) (h : PH), VX K g 4 0 0 (a_fin K g 0 0 em_i) 30 [(2, .int i2)] [] h (kx i2 h)) : ∀ (n : Nat) (i2 : Int32) (i3 : Int32) (h : PH), VX K g 4 0 0 (a_fin K g 0 0 em_i) 4 [(0, p_rf g o0), (1, p_rf g o1), (2, .int i2), (3, .int i3)] [] h (fX12_hadByAll_L4 o0 o1 kx n i2 i3 h) := by
  intro n
  induction n with
  | zero =>
    intros
    exact r_none
  | succ n ih =>
    intro i2 i3 h
    rw [fX12_hadByAll_L4]
    refine r_iload_n C dX12_hadByAll_4 3 rfl ?_
    refine r_aload_n C dX12_hadByAll_5 0 rfl ?_
    refine r_gi C wf_X12_123_11 dX12_hadByAll_6 (fun x1 => ?_)
    refine r_icmp_ge (tgt := 30) C dX12_hadByAll_9 (by decide) ?_ ?_
    · refine r_perm (lv' := [(2, .int i2)]) [2] rfl ?_
      exact hk i2 h
    · refine r_iload_n C dX12_hadByAll_12 2 rfl ?_
      refine r_aload_n C dX12_hadByAll_13 0 rfl ?_
      refine r_aload_n C dX12_hadByAll_14 1 rfl ?_
      refine r_iload_n C dX12_hadByAll_15 3 rfl ?_
      refine r_cvi (As := [p_rf g o1, .int i3]) (st := [.int i2]) C wv_X12_261 (tcX12_had K.2.1 g hg o0 o1 i3 h) (Nat.le_of_ble_eq_true rfl) rfl rfl (Nat.le_of_ble_eq_true rfl) dX12_hadByAll_16 ⟨Nat.le_of_ble_eq_true rfl, Nat.le_of_ble_eq_true rfl⟩ (fun x2 h3 => ?_)
      refine r_csi (As := [.int x2]) (st := [.int i2]) C ws_X12_242 (tcJ6_bitCount_0f7a4 K.2.1 g hg x2 h3) (Nat.le_of_ble_eq_true rfl) rfl rfl (Nat.le_of_ble_eq_true rfl) dX12_hadByAll_19 ⟨Nat.le_of_ble_eq_true rfl, Nat.le_of_ble_eq_true rfl⟩ (fun x4 h5 => ?_)
      refine r_iadd C dX12_hadByAll_22 ?_
      refine r_topi (fun x6 => ?_)
      refine r_istore_n (lv9 := [(2, .int x6), (0, p_rf g o0), (1, p_rf g o1), (3, .int i3)]) C dX12_hadByAll_23 (by decide) rfl ?_
      refine r_iinc (lv' := [(2, .int x6), (0, p_rf g o0), (1, p_rf g o1)]) C dX12_hadByAll_24 3 rfl k_i1 (by decide) (fun _ => rfl) (fun x7 => ?_)
      refine r_goto (tgt := 4) C dX12_hadByAll_27 (by decide) ?_
      refine r_perm (lv' := [(0, p_rf g o0), (1, p_rf g o1), (2, .int x6), (3, .int x7)]) [2, 3, 1, 0] rfl ?_
      exact ih x6 x7 h5
set_option maxRecDepth 100000 in
set_option maxHeartbeats 4000000 in
theorem tcX12_hadByAll (l : Launch) (g : WG) (hg : p_al g = false) (o0 : Nat) (o1 : Nat) (h : PH) : CT l g 5 0 0 yX12_hadByAll cX12_hadByAll 4 (some .int) em_i [p_rf g o0, p_rf g o1] h (fX12_hadByAll o0 o1 h) := by
  refine CT_of (own := RX12) (nm := "hadByAll") (by decide +kernel) (Nat.le_of_ble_eq_true rfl) rfl rfl rfl ⟨rfl, rfl⟩ (fun K hK C => ?_)
  subst hK
  unfold fX12_hadByAll
  show VX K g _ _ _ _ _ [(0, p_rf g o0), (1, p_rf g o1)] _ _ _
  refine r_iconst C dX12_hadByAll_0 k_i0 ?_
  refine r_istore_n (lv9 := [(2, .int (0 : Int32)), (0, p_rf g o0), (1, p_rf g o1)]) C dX12_hadByAll_1 (by decide) rfl ?_
  refine r_iconst C dX12_hadByAll_2 k_i0 ?_
  refine r_istore_n (lv9 := [(3, .int (0 : Int32)), (2, .int (0 : Int32)), (0, p_rf g o0), (1, p_rf g o1)]) C dX12_hadByAll_3 (by decide) rfl ?_
  refine r_perm (lv' := [(0, p_rf g o0), (1, p_rf g o1), (2, .int (0 : Int32)), (3, .int (0 : Int32))]) [2, 3, 1, 0] rfl ?_
  refine tX12_hadByAll_L4 hg C o0 o1 (fun x1 h2 => ?_) FU (0 : Int32) (0 : Int32) h
  refine r_iload_n C dX12_hadByAll_30 0 rfl ?_
  exact r_iret C dX12_hadByAll_31
set_option maxRecDepth 100000 in
set_option maxHeartbeats 4000000 in
theorem tX12_humoursOfAll_L4 {K : AC} {g : WG} (hg : p_al g = false)  (C : Cx K g cX12_humoursOfAll 4 RX12 (some .int) "humoursOfAll" 1 0 0) (o0 : Nat) (o1 : Nat) {kx : Int32 → PH → Option (Int32 × PH)} (hk : ∀ (i2 : Int32) (h : PH), VX K g 4 0 0 (a_fin K g 0 0 em_i) 29 [(2, .int i2)] [] h (kx i2 h)) : ∀ (n : Nat) (i2 : Int32) (i3 : Int32) (h : PH), VX K g 4 0 0 (a_fin K g 0 0 em_i) 4 [(0, p_rf g o0), (1, p_rf g o1), (2, .int i2), (3, .int i3)] [] h (fX12_humoursOfAll_L4 o0 o1 kx n i2 i3 h) := by
  intro n
  induction n with
  | zero =>
    intros
    exact r_none
  | succ n ih =>
    intro i2 i3 h
    rw [fX12_humoursOfAll_L4]
    refine r_iload_n C dX12_humoursOfAll_4 3 rfl ?_
    refine r_iconst C dX12_humoursOfAll_5 k_i4 ?_
    refine r_aload_n C dX12_humoursOfAll_6 0 rfl ?_
    refine r_gi C wf_X12_123_11 dX12_humoursOfAll_7 (fun x1 => ?_)
    refine r_imul C dX12_humoursOfAll_10 ?_
    refine r_icmp_ge (tgt := 29) C dX12_humoursOfAll_11 (by decide) ?_ ?_
    · refine r_perm (lv' := [(2, .int i2)]) [2] rfl ?_
      exact hk i2 h
    · refine r_iload_n C dX12_humoursOfAll_14 2 rfl ?_
      refine r_aload_n C dX12_humoursOfAll_15 1 rfl ?_
      refine r_bipush C dX12_humoursOfAll_16 k_b8 ?_
      refine r_iload_n C dX12_humoursOfAll_18 3 rfl ?_
      refine r_iadd C dX12_humoursOfAll_19 ?_
      refine r_iald C dX12_humoursOfAll_20 (fun x2 => ?_)
      refine r_iadd C dX12_humoursOfAll_21 ?_
      refine r_topi (fun x3 => ?_)
      refine r_istore_n (lv9 := [(2, .int x3), (0, p_rf g o0), (1, p_rf g o1), (3, .int i3)]) C dX12_humoursOfAll_22 (by decide) rfl ?_
      refine r_iinc (lv' := [(2, .int x3), (0, p_rf g o0), (1, p_rf g o1)]) C dX12_humoursOfAll_23 3 rfl k_i1 (by decide) (fun _ => rfl) (fun x4 => ?_)
      refine r_goto (tgt := 4) C dX12_humoursOfAll_26 (by decide) ?_
      refine r_perm (lv' := [(0, p_rf g o0), (1, p_rf g o1), (2, .int x3), (3, .int x4)]) [2, 3, 1, 0] rfl ?_
      exact ih x3 x4 h
set_option maxRecDepth 100000 in
set_option maxHeartbeats 4000000 in
theorem tcX12_humoursOfAll (l : Launch) (g : WG) (hg : p_al g = false) (o0 : Nat) (o1 : Nat) (h : PH) : CT l g 1 0 0 yX12_humoursOfAll cX12_humoursOfAll 4 (some .int) em_i [p_rf g o0, p_rf g o1] h (fX12_humoursOfAll o0 o1 h) := by
  refine CT_of (own := RX12) (nm := "humoursOfAll") (by decide +kernel) (Nat.le_of_ble_eq_true rfl) rfl rfl rfl ⟨rfl, rfl⟩ (fun K hK C => ?_)
  subst hK
  unfold fX12_humoursOfAll
  show VX K g _ _ _ _ _ [(0, p_rf g o0), (1, p_rf g o1)] _ _ _
  refine r_iconst C dX12_humoursOfAll_0 k_i0 ?_
  refine r_istore_n (lv9 := [(2, .int (0 : Int32)), (0, p_rf g o0), (1, p_rf g o1)]) C dX12_humoursOfAll_1 (by decide) rfl ?_
  refine r_iconst C dX12_humoursOfAll_2 k_i0 ?_
  refine r_istore_n (lv9 := [(3, .int (0 : Int32)), (2, .int (0 : Int32)), (0, p_rf g o0), (1, p_rf g o1)]) C dX12_humoursOfAll_3 (by decide) rfl ?_
  refine r_perm (lv' := [(0, p_rf g o0), (1, p_rf g o1), (2, .int (0 : Int32)), (3, .int (0 : Int32))]) [2, 3, 1, 0] rfl ?_
  refine tX12_humoursOfAll_L4 hg C o0 o1 (fun x1 h2 => ?_) FU (0 : Int32) (0 : Int32) h
  refine r_iload_n C dX12_humoursOfAll_29 0 rfl ?_
  exact r_iret C dX12_humoursOfAll_30
set_option maxRecDepth 100000 in
set_option maxHeartbeats 4000000 in
theorem tX12_heldByAll_L4 {K : AC} {g : WG} (hg : p_al g = false)  (C : Cx K g cX12_heldByAll 4 RX12 (some .int) "heldByAll" 2 0 0) (o0 : Nat) (o1 : Nat) {kx : Int32 → PH → Option (Int32 × PH)} (hk : ∀ (i2 : Int32) (h : PH), VX K g 4 0 0 (a_fin K g 0 0 em_i) 30 [(2, .int i2)] [] h (kx i2 h)) : ∀ (n : Nat) (i2 : Int32) (i3 : Int32) (h : PH), VX K g 4 0 0 (a_fin K g 0 0 em_i) 4 [(0, p_rf g o0), (1, p_rf g o1), (2, .int i2), (3, .int i3)] [] h (fX12_heldByAll_L4 o0 o1 kx n i2 i3 h) := by
  intro n
  induction n with
  | zero =>
    intros
    exact r_none
  | succ n ih =>
    intro i2 i3 h
    rw [fX12_heldByAll_L4]
    refine r_iload_n C dX12_heldByAll_4 3 rfl ?_
    refine r_aload_n C dX12_heldByAll_5 0 rfl ?_
    refine r_gi C wf_X12_123_11 dX12_heldByAll_6 (fun x1 => ?_)
    refine r_icmp_ge (tgt := 30) C dX12_heldByAll_9 (by decide) ?_ ?_
    · refine r_perm (lv' := [(2, .int i2)]) [2] rfl ?_
      exact hk i2 h
    · refine r_iload_n C dX12_heldByAll_12 2 rfl ?_
      refine r_aload_n C dX12_heldByAll_13 1 rfl ?_
      refine r_bipush C dX12_heldByAll_14 k_b32 ?_
      refine r_iload_n C dX12_heldByAll_16 3 rfl ?_
      refine r_iadd C dX12_heldByAll_17 ?_
      refine r_iald C dX12_heldByAll_18 (fun x2 => ?_)
      refine r_csi (As := [.int x2]) (st := [.int i2]) C ws_X12_242 (tcJ6_bitCount_0f7a4 K.2.1 g hg x2 h) (Nat.le_of_ble_eq_true rfl) rfl rfl (Nat.le_of_ble_eq_true rfl) dX12_heldByAll_19 ⟨Nat.le_of_ble_eq_true rfl, Nat.le_of_ble_eq_true rfl⟩ (fun x3 h4 => ?_)
      refine r_iadd C dX12_heldByAll_22 ?_
      refine r_topi (fun x5 => ?_)
      refine r_istore_n (lv9 := [(2, .int x5), (0, p_rf g o0), (1, p_rf g o1), (3, .int i3)]) C dX12_heldByAll_23 (by decide) rfl ?_
      refine r_iinc (lv' := [(2, .int x5), (0, p_rf g o0), (1, p_rf g o1)]) C dX12_heldByAll_24 3 rfl k_i1 (by decide) (fun _ => rfl) (fun x6 => ?_)
      refine r_goto (tgt := 4) C dX12_heldByAll_27 (by decide) ?_
      refine r_perm (lv' := [(0, p_rf g o0), (1, p_rf g o1), (2, .int x5), (3, .int x6)]) [2, 3, 1, 0] rfl ?_
      exact ih x5 x6 h4
set_option maxRecDepth 100000 in
set_option maxHeartbeats 4000000 in
theorem tcX12_heldByAll (l : Launch) (g : WG) (hg : p_al g = false) (o0 : Nat) (o1 : Nat) (h : PH) : CT l g 2 0 0 yX12_heldByAll cX12_heldByAll 4 (some .int) em_i [p_rf g o0, p_rf g o1] h (fX12_heldByAll o0 o1 h) := by
  refine CT_of (own := RX12) (nm := "heldByAll") (by decide +kernel) (Nat.le_of_ble_eq_true rfl) rfl rfl rfl ⟨rfl, rfl⟩ (fun K hK C => ?_)
  subst hK
  unfold fX12_heldByAll
  show VX K g _ _ _ _ _ [(0, p_rf g o0), (1, p_rf g o1)] _ _ _
  refine r_iconst C dX12_heldByAll_0 k_i0 ?_
  refine r_istore_n (lv9 := [(2, .int (0 : Int32)), (0, p_rf g o0), (1, p_rf g o1)]) C dX12_heldByAll_1 (by decide) rfl ?_
  refine r_iconst C dX12_heldByAll_2 k_i0 ?_
  refine r_istore_n (lv9 := [(3, .int (0 : Int32)), (2, .int (0 : Int32)), (0, p_rf g o0), (1, p_rf g o1)]) C dX12_heldByAll_3 (by decide) rfl ?_
  refine r_perm (lv' := [(0, p_rf g o0), (1, p_rf g o1), (2, .int (0 : Int32)), (3, .int (0 : Int32))]) [2, 3, 1, 0] rfl ?_
  refine tX12_heldByAll_L4 hg C o0 o1 (fun x1 h2 => ?_) FU (0 : Int32) (0 : Int32) h
  refine r_iload_n C dX12_heldByAll_30 0 rfl ?_
  exact r_iret C dX12_heldByAll_31
set_option maxRecDepth 100000 in
set_option maxHeartbeats 4000000 in
theorem tX12_holders_J36_4 {K : AC} {g : WG} (hg : p_al g = false)  (C : Cx K g cX12_holders 4 RX12 (some .int) "holders" 2 0 0) (o0 : Nat) (i1 : Int32) (i3 : Int32) (s0 : Int32) (s1 : Int32)    {rc : Int32 → Int32 → PH → Option (Int32 × PH)} {kx : Int32 → PH → Option (Int32 × PH)} (hr : ∀ (i2' : Int32) (i3' : Int32) (h : PH), VX K g 4 0 0 (a_fin K g 0 0 em_i) 4 [(0, p_rf g o0), (1, .int i1), (2, .int i2'), (3, .int i3')] [] h (rc i2' i3' h)) (hk : ∀ (i2' : Int32) (h : PH), VX K g 4 0 0 (a_fin K g 0 0 em_i) 44 [(2, .int i2')] [] h (kx i2' h)) (h : PH) : VX K g 4 0 0 (a_fin K g 0 0 em_i) 36 [(0, p_rf g o0), (1, .int i1), (3, .int i3)] [.int s0, .int s1] h (fX12_holders_J36_4 rc kx o0 i1 i3 s0 s1 h) := by
  unfold fX12_holders_J36_4
  refine r_ior C dX12_holders_36 ?_
  refine r_topi (fun x1 => ?_)
  refine r_istore_n (lv9 := [(2, .int x1), (0, p_rf g o0), (1, .int i1), (3, .int i3)]) C dX12_holders_37 (by decide) rfl ?_
  refine r_iinc (lv' := [(2, .int x1), (0, p_rf g o0), (1, .int i1)]) C dX12_holders_38 3 rfl k_i1 (by decide) (fun _ => rfl) (fun x2 => ?_)
  refine r_goto (tgt := 4) C dX12_holders_41 (by decide) ?_
  refine r_perm (lv' := [(0, p_rf g o0), (1, .int i1), (2, .int x1), (3, .int x2)]) [2, 3, 1, 0] rfl ?_
  exact hr x1 x2 h
set_option maxRecDepth 100000 in
set_option maxHeartbeats 4000000 in
theorem tX12_holders_L4 {K : AC} {g : WG} (hg : p_al g = false)  (C : Cx K g cX12_holders 4 RX12 (some .int) "holders" 2 0 0) (o0 : Nat) (i1 : Int32) {kx : Int32 → PH → Option (Int32 × PH)} (hk : ∀ (i2 : Int32) (h : PH), VX K g 4 0 0 (a_fin K g 0 0 em_i) 44 [(2, .int i2)] [] h (kx i2 h)) : ∀ (n : Nat) (i2 : Int32) (i3 : Int32) (h : PH), VX K g 4 0 0 (a_fin K g 0 0 em_i) 4 [(0, p_rf g o0), (1, .int i1), (2, .int i2), (3, .int i3)] [] h (fX12_holders_L4 o0 i1 kx n i2 i3 h) := by
  intro n
  induction n with
  | zero =>
    intros
    exact r_none
  | succ n ih =>
    intro i2 i3 h
    rw [fX12_holders_L4]
    refine r_iload_n C dX12_holders_4 3 rfl ?_
    refine r_aload_n C dX12_holders_5 0 rfl ?_
    refine r_gi C wf_X12_123_11 dX12_holders_6 (fun x1 => ?_)
    refine r_icmp_ge (tgt := 44) C dX12_holders_9 (by decide) ?_ ?_
    · refine r_perm (lv' := [(2, .int i2)]) [2] rfl ?_
      exact hk i2 h
    · refine r_iload_n C dX12_holders_12 2 rfl ?_
      refine r_aload_n C dX12_holders_13 0 rfl ?_
      refine r_gr C wf_X12_9_11 dX12_holders_14 (fun q2 => ?_)
      refine r_bipush C dX12_holders_17 k_b32 ?_
      refine r_iload_n C dX12_holders_19 3 rfl ?_
      refine r_iadd C dX12_holders_20 ?_
      refine r_iald C dX12_holders_21 (fun x3 => ?_)
      refine r_iload_n C dX12_holders_22 1 rfl ?_
      refine r_csi (As := [.int x3, .int i1]) (st := [.int i2]) C ws_X12_265 (tcX12_has K.2.1 g hg x3 i1 h) (Nat.le_of_ble_eq_true rfl) rfl rfl (Nat.le_of_ble_eq_true rfl) dX12_holders_23 ⟨Nat.le_of_ble_eq_true rfl, Nat.le_of_ble_eq_true rfl⟩ (fun x4 h5 => ?_)
      refine r_if_eq (tgt := 35) C dX12_holders_26 (by decide) ?_ ?_
      · refine r_iconst C dX12_holders_35 k_i0 ?_
        refine r_perm (lv' := [(0, p_rf g o0), (1, .int i1), (3, .int i3)]) [0, 1, 3] rfl ?_
        exact tX12_holders_J36_4 hg C o0 i1 i3 (0 : Int32) i2 ih hk h5
      · refine r_iconst C dX12_holders_29 k_i1 ?_
        refine r_iload_n C dX12_holders_30 3 rfl ?_
        refine r_ishl C dX12_holders_31 ?_
        refine r_goto (tgt := 36) C dX12_holders_32 (by decide) ?_
        refine r_perm (lv' := [(0, p_rf g o0), (1, .int i1), (3, .int i3)]) [0, 1, 3] rfl ?_
        exact tX12_holders_J36_4 hg C o0 i1 i3 ((1 : Int32) <<< (i3 &&& 31)) i2 ih hk h5
set_option maxRecDepth 100000 in
set_option maxHeartbeats 4000000 in
theorem tcX12_holders (l : Launch) (g : WG) (hg : p_al g = false) (o0 : Nat) (i1 : Int32) (h : PH) : CT l g 2 0 0 yX12_holders cX12_holders 4 (some .int) em_i [p_rf g o0, .int i1] h (fX12_holders o0 i1 h) := by
  refine CT_of (own := RX12) (nm := "holders") (by decide +kernel) (Nat.le_of_ble_eq_true rfl) rfl rfl rfl ⟨rfl, rfl⟩ (fun K hK C => ?_)
  subst hK
  unfold fX12_holders
  show VX K g _ _ _ _ _ [(0, p_rf g o0), (1, .int i1)] _ _ _
  refine r_iconst C dX12_holders_0 k_i0 ?_
  refine r_istore_n (lv9 := [(2, .int (0 : Int32)), (0, p_rf g o0), (1, .int i1)]) C dX12_holders_1 (by decide) rfl ?_
  refine r_iconst C dX12_holders_2 k_i0 ?_
  refine r_istore_n (lv9 := [(3, .int (0 : Int32)), (2, .int (0 : Int32)), (0, p_rf g o0), (1, .int i1)]) C dX12_holders_3 (by decide) rfl ?_
  refine r_perm (lv' := [(0, p_rf g o0), (1, .int i1), (2, .int (0 : Int32)), (3, .int (0 : Int32))]) [2, 3, 1, 0] rfl ?_
  refine tX12_holders_L4 hg C o0 i1 (fun x1 h2 => ?_) FU (0 : Int32) (0 : Int32) h
  refine r_iload_n C dX12_holders_44 0 rfl ?_
  exact r_iret C dX12_holders_45
set_option maxRecDepth 100000 in
set_option maxHeartbeats 4000000 in
theorem tX12_ground_J23 {K : AC} {g : WG} (hg : p_al g = false)  (C : Cx K g cX12_ground 3 RX12 (some .int) "ground" 3 0 0) (o0 : Nat)  (h : PH) : VX K g 3 0 0 (a_fin K g 0 0 em_i) 23 [(0, p_rf g o0)] [] h (fX12_ground_J23 o0 h) := by
  unfold fX12_ground_J23
  refine r_aload_n C dX12_ground_23 0 rfl ?_
  refine r_cvi (As := []) (st := []) C wv_X12_272 (tcX12_lost K.2.1 g hg o0 h) (Nat.le_of_ble_eq_true rfl) rfl rfl (Nat.le_of_ble_eq_true rfl) dX12_ground_24 ⟨Nat.le_of_ble_eq_true rfl, Nat.le_of_ble_eq_true rfl⟩ (fun x1 h2 => ?_)
  exact r_iret C dX12_ground_27
set_option maxRecDepth 100000 in
set_option maxHeartbeats 4000000 in
theorem tcX12_ground (l : Launch) (g : WG) (hg : p_al g = false) (o0 : Nat) (i1 : Int32) (i2 : Int32) (h : PH) : CT l g 3 0 0 yX12_ground cX12_ground 3 (some .int) em_i [p_rf g o0, .int i1, .int i2] h (fX12_ground o0 i1 i2 h) := by
  refine CT_of (own := RX12) (nm := "ground") (by decide +kernel) (Nat.le_of_ble_eq_true rfl) rfl rfl rfl ⟨rfl, rfl⟩ (fun K hK C => ?_)
  subst hK
  unfold fX12_ground
  show VX K g _ _ _ _ _ [(0, p_rf g o0), (1, .int i1), (2, .int i2)] _ _ _
  refine r_aload_n C dX12_ground_0 0 rfl ?_
  refine r_iconst C dX12_ground_1 k_i0 ?_
  refine r_pi C wf_X12_109_11 dX12_ground_2 (fun h1 => ?_)
  refine r_aload_n C dX12_ground_5 0 rfl ?_
  refine r_iload_n C dX12_ground_6 1 rfl ?_
  refine r_cvi (As := [.int i1]) (st := []) C wv_X12_269 (tcX12_isGround K.2.1 g hg o0 i1 h1) (Nat.le_of_ble_eq_true rfl) rfl rfl (Nat.le_of_ble_eq_true rfl) dX12_ground_7 ⟨Nat.le_of_ble_eq_true rfl, Nat.le_of_ble_eq_true rfl⟩ (fun x2 h3 => ?_)
  refine r_if_eq (tgt := 23) C dX12_ground_10 (by decide) ?_ ?_
  · refine r_perm (lv' := [(0, p_rf g o0)]) [0] rfl ?_
    exact tX12_ground_J23 hg C o0 h3
  · refine r_iload_n C dX12_ground_13 2 rfl ?_
    refine r_iconst C dX12_ground_14 k_i0 ?_
    refine r_bipush C dX12_ground_15 k_b6 ?_
    refine r_csi (As := [.int i2, .int (0 : Int32), .int (6 : Int32)]) (st := []) C ws_X12_119 (tcX12_in K.2.1 g hg i2 (0 : Int32) (6 : Int32) h3) (Nat.le_of_ble_eq_true rfl) rfl rfl (Nat.le_of_ble_eq_true rfl) dX12_ground_17 ⟨Nat.le_of_ble_eq_true rfl, Nat.le_of_ble_eq_true rfl⟩ (fun x4 h5 => ?_)
    refine r_if_ne (tgt := 28) C dX12_ground_20 (by decide) ?_ ?_
    · refine r_iload_n C dX12_ground_28 2 rfl ?_
      refine r_if_ne (tgt := 41) C dX12_ground_29 (by decide) ?_ ?_
      · refine r_iload_n C dX12_ground_41 2 rfl ?_
        refine r_iconst C dX12_ground_42 k_i1 ?_
        refine r_icmp_ne (tgt := 55) C dX12_ground_43 (by decide) ?_ ?_
        · refine r_iload_n C dX12_ground_55 2 rfl ?_
          refine r_bipush C dX12_ground_56 k_b6 ?_
          refine r_icmp_ne (tgt := 69) C dX12_ground_58 (by decide) ?_ ?_
          · refine r_aload_n C dX12_ground_69 0 rfl ?_
            refine r_gr C wf_X12_16_11 dX12_ground_70 (fun q6 => ?_)
            refine r_iconst C dX12_ground_73 k_i4 ?_
            refine r_iload_n C dX12_ground_74 1 rfl ?_
            refine r_imul C dX12_ground_75 ?_
            refine r_iload_n C dX12_ground_76 2 rfl ?_
            refine r_iadd C dX12_ground_77 ?_
            refine r_iconst C dX12_ground_78 k_i2 ?_
            refine r_isub C dX12_ground_79 ?_
            refine r_iald C dX12_ground_80 (fun x7 => ?_)
            exact r_iret C dX12_ground_81
          · refine r_aload_n C dX12_ground_61 0 rfl ?_
            refine r_iload_n C dX12_ground_62 1 rfl ?_
            refine r_cvi (As := [.int i1]) (st := []) C wv_X12_275 (tcX12_holders K.2.1 g hg o0 i1 h5) (Nat.le_of_ble_eq_true rfl) rfl rfl (Nat.le_of_ble_eq_true rfl) dX12_ground_63 ⟨Nat.le_of_ble_eq_true rfl, Nat.le_of_ble_eq_true rfl⟩ (fun x8 h9 => ?_)
            refine r_goto (tgt := 81) C dX12_ground_66 (by decide) ?_
            exact r_iret C dX12_ground_81
        · refine r_aload_n C dX12_ground_46 0 rfl ?_
          refine r_gr C wf_X12_9_11 dX12_ground_47 (fun q10 => ?_)
          refine r_iload_n C dX12_ground_50 1 rfl ?_
          refine r_iald C dX12_ground_51 (fun x11 => ?_)
          refine r_goto (tgt := 81) C dX12_ground_52 (by decide) ?_
          exact r_iret C dX12_ground_81
      · refine r_aload_n C dX12_ground_32 0 rfl ?_
        refine r_gr C wf_X12_13_11 dX12_ground_33 (fun q12 => ?_)
        refine r_iload_n C dX12_ground_36 1 rfl ?_
        refine r_iald C dX12_ground_37 (fun x13 => ?_)
        refine r_goto (tgt := 81) C dX12_ground_38 (by decide) ?_
        exact r_iret C dX12_ground_81
    · refine r_perm (lv' := [(0, p_rf g o0)]) [0] rfl ?_
      exact tX12_ground_J23 hg C o0 h5
set_option maxRecDepth 100000 in
set_option maxHeartbeats 4000000 in
theorem tX12_person_J23 {K : AC} {g : WG} (hg : p_al g = false)  (C : Cx K g cX12_person 3 RX12 (some .int) "person" 5 0 0) (o0 : Nat)  (h : PH) : VX K g 3 0 0 (a_fin K g 0 0 em_i) 23 [(0, p_rf g o0)] [] h (fX12_person_J23 o0 h) := by
  unfold fX12_person_J23
  refine r_aload_n C dX12_person_23 0 rfl ?_
  refine r_cvi (As := []) (st := []) C wv_X12_272 (tcX12_lost K.2.1 g hg o0 h) (Nat.le_of_ble_eq_true rfl) rfl rfl (Nat.le_of_ble_eq_true rfl) dX12_person_24 ⟨Nat.le_of_ble_eq_true rfl, Nat.le_of_ble_eq_true rfl⟩ (fun x1 h2 => ?_)
  exact r_iret C dX12_person_27
set_option maxRecDepth 100000 in
set_option maxHeartbeats 4000000 in
theorem tcX12_person (l : Launch) (g : WG) (hg : p_al g = false) (o0 : Nat) (i1 : Int32) (i2 : Int32) (h : PH) : CT l g 5 0 0 yX12_person cX12_person 3 (some .int) em_i [p_rf g o0, .int i1, .int i2] h (fX12_person o0 i1 i2 h) := by
  refine CT_of (own := RX12) (nm := "person") (by decide +kernel) (Nat.le_of_ble_eq_true rfl) rfl rfl rfl ⟨rfl, rfl⟩ (fun K hK C => ?_)
  subst hK
  unfold fX12_person
  show VX K g _ _ _ _ _ [(0, p_rf g o0), (1, .int i1), (2, .int i2)] _ _ _
  refine r_aload_n C dX12_person_0 0 rfl ?_
  refine r_iconst C dX12_person_1 k_i0 ?_
  refine r_pi C wf_X12_109_11 dX12_person_2 (fun h1 => ?_)
  refine r_aload_n C dX12_person_5 0 rfl ?_
  refine r_iload_n C dX12_person_6 1 rfl ?_
  refine r_cvi (As := [.int i1]) (st := []) C wv_X12_278 (tcX12_isMan K.2.1 g hg o0 i1 h1) (Nat.le_of_ble_eq_true rfl) rfl rfl (Nat.le_of_ble_eq_true rfl) dX12_person_7 ⟨Nat.le_of_ble_eq_true rfl, Nat.le_of_ble_eq_true rfl⟩ (fun x2 h3 => ?_)
  refine r_if_eq (tgt := 23) C dX12_person_10 (by decide) ?_ ?_
  · refine r_perm (lv' := [(0, p_rf g o0)]) [0] rfl ?_
    exact tX12_person_J23 hg C o0 h3
  · refine r_iload_n C dX12_person_13 2 rfl ?_
    refine r_iconst C dX12_person_14 k_i0 ?_
    refine r_bipush C dX12_person_15 k_b6 ?_
    refine r_csi (As := [.int i2, .int (0 : Int32), .int (6 : Int32)]) (st := []) C ws_X12_119 (tcX12_in K.2.1 g hg i2 (0 : Int32) (6 : Int32) h3) (Nat.le_of_ble_eq_true rfl) rfl rfl (Nat.le_of_ble_eq_true rfl) dX12_person_17 ⟨Nat.le_of_ble_eq_true rfl, Nat.le_of_ble_eq_true rfl⟩ (fun x4 h5 => ?_)
    refine r_if_ne (tgt := 28) C dX12_person_20 (by decide) ?_ ?_
    · refine r_iload_n C dX12_person_28 2 rfl ?_
      refine r_if_ne (tgt := 41) C dX12_person_29 (by decide) ?_ ?_
      · refine r_iload_n C dX12_person_41 2 rfl ?_
        refine r_iconst C dX12_person_42 k_i5 ?_
        refine r_icmp_ne (tgt := 58) C dX12_person_43 (by decide) ?_ ?_
        · refine r_iload_n C dX12_person_58 2 rfl ?_
          refine r_bipush C dX12_person_59 k_b6 ?_
          refine r_icmp_ne (tgt := 76) C dX12_person_61 (by decide) ?_ ?_
          · refine r_aload_n C dX12_person_76 0 rfl ?_
            refine r_gr C wf_X12_9_11 dX12_person_77 (fun q6 => ?_)
            refine r_iload_n C dX12_person_80 1 rfl ?_
            refine r_iload_n C dX12_person_81 2 rfl ?_
            refine r_iconst C dX12_person_82 k_i1 ?_
            refine r_isub C dX12_person_83 ?_
            refine r_csi (As := [p_rf g q6, .int i1, .int (i2 - (1 : Int32))]) (st := []) C ws_X12_232 (tcX12_humour K.2.1 g hg q6 i1 (i2 - (1 : Int32)) h5) (Nat.le_of_ble_eq_true rfl) rfl rfl (Nat.le_of_ble_eq_true rfl) dX12_person_84 ⟨Nat.le_of_ble_eq_true rfl, Nat.le_of_ble_eq_true rfl⟩ (fun x7 h8 => ?_)
            exact r_iret C dX12_person_87
          · refine r_aload_n C dX12_person_64 0 rfl ?_
            refine r_aload_n C dX12_person_65 0 rfl ?_
            refine r_gr C wf_X12_9_11 dX12_person_66 (fun q9 => ?_)
            refine r_iload_n C dX12_person_69 1 rfl ?_
            refine r_cvi (As := [p_rf g q9, .int i1]) (st := []) C wv_X12_261 (tcX12_had K.2.1 g hg o0 q9 i1 h5) (Nat.le_of_ble_eq_true rfl) rfl rfl (Nat.le_of_ble_eq_true rfl) dX12_person_70 ⟨Nat.le_of_ble_eq_true rfl, Nat.le_of_ble_eq_true rfl⟩ (fun x10 h11 => ?_)
            refine r_goto (tgt := 87) C dX12_person_73 (by decide) ?_
            exact r_iret C dX12_person_87
        · refine r_aload_n C dX12_person_46 0 rfl ?_
          refine r_gr C wf_X12_9_11 dX12_person_47 (fun q12 => ?_)
          refine r_bipush C dX12_person_50 k_b32 ?_
          refine r_iload_n C dX12_person_52 1 rfl ?_
          refine r_iadd C dX12_person_53 ?_
          refine r_iald C dX12_person_54 (fun x13 => ?_)
          refine r_goto (tgt := 87) C dX12_person_55 (by decide) ?_
          exact r_iret C dX12_person_87
      · refine r_aload_n C dX12_person_32 0 rfl ?_
        refine r_gr C wf_X12_19_11 dX12_person_33 (fun q14 => ?_)
        refine r_iload_n C dX12_person_36 1 rfl ?_
        refine r_iald C dX12_person_37 (fun x15 => ?_)
        refine r_goto (tgt := 87) C dX12_person_38 (by decide) ?_
        exact r_iret C dX12_person_87
    · refine r_perm (lv' := [(0, p_rf g o0)]) [0] rfl ?_
      exact tX12_person_J23 hg C o0 h5
set_option maxRecDepth 100000 in
set_option maxHeartbeats 4000000 in
theorem tcX12_held (l : Launch) (g : WG) (hg : p_al g = false) (o0 : Nat) (i1 : Int32) (i2 : Int32) (h : PH) : CT l g 3 0 0 yX12_held cX12_held 3 (some .int) em_i [p_rf g o0, .int i1, .int i2] h (fX12_held o0 i1 i2 h) := by
  refine CT_of (own := RX12) (nm := "held") (by decide +kernel) (Nat.le_of_ble_eq_true rfl) rfl rfl rfl ⟨rfl, rfl⟩ (fun K hK C => ?_)
  subst hK
  unfold fX12_held
  show VX K g _ _ _ _ _ [(0, p_rf g o0), (1, .int i1), (2, .int i2)] _ _ _
  refine r_aload_n C dX12_held_0 0 rfl ?_
  refine r_iconst C dX12_held_1 k_i0 ?_
  refine r_pi C wf_X12_109_11 dX12_held_2 (fun h1 => ?_)
  refine r_aload_n C dX12_held_5 0 rfl ?_
  refine r_iload_n C dX12_held_6 1 rfl ?_
  refine r_cvi (As := [.int i1]) (st := []) C wv_X12_278 (tcX12_isMan K.2.1 g hg o0 i1 h1) (Nat.le_of_ble_eq_true rfl) rfl rfl (Nat.le_of_ble_eq_true rfl) dX12_held_7 ⟨Nat.le_of_ble_eq_true rfl, Nat.le_of_ble_eq_true rfl⟩ (fun x2 h3 => ?_)
  refine r_if_eq (tgt := 21) C dX12_held_10 (by decide) ?_ ?_
  · refine r_iconst C dX12_held_21 k_im1 ?_
    exact r_iret C dX12_held_22
  · refine r_aload_n C dX12_held_13 0 rfl ?_
    refine r_iload_n C dX12_held_14 2 rfl ?_
    refine r_cvi (As := [.int i2]) (st := []) C wv_X12_269 (tcX12_isGround K.2.1 g hg o0 i2 h3) (Nat.le_of_ble_eq_true rfl) rfl rfl (Nat.le_of_ble_eq_true rfl) dX12_held_15 ⟨Nat.le_of_ble_eq_true rfl, Nat.le_of_ble_eq_true rfl⟩ (fun x4 h5 => ?_)
    refine r_if_ne (tgt := 23) C dX12_held_18 (by decide) ?_ ?_
    · refine r_aload_n C dX12_held_23 0 rfl ?_
      refine r_gr C wf_X12_9_11 dX12_held_24 (fun q6 => ?_)
      refine r_bipush C dX12_held_27 k_b32 ?_
      refine r_iload_n C dX12_held_29 1 rfl ?_
      refine r_iadd C dX12_held_30 ?_
      refine r_iald C dX12_held_31 (fun x7 => ?_)
      refine r_iload_n C dX12_held_32 2 rfl ?_
      refine r_csi (As := [.int x7, .int i2]) (st := []) C ws_X12_265 (tcX12_has K.2.1 g hg x7 i2 h5) (Nat.le_of_ble_eq_true rfl) rfl rfl (Nat.le_of_ble_eq_true rfl) dX12_held_33 ⟨Nat.le_of_ble_eq_true rfl, Nat.le_of_ble_eq_true rfl⟩ (fun x8 h9 => ?_)
      refine r_if_eq (tgt := 56) C dX12_held_36 (by decide) ?_ ?_
      · refine r_bipush C dX12_held_56 k_bm2 ?_
        exact r_iret C dX12_held_58
      · refine r_aload_n C dX12_held_39 0 rfl ?_
        refine r_gr C wf_X12_9_11 dX12_held_40 (fun q10 => ?_)
        refine r_bipush C dX12_held_43 k_b38 ?_
        refine r_bipush C dX12_held_45 k_b8 ?_
        refine r_iload_n C dX12_held_47 1 rfl ?_
        refine r_imul C dX12_held_48 ?_
        refine r_iadd C dX12_held_49 ?_
        refine r_iload_n C dX12_held_50 2 rfl ?_
        refine r_iadd C dX12_held_51 ?_
        refine r_iald C dX12_held_52 (fun x11 => ?_)
        refine r_goto (tgt := 58) C dX12_held_53 (by decide) ?_
        exact r_iret C dX12_held_58
    · refine r_iconst C dX12_held_21 k_im1 ?_
      exact r_iret C dX12_held_22
set_option maxRecDepth 100000 in
set_option maxHeartbeats 4000000 in
theorem tX12_stock_L4 {K : AC} {g : WG} (hg : p_al g = false)  (C : Cx K g cX12_stock 3 RX12 (some .int) "stock" 1 0 0) (o0 : Nat) {kx : Int32 → PH → Option (Int32 × PH)} (hk : ∀ (i1 : Int32) (h : PH), VX K g 3 0 0 (a_fin K g 0 0 em_i) 27 [(1, .int i1)] [] h (kx i1 h)) : ∀ (n : Nat) (i1 : Int32) (i2 : Int32) (h : PH), VX K g 3 0 0 (a_fin K g 0 0 em_i) 4 [(0, p_rf g o0), (1, .int i1), (2, .int i2)] [] h (fX12_stock_L4 o0 kx n i1 i2 h) := by
  intro n
  induction n with
  | zero =>
    intros
    exact r_none
  | succ n ih =>
    intro i1 i2 h
    rw [fX12_stock_L4]
    refine r_iload_n C dX12_stock_4 2 rfl ?_
    refine r_aload_n C dX12_stock_5 0 rfl ?_
    refine r_gi C wf_X12_116_11 dX12_stock_6 (fun x1 => ?_)
    refine r_icmp_ge (tgt := 27) C dX12_stock_9 (by decide) ?_ ?_
    · refine r_perm (lv' := [(1, .int i1)]) [1] rfl ?_
      exact hk i1 h
    · refine r_iload_n C dX12_stock_12 1 rfl ?_
      refine r_aload_n C dX12_stock_13 0 rfl ?_
      refine r_gr C wf_X12_9_11 dX12_stock_14 (fun q2 => ?_)
      refine r_iload_n C dX12_stock_17 2 rfl ?_
      refine r_iald C dX12_stock_18 (fun x3 => ?_)
      refine r_iadd C dX12_stock_19 ?_
      refine r_topi (fun x4 => ?_)
      refine r_istore_n (lv9 := [(1, .int x4), (0, p_rf g o0), (2, .int i2)]) C dX12_stock_20 (by decide) rfl ?_
      refine r_iinc (lv' := [(1, .int x4), (0, p_rf g o0)]) C dX12_stock_21 2 rfl k_i1 (by decide) (fun _ => rfl) (fun x5 => ?_)
      refine r_goto (tgt := 4) C dX12_stock_24 (by decide) ?_
      refine r_perm (lv' := [(0, p_rf g o0), (1, .int x4), (2, .int x5)]) [2, 1, 0] rfl ?_
      exact ih x4 x5 h
set_option maxRecDepth 100000 in
set_option maxHeartbeats 4000000 in
theorem tcX12_stock (l : Launch) (g : WG) (hg : p_al g = false) (o0 : Nat) (h : PH) : CT l g 1 0 0 yX12_stock cX12_stock 3 (some .int) em_i [p_rf g o0] h (fX12_stock o0 h) := by
  refine CT_of (own := RX12) (nm := "stock") (by decide +kernel) (Nat.le_of_ble_eq_true rfl) rfl rfl rfl ⟨rfl, rfl⟩ (fun K hK C => ?_)
  subst hK
  unfold fX12_stock
  show VX K g _ _ _ _ _ [(0, p_rf g o0)] _ _ _
  refine r_iconst C dX12_stock_0 k_i0 ?_
  refine r_istore_n (lv9 := [(1, .int (0 : Int32)), (0, p_rf g o0)]) C dX12_stock_1 (by decide) rfl ?_
  refine r_iconst C dX12_stock_2 k_i0 ?_
  refine r_istore_n (lv9 := [(2, .int (0 : Int32)), (1, .int (0 : Int32)), (0, p_rf g o0)]) C dX12_stock_3 (by decide) rfl ?_
  refine r_perm (lv' := [(0, p_rf g o0), (1, .int (0 : Int32)), (2, .int (0 : Int32))]) [2, 1, 0] rfl ?_
  refine tX12_stock_L4 hg C o0 (fun x1 h2 => ?_) FU (0 : Int32) (0 : Int32) h
  refine r_iload_n C dX12_stock_27 0 rfl ?_
  exact r_iret C dX12_stock_28
set_option maxRecDepth 100000 in
set_option maxHeartbeats 4000000 in
theorem tX12_sheet_J106_40 {K : AC} {g : WG} (hg : p_al g = false)  (C : Cx K g cX12_sheet 8 RX12 (some .int) "sheet" 2 0 0) (o0 : Nat) (i1 : Int32) (i2 : Int32) (i4 : Int32) (i5 : Int32) (i6 : Int32) (s0 : Int32) (s1 : Int32) (s2 : Nat)    {rc : Int32 → Int32 → PH → Option (Int32 × PH)} {kx : PH → Option (Int32 × PH)} (hr : ∀ (i5' : Int32) (i6' : Int32) (h : PH), VX K g 8 0 0 (a_fin K g 0 0 em_i) 40 [(0, p_rf g o0), (1, .int i1), (2, .int i2), (4, .int i4), (5, .int i5'), (6, .int i6')] [] h (rc i5' i6' h)) (hk : ∀  (h : PH), VX K g 8 0 0 (a_fin K g 0 0 em_i) 120 [(0, p_rf g o0), (1, .int i1)] [] h (kx  h)) (h : PH) : VX K g 8 0 0 (a_fin K g 0 0 em_i) 106 [(0, p_rf g o0), (1, .int i1), (2, .int i2), (4, .int i4), (5, .int i5), (6, .int i6)] [.int s0, .int s1, p_rf g s2] h (fX12_sheet_J106_40 rc kx o0 i1 i2 i4 i5 i6 s0 s1 s2 h) := by
  unfold fX12_sheet_J106_40
  refine r_iast C dX12_sheet_106 (fun h1 => ?_)
  refine r_iload C dX12_sheet_107 4 rfl ?_
  refine r_iload C dX12_sheet_109 3 rfl ?_
  refine r_iadd C dX12_sheet_111 ?_
  refine r_topi (fun x2 => ?_)
  refine r_istore (lv9 := [(5, .int x2), (0, p_rf g o0), (1, .int i1), (2, .int i2), (4, .int i4), (6, .int i6)]) C dX12_sheet_112 (by decide) rfl ?_
  refine r_iinc (lv' := [(5, .int x2), (0, p_rf g o0), (1, .int i1), (2, .int i2), (4, .int i4)]) C dX12_sheet_114 5 rfl k_i1 (by decide) (fun _ => rfl) (fun x3 => ?_)
  refine r_goto (tgt := 40) C dX12_sheet_117 (by decide) ?_
  refine r_perm (lv' := [(0, p_rf g o0), (1, .int i1), (2, .int i2), (4, .int i4), (5, .int x2), (6, .int x3)]) [2, 3, 4, 5, 1, 0] rfl ?_
  exact hr x2 x3 h1
set_option maxRecDepth 100000 in
set_option maxHeartbeats 4000000 in
theorem tX12_sheet_J91_40 {K : AC} {g : WG} (hg : p_al g = false)  (C : Cx K g cX12_sheet 8 RX12 (some .int) "sheet" 2 0 0) (o0 : Nat) (i1 : Int32) (i2 : Int32) (i4 : Int32) (i5 : Int32) (i6 : Int32) (s0 : Int32) (s1 : Nat)    {rc : Int32 → Int32 → PH → Option (Int32 × PH)} {kx : PH → Option (Int32 × PH)} (hr : ∀ (i5' : Int32) (i6' : Int32) (h : PH), VX K g 8 0 0 (a_fin K g 0 0 em_i) 40 [(0, p_rf g o0), (1, .int i1), (2, .int i2), (4, .int i4), (5, .int i5'), (6, .int i6')] [] h (rc i5' i6' h)) (hk : ∀  (h : PH), VX K g 8 0 0 (a_fin K g 0 0 em_i) 120 [(0, p_rf g o0), (1, .int i1)] [] h (kx  h)) (h : PH) : VX K g 8 0 0 (a_fin K g 0 0 em_i) 91 [(0, p_rf g o0), (1, .int i1), (2, .int i2), (4, .int i4), (5, .int i5), (6, .int i6)] [.int s0, p_rf g s1] h (fX12_sheet_J91_40 rc kx o0 i1 i2 i4 i5 i6 s0 s1 h) := by
  unfold fX12_sheet_J91_40
  refine r_iconst C dX12_sheet_91 k_i0 ?_
  refine r_goto (tgt := 106) C dX12_sheet_92 (by decide) ?_
  exact tX12_sheet_J106_40 hg C o0 i1 i2 i4 i5 i6 (0 : Int32) s0 s1 hr hk h
set_option maxRecDepth 100000 in
set_option maxHeartbeats 4000000 in
theorem tX12_sheet_J72_40 {K : AC} {g : WG} (hg : p_al g = false)  (C : Cx K g cX12_sheet 8 RX12 (some .int) "sheet" 2 0 0) (o0 : Nat) (i1 : Int32) (i2 : Int32) (i4 : Int32) (i5 : Int32) (i6 : Int32) (s0 : Int32)    {rc : Int32 → Int32 → PH → Option (Int32 × PH)} {kx : PH → Option (Int32 × PH)} (hr : ∀ (i5' : Int32) (i6' : Int32) (h : PH), VX K g 8 0 0 (a_fin K g 0 0 em_i) 40 [(0, p_rf g o0), (1, .int i1), (2, .int i2), (4, .int i4), (5, .int i5'), (6, .int i6')] [] h (rc i5' i6' h)) (hk : ∀  (h : PH), VX K g 8 0 0 (a_fin K g 0 0 em_i) 120 [(0, p_rf g o0), (1, .int i1)] [] h (kx  h)) (h : PH) : VX K g 8 0 0 (a_fin K g 0 0 em_i) 72 [(0, p_rf g o0), (1, .int i1), (2, .int i2), (4, .int i4), (5, .int i5), (6, .int i6)] [.int s0] h (fX12_sheet_J72_40 rc kx o0 i1 i2 i4 i5 i6 s0 h) := by
  unfold fX12_sheet_J72_40
  refine r_istore (lv9 := [(7, .int s0), (0, p_rf g o0), (1, .int i1), (2, .int i2), (4, .int i4), (5, .int i5), (6, .int i6)]) C dX12_sheet_72 (by decide) rfl ?_
  refine r_aload_n C dX12_sheet_74 1 rfl ?_
  refine r_gr C wf_X12_9_11 dX12_sheet_75 (fun q1 => ?_)
  refine r_iload C dX12_sheet_78 6 rfl ?_
  refine r_iload_n C dX12_sheet_80 2 rfl ?_
  refine r_iconst C dX12_sheet_81 k_i3 ?_
  refine r_icmp_eq (tgt := 91) C dX12_sheet_82 (by decide) ?_ ?_
  · refine r_perm (lv' := [(0, p_rf g o0), (1, .int i1), (2, .int i2), (4, .int i4), (5, .int i5), (6, .int i6)]) [1, 2, 3, 4, 5, 6] rfl ?_
    exact tX12_sheet_J91_40 hg C o0 i1 i2 i4 i5 i6 i6 q1 hr hk h
  · refine r_iload C dX12_sheet_85 6 rfl ?_
    refine r_iload_n C dX12_sheet_87 3 rfl ?_
    refine r_icmp_lt (tgt := 95) C dX12_sheet_88 (by decide) ?_ ?_
    · refine r_iconst C dX12_sheet_95 k_i0 ?_
      refine r_bipush C dX12_sheet_96 k_b99 ?_
      refine r_iload C dX12_sheet_98 0 rfl ?_
      refine r_min C wm_X12_245 (Nat.le_of_ble_eq_true rfl) (Nat.le_of_ble_eq_true rfl) ⟨Nat.le_of_ble_eq_true rfl, Nat.le_of_ble_eq_true rfl⟩ dX12_sheet_100 ?_
      refine r_topi (fun x2 => ?_)
      refine r_max C wm_X12_250 (Nat.le_of_ble_eq_true rfl) (Nat.le_of_ble_eq_true rfl) ⟨Nat.le_of_ble_eq_true rfl, Nat.le_of_ble_eq_true rfl⟩ dX12_sheet_103 ?_
      refine r_perm (lv' := [(0, p_rf g o0), (1, .int i1), (2, .int i2), (4, .int i4), (5, .int i5), (6, .int i6)]) [1, 2, 3, 4, 5, 6] rfl ?_
      exact tX12_sheet_J106_40 hg C o0 i1 i2 i4 i5 i6 (if (0 : Int32) < x2 then x2 else (0 : Int32)) i6 q1 hr hk h
    · refine r_perm (lv' := [(0, p_rf g o0), (1, .int i1), (2, .int i2), (4, .int i4), (5, .int i5), (6, .int i6)]) [1, 2, 3, 4, 5, 6] rfl ?_
      exact tX12_sheet_J91_40 hg C o0 i1 i2 i4 i5 i6 i6 q1 hr hk h
set_option maxRecDepth 100000 in
set_option maxHeartbeats 4000000 in
theorem tX12_sheet_L40 {K : AC} {g : WG} (hg : p_al g = false)  (C : Cx K g cX12_sheet 8 RX12 (some .int) "sheet" 2 0 0) (o0 : Nat) (i1 : Int32) (i2 : Int32) (i4 : Int32) {kx : PH → Option (Int32 × PH)} (hk : ∀  (h : PH), VX K g 8 0 0 (a_fin K g 0 0 em_i) 120 [(0, p_rf g o0), (1, .int i1)] [] h (kx h)) : ∀ (n : Nat) (i5 : Int32) (i6 : Int32) (h : PH), VX K g 8 0 0 (a_fin K g 0 0 em_i) 40 [(0, p_rf g o0), (1, .int i1), (2, .int i2), (4, .int i4), (5, .int i5), (6, .int i6)] [] h (fX12_sheet_L40 o0 i1 i2 i4 kx n i5 i6 h) := by
  intro n
  induction n with
  | zero =>
    intros
    exact r_none
  | succ n ih =>
    intro i5 i6 h
    rw [fX12_sheet_L40]
    refine r_iload C dX12_sheet_40 5 rfl ?_
    refine r_aload_n C dX12_sheet_42 0 rfl ?_
    refine r_gi C wf_X12_116_11 dX12_sheet_43 (fun x1 => ?_)
    refine r_icmp_ge (tgt := 120) C dX12_sheet_46 (by decide) ?_ ?_
    · refine r_perm (lv' := [(0, p_rf g o0), (1, .int i1)]) [0, 1] rfl ?_
      exact hk h
    · refine r_iload_n C dX12_sheet_49 1 rfl ?_
      refine r_if_ne (tgt := 59) C dX12_sheet_50 (by decide) ?_ ?_
      · refine r_iload_n C dX12_sheet_59 1 rfl ?_
        refine r_iconst C dX12_sheet_60 k_i1 ?_
        refine r_icmp_ne (tgt := 70) C dX12_sheet_61 (by decide) ?_ ?_
        · refine r_iload C dX12_sheet_70 4 rfl ?_
          exact tX12_sheet_J72_40 hg C o0 i1 i2 i4 i5 i6 i5 ih hk h
        · refine r_iload C dX12_sheet_64 4 rfl ?_
          refine r_i2s C dX12_sheet_66 ?_
          refine r_goto (tgt := 72) C dX12_sheet_67 (by decide) ?_
          exact tX12_sheet_J72_40 hg C o0 i1 i2 i4 i5 i6 (i5.toInt16.toInt32) ih hk h
      · refine r_iload C dX12_sheet_53 4 rfl ?_
        refine r_i2b C dX12_sheet_55 ?_
        refine r_goto (tgt := 72) C dX12_sheet_56 (by decide) ?_
        exact tX12_sheet_J72_40 hg C o0 i1 i2 i4 i5 i6 (i5.toInt8.toInt32) ih hk h
set_option maxRecDepth 100000 in
set_option maxHeartbeats 4000000 in
theorem tX12_sheet_J34 {K : AC} {g : WG} (hg : p_al g = false)  (C : Cx K g cX12_sheet 8 RX12 (some .int) "sheet" 2 0 0) (o0 : Nat) (i1 : Int32) (i2 : Int32) (i3 : Int32) (i4 : Int32)  (h : PH) : VX K g 8 0 0 (a_fin K g 0 0 em_i) 34 [(0, p_rf g o0), (1, .int i1), (2, .int i2), (3, .int i3), (4, .int i4)] [] h (fX12_sheet_J34 o0 i1 i2 i3 i4 h) := by
  unfold fX12_sheet_J34
  refine r_iload_n C dX12_sheet_34 3 rfl ?_
  refine r_istore (lv9 := [(5, .int i3), (0, p_rf g o0), (1, .int i1), (2, .int i2), (3, .int i3), (4, .int i4)]) C dX12_sheet_35 (by decide) rfl ?_
  refine r_iconst C dX12_sheet_37 k_i0 ?_
  refine r_istore (lv9 := [(6, .int (0 : Int32)), (5, .int i3), (0, p_rf g o0), (1, .int i1), (2, .int i2), (3, .int i3), (4, .int i4)]) C dX12_sheet_38 (by decide) rfl ?_
  refine r_perm (lv' := [(0, p_rf g o0), (1, .int i1), (2, .int i2), (4, .int i4), (5, .int i3), (6, .int (0 : Int32))]) [2, 3, 4, 6, 1, 0] rfl ?_
  refine tX12_sheet_L40 hg C o0 i1 i2 i4 (fun h1 => ?_) FU i3 (0 : Int32) h
  refine r_iload_n C dX12_sheet_120 1 rfl ?_
  refine r_iconst C dX12_sheet_121 k_i3 ?_
  refine r_icmp_ne (tgt := 130) C dX12_sheet_122 (by decide) ?_ ?_
  · refine r_aload_n C dX12_sheet_130 0 rfl ?_
    refine r_cvi (As := []) (st := []) C wv_X12_281 (tcX12_stock K.2.1 g hg o0 h1) (Nat.le_of_ble_eq_true rfl) rfl rfl (Nat.le_of_ble_eq_true rfl) dX12_sheet_131 ⟨Nat.le_of_ble_eq_true rfl, Nat.le_of_ble_eq_true rfl⟩ (fun x2 h3 => ?_)
    exact r_iret C dX12_sheet_134
  · refine r_bipush C dX12_sheet_125 k_bm3 ?_
    refine r_goto (tgt := 134) C dX12_sheet_127 (by decide) ?_
    exact r_iret C dX12_sheet_134
set_option maxRecDepth 100000 in
set_option maxHeartbeats 4000000 in
theorem tcX12_sheet (l : Launch) (g : WG) (hg : p_al g = false) (o0 : Nat) (i1 : Int32) (i2 : Int32) (i3 : Int32) (i4 : Int32) (h : PH) : CT l g 2 0 0 yX12_sheet cX12_sheet 8 (some .int) em_i [p_rf g o0, .int i1, .int i2, .int i3, .int i4] h (fX12_sheet o0 i1 i2 i3 i4 h) := by
  refine CT_of (own := RX12) (nm := "sheet") (by decide +kernel) (Nat.le_of_ble_eq_true rfl) rfl rfl rfl ⟨rfl, rfl⟩ (fun K hK C => ?_)
  subst hK
  unfold fX12_sheet
  show VX K g _ _ _ _ _ [(0, p_rf g o0), (1, .int i1), (2, .int i2), (3, .int i3), (4, .int i4)] _ _ _
  refine r_aload_n C dX12_sheet_0 0 rfl ?_
  refine r_iconst C dX12_sheet_1 k_i0 ?_
  refine r_pi C wf_X12_109_11 dX12_sheet_2 (fun h1 => ?_)
  refine r_iload_n C dX12_sheet_5 1 rfl ?_
  refine r_iconst C dX12_sheet_6 k_i0 ?_
  refine r_iconst C dX12_sheet_7 k_i3 ?_
  refine r_csi (As := [.int i1, .int (0 : Int32), .int (3 : Int32)]) (st := []) C ws_X12_119 (tcX12_in K.2.1 g hg i1 (0 : Int32) (3 : Int32) h1) (Nat.le_of_ble_eq_true rfl) rfl rfl (Nat.le_of_ble_eq_true rfl) dX12_sheet_8 ⟨Nat.le_of_ble_eq_true rfl, Nat.le_of_ble_eq_true rfl⟩ (fun x2 h3 => ?_)
  refine r_if_eq (tgt := 20) C dX12_sheet_11 (by decide) ?_ ?_
  · refine r_iconst C dX12_sheet_20 k_im1 ?_
    exact r_iret C dX12_sheet_21
  · refine r_iload_n C dX12_sheet_14 2 rfl ?_
    refine r_bipush C dX12_sheet_15 k_b8 ?_
    refine r_icmp_le (tgt := 22) C dX12_sheet_17 (by decide) ?_ ?_
    · refine r_iload_n C dX12_sheet_22 1 rfl ?_
      refine r_iconst C dX12_sheet_23 k_i3 ?_
      refine r_icmp_ge (tgt := 34) C dX12_sheet_24 (by decide) ?_ ?_
      · exact tX12_sheet_J34 hg C o0 i1 i2 i3 i4 h3
      · refine r_iload_n C dX12_sheet_27 2 rfl ?_
        refine r_if_ge (tgt := 34) C dX12_sheet_28 (by decide) ?_ ?_
        · exact tX12_sheet_J34 hg C o0 i1 i2 i3 i4 h3
        · refine r_bipush C dX12_sheet_31 k_bm2 ?_
          exact r_iret C dX12_sheet_33
    · refine r_iconst C dX12_sheet_20 k_im1 ?_
      exact r_iret C dX12_sheet_21
set_option maxRecDepth 100000 in
set_option maxHeartbeats 4000000 in
theorem tX12_lay_L2 {K : AC} {g : WG} (hg : p_al g = false)  (C : Cx K g cX12_lay 4 RX12 none "lay" 1 0 0) (o0 : Nat) (o1 : Nat) (i2 : Int32) {kx : PH → Option (Unit × PH)} (hk : ∀  (h : PH), VX K g 4 0 0 (a_fin K g 0 0 em_v) 22 [] [] h (kx h)) : ∀ (n : Nat) (i3 : Int32) (h : PH), VX K g 4 0 0 (a_fin K g 0 0 em_v) 2 [(0, p_rf g o0), (1, p_rf g o1), (2, .int i2), (3, .int i3)] [] h (fX12_lay_L2 o0 o1 i2 kx n i3 h) := by
  intro n
  induction n with
  | zero =>
    intros
    exact r_none
  | succ n ih =>
    intro i3 h
    rw [fX12_lay_L2]
    refine r_iload_n C dX12_lay_2 3 rfl ?_
    refine r_bipush C dX12_lay_3 k_b88 ?_
    refine r_icmp_ge (tgt := 22) C dX12_lay_5 (by decide) ?_ ?_
    · refine r_perm (lv' := []) [] rfl ?_
      exact hk h
    · refine r_aload_n C dX12_lay_8 1 rfl ?_
      refine r_iload_n C dX12_lay_9 2 rfl ?_
      refine r_iload_n C dX12_lay_10 3 rfl ?_
      refine r_iadd C dX12_lay_11 ?_
      refine r_aload_n C dX12_lay_12 0 rfl ?_
      refine r_iload_n C dX12_lay_13 3 rfl ?_
      refine r_iald C dX12_lay_14 (fun x1 => ?_)
      refine r_iast C dX12_lay_15 (fun h2 => ?_)
      refine r_iinc (lv' := [(0, p_rf g o0), (1, p_rf g o1), (2, .int i2)]) C dX12_lay_16 3 rfl k_i1 (by decide) (fun _ => rfl) (fun x3 => ?_)
      refine r_goto (tgt := 2) C dX12_lay_19 (by decide) ?_
      refine r_perm (lv' := [(0, p_rf g o0), (1, p_rf g o1), (2, .int i2), (3, .int x3)]) [1, 2, 3, 0] rfl ?_
      exact ih x3 h2
set_option maxRecDepth 100000 in
set_option maxHeartbeats 4000000 in
theorem tcX12_lay (l : Launch) (g : WG) (hg : p_al g = false) (o0 : Nat) (o1 : Nat) (i2 : Int32) (h : PH) : CT l g 1 0 0 yX12_lay cX12_lay 4 none em_v [p_rf g o0, p_rf g o1, .int i2] h (fX12_lay o0 o1 i2 h) := by
  refine CT_of (own := RX12) (nm := "lay") (by decide +kernel) (Nat.le_of_ble_eq_true rfl) rfl rfl rfl ⟨rfl, rfl⟩ (fun K hK C => ?_)
  subst hK
  unfold fX12_lay
  show VX K g _ _ _ _ _ [(0, p_rf g o0), (1, p_rf g o1), (2, .int i2)] _ _ _
  refine r_iconst C dX12_lay_0 k_i0 ?_
  refine r_istore_n (lv9 := [(3, .int (0 : Int32)), (0, p_rf g o0), (1, p_rf g o1), (2, .int i2)]) C dX12_lay_1 (by decide) rfl ?_
  refine r_perm (lv' := [(0, p_rf g o0), (1, p_rf g o1), (2, .int i2), (3, .int (0 : Int32))]) [1, 2, 3, 0] rfl ?_
  refine tX12_lay_L2 hg C o0 o1 i2 (fun h1 => ?_) FU (0 : Int32) h
  exact r_vret C dX12_lay_22
set_option maxRecDepth 100000 in
set_option maxHeartbeats 4000000 in
theorem tX12_remember_J49 {K : AC} {g : WG} (hg : p_al g = false)  (C : Cx K g cX12_remember 3 RX12 none "remember" 2 0 0) (o0 : Nat) (o1 : Nat)  (h : PH) : VX K g 3 0 0 (a_fin K g 0 0 em_v) 49 [(0, p_rf g o0), (1, p_rf g o1)] [] h (fX12_remember_J49 o0 o1 h) := by
  unfold fX12_remember_J49
  refine r_aload_n C dX12_remember_49 1 rfl ?_
  refine r_aload_n C dX12_remember_50 0 rfl ?_
  refine r_gr C wf_X12_51_11 dX12_remember_51 (fun q1 => ?_)
  refine r_bipush C dX12_remember_54 k_b88 ?_
  refine r_aload_n C dX12_remember_56 0 rfl ?_
  refine r_gi C wf_X12_171_11 dX12_remember_57 (fun x2 => ?_)
  refine r_imul C dX12_remember_60 ?_
  refine r_csv (As := [p_rf g o1, p_rf g q1, .int ((88 : Int32) * x2)]) (st := []) C ws_X12_284 (tcX12_lay K.2.1 g hg o1 q1 ((88 : Int32) * x2) h) (Nat.le_of_ble_eq_true rfl) rfl rfl (Nat.le_of_ble_eq_true rfl) dX12_remember_61 ⟨Nat.le_of_ble_eq_true rfl, Nat.le_of_ble_eq_true rfl⟩ (fun h3 => ?_)
  refine r_aload_n C dX12_remember_64 0 rfl ?_
  refine r_dup C dX12_remember_65 rfl ?_
  refine r_gi C wf_X12_171_11 dX12_remember_66 (fun x4 => ?_)
  refine r_iconst C dX12_remember_69 k_i1 ?_
  refine r_iadd C dX12_remember_70 ?_
  refine r_pi C wf_X12_171_11 dX12_remember_71 (fun h5 => ?_)
  exact r_vret C dX12_remember_74
set_option maxRecDepth 100000 in
set_option maxHeartbeats 4000000 in
theorem tX12_remember_L11 {K : AC} {g : WG} (hg : p_al g = false)  (C : Cx K g cX12_remember 3 RX12 none "remember" 2 0 0) (o0 : Nat) (o1 : Nat) {kx : PH → Option (Unit × PH)} (hk : ∀  (h : PH), VX K g 3 0 0 (a_fin K g 0 0 em_v) 39 [(0, p_rf g o0), (1, p_rf g o1)] [] h (kx h)) : ∀ (n : Nat) (i2 : Int32) (h : PH), VX K g 3 0 0 (a_fin K g 0 0 em_v) 11 [(0, p_rf g o0), (1, p_rf g o1), (2, .int i2)] [] h (fX12_remember_L11 o0 o1 kx n i2 h) := by
  intro n
  induction n with
  | zero =>
    intros
    exact r_none
  | succ n ih =>
    intro i2 h
    rw [fX12_remember_L11]
    refine r_iload_n C dX12_remember_11 2 rfl ?_
    refine r_sipush C dX12_remember_12 k_s968 ?_
    refine r_icmp_ge (tgt := 39) C dX12_remember_15 (by decide) ?_ ?_
    · refine r_perm (lv' := [(0, p_rf g o0), (1, p_rf g o1)]) [0, 1] rfl ?_
      exact hk h
    · refine r_aload_n C dX12_remember_18 0 rfl ?_
      refine r_gr C wf_X12_51_11 dX12_remember_19 (fun q1 => ?_)
      refine r_iload_n C dX12_remember_22 2 rfl ?_
      refine r_aload_n C dX12_remember_23 0 rfl ?_
      refine r_gr C wf_X12_51_11 dX12_remember_24 (fun q2 => ?_)
      refine r_iload_n C dX12_remember_27 2 rfl ?_
      refine r_bipush C dX12_remember_28 k_b88 ?_
      refine r_iadd C dX12_remember_30 ?_
      refine r_iald C dX12_remember_31 (fun x3 => ?_)
      refine r_iast C dX12_remember_32 (fun h4 => ?_)
      refine r_iinc (lv' := [(0, p_rf g o0), (1, p_rf g o1)]) C dX12_remember_33 2 rfl k_i1 (by decide) (fun _ => rfl) (fun x5 => ?_)
      refine r_goto (tgt := 11) C dX12_remember_36 (by decide) ?_
      refine r_perm (lv' := [(0, p_rf g o0), (1, p_rf g o1), (2, .int x5)]) [1, 2, 0] rfl ?_
      exact ih x5 h4
set_option maxRecDepth 100000 in
set_option maxHeartbeats 4000000 in
theorem tcX12_remember (l : Launch) (g : WG) (hg : p_al g = false) (o0 : Nat) (o1 : Nat) (h : PH) : CT l g 2 0 0 yX12_remember cX12_remember 3 none em_v [p_rf g o0, p_rf g o1] h (fX12_remember o0 o1 h) := by
  refine CT_of (own := RX12) (nm := "remember") (by decide +kernel) (Nat.le_of_ble_eq_true rfl) rfl rfl rfl ⟨rfl, rfl⟩ (fun K hK C => ?_)
  subst hK
  unfold fX12_remember
  show VX K g _ _ _ _ _ [(0, p_rf g o0), (1, p_rf g o1)] _ _ _
  refine r_aload_n C dX12_remember_0 0 rfl ?_
  refine r_gi C wf_X12_171_11 dX12_remember_1 (fun x1 => ?_)
  refine r_bipush C dX12_remember_4 k_b12 ?_
  refine r_icmp_ne (tgt := 49) C dX12_remember_6 (by decide) ?_ ?_
  · exact tX12_remember_J49 hg C o0 o1 h
  · refine r_iconst C dX12_remember_9 k_i0 ?_
    refine r_istore_n (lv9 := [(2, .int (0 : Int32)), (0, p_rf g o0), (1, p_rf g o1)]) C dX12_remember_10 (by decide) rfl ?_
    refine r_perm (lv' := [(0, p_rf g o0), (1, p_rf g o1), (2, .int (0 : Int32))]) [1, 2, 0] rfl ?_
    refine tX12_remember_L11 hg C o0 o1 (fun h2 => ?_) FU (0 : Int32) h
    refine r_aload_n C dX12_remember_39 0 rfl ?_
    refine r_dup C dX12_remember_40 rfl ?_
    refine r_gi C wf_X12_171_11 dX12_remember_41 (fun x3 => ?_)
    refine r_iconst C dX12_remember_44 k_i1 ?_
    refine r_isub C dX12_remember_45 ?_
    refine r_pi C wf_X12_171_11 dX12_remember_46 (fun h4 => ?_)
    exact tX12_remember_J49 hg C o0 o1 h4
set_option maxRecDepth 100000 in
set_option maxHeartbeats 4000000 in
theorem tcX12_refusesGift (l : Launch) (g : WG) (hg : p_al g = false) (o0 : Nat) (o1 : Nat) (i2 : Int32) (i3 : Int32) (h : PH) : CT l g 3 0 0 yX12_refusesGift cX12_refusesGift 4 (some .int) em_i [p_rf g o0, p_rf g o1, .int i2, .int i3] h (fX12_refusesGift o0 o1 i2 i3 h) := by
  refine CT_of (own := RX12) (nm := "refusesGift") (by decide +kernel) (Nat.le_of_ble_eq_true rfl) rfl rfl rfl ⟨rfl, rfl⟩ (fun K hK C => ?_)
  subst hK
  unfold fX12_refusesGift
  show VX K g _ _ _ _ _ [(0, p_rf g o0), (1, p_rf g o1), (2, .int i2), (3, .int i3)] _ _ _
  refine r_aload_n C dX12_refusesGift_0 0 rfl ?_
  refine r_iload_n C dX12_refusesGift_1 2 rfl ?_
  refine r_cvi (As := [.int i2]) (st := []) C wv_X12_278 (tcX12_isMan K.2.1 g hg o0 i2 h) (Nat.le_of_ble_eq_true rfl) rfl rfl (Nat.le_of_ble_eq_true rfl) dX12_refusesGift_2 ⟨Nat.le_of_ble_eq_true rfl, Nat.le_of_ble_eq_true rfl⟩ (fun x1 h2 => ?_)
  refine r_if_eq (tgt := 16) C dX12_refusesGift_5 (by decide) ?_ ?_
  · refine r_iconst C dX12_refusesGift_16 k_im1 ?_
    exact r_iret C dX12_refusesGift_17
  · refine r_aload_n C dX12_refusesGift_8 0 rfl ?_
    refine r_iload_n C dX12_refusesGift_9 3 rfl ?_
    refine r_cvi (As := [.int i3]) (st := []) C wv_X12_269 (tcX12_isGround K.2.1 g hg o0 i3 h2) (Nat.le_of_ble_eq_true rfl) rfl rfl (Nat.le_of_ble_eq_true rfl) dX12_refusesGift_10 ⟨Nat.le_of_ble_eq_true rfl, Nat.le_of_ble_eq_true rfl⟩ (fun x3 h4 => ?_)
    refine r_if_ne (tgt := 18) C dX12_refusesGift_13 (by decide) ?_ ?_
    · refine r_aload_n C dX12_refusesGift_18 1 rfl ?_
      refine r_bipush C dX12_refusesGift_19 k_b32 ?_
      refine r_iload_n C dX12_refusesGift_21 2 rfl ?_
      refine r_iadd C dX12_refusesGift_22 ?_
      refine r_iald C dX12_refusesGift_23 (fun x5 => ?_)
      refine r_iload_n C dX12_refusesGift_24 3 rfl ?_
      refine r_csi (As := [.int x5, .int i3]) (st := []) C ws_X12_265 (tcX12_has K.2.1 g hg x5 i3 h4) (Nat.le_of_ble_eq_true rfl) rfl rfl (Nat.le_of_ble_eq_true rfl) dX12_refusesGift_25 ⟨Nat.le_of_ble_eq_true rfl, Nat.le_of_ble_eq_true rfl⟩ (fun x6 h7 => ?_)
      refine r_if_eq (tgt := 36) C dX12_refusesGift_28 (by decide) ?_ ?_
      · refine r_aload_n C dX12_refusesGift_36 1 rfl ?_
        refine r_iload_n C dX12_refusesGift_37 3 rfl ?_
        refine r_iald C dX12_refusesGift_38 (fun x8 => ?_)
        refine r_if_ne (tgt := 47) C dX12_refusesGift_39 (by decide) ?_ ?_
        · refine r_iconst C dX12_refusesGift_47 k_i0 ?_
          exact r_iret C dX12_refusesGift_48
        · refine r_bipush C dX12_refusesGift_42 k_bm3 ?_
          refine r_goto (tgt := 48) C dX12_refusesGift_44 (by decide) ?_
          exact r_iret C dX12_refusesGift_48
      · refine r_bipush C dX12_refusesGift_31 k_bm2 ?_
        refine r_goto (tgt := 48) C dX12_refusesGift_33 (by decide) ?_
        exact r_iret C dX12_refusesGift_48
    · refine r_iconst C dX12_refusesGift_16 k_im1 ?_
      exact r_iret C dX12_refusesGift_17
set_option maxRecDepth 100000 in
set_option maxHeartbeats 4000000 in
theorem tcX12_hold (l : Launch) (g : WG) (hg : p_al g = false) (o0 : Nat) (i1 : Int32) (i2 : Int32) (h : PH) : CT l g 1 0 0 yX12_hold cX12_hold 3 none em_v [p_rf g o0, .int i1, .int i2] h (fX12_hold o0 i1 i2 h) := by
  refine CT_of (own := RX12) (nm := "hold") (by decide +kernel) (Nat.le_of_ble_eq_true rfl) rfl rfl rfl ⟨rfl, rfl⟩ (fun K hK C => ?_)
  subst hK
  unfold fX12_hold
  show VX K g _ _ _ _ _ [(0, p_rf g o0), (1, .int i1), (2, .int i2)] _ _ _
  refine r_aload_n C dX12_hold_0 0 rfl ?_
  refine r_bipush C dX12_hold_1 k_b32 ?_
  refine r_iload_n C dX12_hold_3 1 rfl ?_
  refine r_iadd C dX12_hold_4 ?_
  refine r_topi (fun x1 => ?_)
  refine r_dup2 C dX12_hold_5 rfl rfl ?_
  refine r_iald C dX12_hold_6 (fun x2 => ?_)
  refine r_iconst C dX12_hold_7 k_i1 ?_
  refine r_iload_n C dX12_hold_8 2 rfl ?_
  refine r_ishl C dX12_hold_9 ?_
  refine r_ior C dX12_hold_10 ?_
  refine r_iast C dX12_hold_11 (fun h3 => ?_)
  refine r_aload_n C dX12_hold_12 0 rfl ?_
  refine r_bipush C dX12_hold_13 k_b38 ?_
  refine r_bipush C dX12_hold_15 k_b8 ?_
  refine r_iload_n C dX12_hold_17 1 rfl ?_
  refine r_imul C dX12_hold_18 ?_
  refine r_iadd C dX12_hold_19 ?_
  refine r_iload_n C dX12_hold_20 2 rfl ?_
  refine r_iadd C dX12_hold_21 ?_
  refine r_iconst C dX12_hold_22 k_i0 ?_
  refine r_iast C dX12_hold_23 (fun h4 => ?_)
  exact r_vret C dX12_hold_24
set_option maxRecDepth 100000 in
set_option maxHeartbeats 4000000 in
theorem tcX12_goGift (l : Launch) (g : WG) (hg : p_al g = false) (o0 : Nat) (i1 : Int32) (i2 : Int32) (h : PH) : CT l g 2 0 0 yX12_goGift cX12_goGift 3 none em_v [p_rf g o0, .int i1, .int i2] h (fX12_goGift o0 i1 i2 h) := by
  refine CT_of (own := RX12) (nm := "goGift") (by decide +kernel) (Nat.le_of_ble_eq_true rfl) rfl rfl rfl ⟨rfl, rfl⟩ (fun K hK C => ?_)
  subst hK
  unfold fX12_goGift
  show VX K g _ _ _ _ _ [(0, p_rf g o0), (1, .int i1), (2, .int i2)] _ _ _
  refine r_aload_n C dX12_goGift_0 0 rfl ?_
  refine r_iload_n C dX12_goGift_1 1 rfl ?_
  refine r_iload_n C dX12_goGift_2 2 rfl ?_
  refine r_csv (As := [p_rf g o0, .int i1, .int i2]) (st := []) C ws_X12_288 (tcX12_hold K.2.1 g hg o0 i1 i2 h) (Nat.le_of_ble_eq_true rfl) rfl rfl (Nat.le_of_ble_eq_true rfl) dX12_goGift_3 ⟨Nat.le_of_ble_eq_true rfl, Nat.le_of_ble_eq_true rfl⟩ (fun h1 => ?_)
  refine r_aload_n C dX12_goGift_6 0 rfl ?_
  refine r_iload_n C dX12_goGift_7 2 rfl ?_
  refine r_dup2 C dX12_goGift_8 rfl rfl ?_
  refine r_iald C dX12_goGift_9 (fun x2 => ?_)
  refine r_iconst C dX12_goGift_10 k_i1 ?_
  refine r_isub C dX12_goGift_11 ?_
  refine r_iast C dX12_goGift_12 (fun h3 => ?_)
  refine r_aload_n C dX12_goGift_13 0 rfl ?_
  refine r_bipush C dX12_goGift_14 k_b87 ?_
  refine r_sipush C dX12_goGift_16 k_s9999 ?_
  refine r_aload_n C dX12_goGift_19 0 rfl ?_
  refine r_bipush C dX12_goGift_20 k_b87 ?_
  refine r_iald C dX12_goGift_22 (fun x4 => ?_)
  refine r_iconst C dX12_goGift_23 k_i1 ?_
  refine r_iadd C dX12_goGift_24 ?_
  refine r_topi (fun x5 => ?_)
  refine r_min C wm_X12_245 (Nat.le_of_ble_eq_true rfl) (Nat.le_of_ble_eq_true rfl) ⟨Nat.le_of_ble_eq_true rfl, Nat.le_of_ble_eq_true rfl⟩ dX12_goGift_25 ?_
  refine r_iast C dX12_goGift_28 (fun h6 => ?_)
  exact r_vret C dX12_goGift_29
set_option maxRecDepth 100000 in
set_option maxHeartbeats 4000000 in
theorem tcX12_gives (l : Launch) (g : WG) (hg : p_al g = false) (o0 : Nat) (i1 : Int32) (i2 : Int32) (h : PH) : CT l g 4 0 0 yX12_gives cX12_gives 4 (some .int) em_i [p_rf g o0, .int i1, .int i2] h (fX12_gives o0 i1 i2 h) := by
  refine CT_of (own := RX12) (nm := "gives") (by decide +kernel) (Nat.le_of_ble_eq_true rfl) rfl rfl rfl ⟨rfl, rfl⟩ (fun K hK C => ?_)
  subst hK
  unfold fX12_gives
  show VX K g _ _ _ _ _ [(0, p_rf g o0), (1, .int i1), (2, .int i2)] _ _ _
  refine r_aload_n C dX12_gives_0 0 rfl ?_
  refine r_iconst C dX12_gives_1 k_i0 ?_
  refine r_pi C wf_X12_109_11 dX12_gives_2 (fun h1 => ?_)
  refine r_aload_n C dX12_gives_5 0 rfl ?_
  refine r_aload_n C dX12_gives_6 0 rfl ?_
  refine r_gr C wf_X12_9_11 dX12_gives_7 (fun q2 => ?_)
  refine r_iload_n C dX12_gives_10 1 rfl ?_
  refine r_iload_n C dX12_gives_11 2 rfl ?_
  refine r_cvi (As := [p_rf g q2, .int i1, .int i2]) (st := []) C wv_X12_292 (tcX12_refusesGift K.2.1 g hg o0 q2 i1 i2 h1) (Nat.le_of_ble_eq_true rfl) rfl rfl (Nat.le_of_ble_eq_true rfl) dX12_gives_12 ⟨Nat.le_of_ble_eq_true rfl, Nat.le_of_ble_eq_true rfl⟩ (fun x3 h4 => ?_)
  refine r_istore_n (lv9 := [(3, .int x3), (0, p_rf g o0), (1, .int i1), (2, .int i2)]) C dX12_gives_15 (by decide) rfl ?_
  refine r_iload_n C dX12_gives_16 0 rfl ?_
  refine r_if_ge (tgt := 22) C dX12_gives_17 (by decide) ?_ ?_
  · refine r_aload_n C dX12_gives_22 1 rfl ?_
    refine r_aload_n C dX12_gives_23 1 rfl ?_
    refine r_gr C wf_X12_9_11 dX12_gives_24 (fun q5 => ?_)
    refine r_cvv (As := [p_rf g q5]) (st := []) C wv_X12_295 (tcX12_remember K.2.1 g hg o0 q5 h4) (Nat.le_of_ble_eq_true rfl) rfl rfl (Nat.le_of_ble_eq_true rfl) dX12_gives_27 ⟨Nat.le_of_ble_eq_true rfl, Nat.le_of_ble_eq_true rfl⟩ (fun h6 => ?_)
    refine r_aload_n C dX12_gives_30 1 rfl ?_
    refine r_gr C wf_X12_9_11 dX12_gives_31 (fun q7 => ?_)
    refine r_iload_n C dX12_gives_34 2 rfl ?_
    refine r_iload_n C dX12_gives_35 3 rfl ?_
    refine r_csv (As := [p_rf g q7, .int i1, .int i2]) (st := []) C ws_X12_299 (tcX12_goGift K.2.1 g hg q7 i1 i2 h6) (Nat.le_of_ble_eq_true rfl) rfl rfl (Nat.le_of_ble_eq_true rfl) dX12_gives_36 ⟨Nat.le_of_ble_eq_true rfl, Nat.le_of_ble_eq_true rfl⟩ (fun h8 => ?_)
    refine r_aload_n C dX12_gives_39 1 rfl ?_
    refine r_gr C wf_X12_9_11 dX12_gives_40 (fun q9 => ?_)
    refine r_bipush C dX12_gives_43 k_b32 ?_
    refine r_iload_n C dX12_gives_45 2 rfl ?_
    refine r_iadd C dX12_gives_46 ?_
    refine r_iald C dX12_gives_47 (fun x10 => ?_)
    refine r_csi (As := [.int x10]) (st := []) C ws_X12_242 (tcJ6_bitCount_0f7a4 K.2.1 g hg x10 h8) (Nat.le_of_ble_eq_true rfl) rfl rfl (Nat.le_of_ble_eq_true rfl) dX12_gives_48 ⟨Nat.le_of_ble_eq_true rfl, Nat.le_of_ble_eq_true rfl⟩ (fun x11 h12 => ?_)
    exact r_iret C dX12_gives_51
  · refine r_iload_n C dX12_gives_20 0 rfl ?_
    exact r_iret C dX12_gives_21
set_option maxRecDepth 100000 in
set_option maxHeartbeats 4000000 in
theorem tcX12_refusesBack (l : Launch) (g : WG) (hg : p_al g = false) (o0 : Nat) (o1 : Nat) (i2 : Int32) (i3 : Int32) (h : PH) : CT l g 3 0 0 yX12_refusesBack cX12_refusesBack 4 (some .int) em_i [p_rf g o0, p_rf g o1, .int i2, .int i3] h (fX12_refusesBack o0 o1 i2 i3 h) := by
  refine CT_of (own := RX12) (nm := "refusesBack") (by decide +kernel) (Nat.le_of_ble_eq_true rfl) rfl rfl rfl ⟨rfl, rfl⟩ (fun K hK C => ?_)
  subst hK
  unfold fX12_refusesBack
  show VX K g _ _ _ _ _ [(0, p_rf g o0), (1, p_rf g o1), (2, .int i2), (3, .int i3)] _ _ _
  refine r_aload_n C dX12_refusesBack_0 0 rfl ?_
  refine r_iload_n C dX12_refusesBack_1 2 rfl ?_
  refine r_cvi (As := [.int i2]) (st := []) C wv_X12_278 (tcX12_isMan K.2.1 g hg o0 i2 h) (Nat.le_of_ble_eq_true rfl) rfl rfl (Nat.le_of_ble_eq_true rfl) dX12_refusesBack_2 ⟨Nat.le_of_ble_eq_true rfl, Nat.le_of_ble_eq_true rfl⟩ (fun x1 h2 => ?_)
  refine r_if_eq (tgt := 16) C dX12_refusesBack_5 (by decide) ?_ ?_
  · refine r_iconst C dX12_refusesBack_16 k_im1 ?_
    exact r_iret C dX12_refusesBack_17
  · refine r_aload_n C dX12_refusesBack_8 0 rfl ?_
    refine r_iload_n C dX12_refusesBack_9 3 rfl ?_
    refine r_cvi (As := [.int i3]) (st := []) C wv_X12_269 (tcX12_isGround K.2.1 g hg o0 i3 h2) (Nat.le_of_ble_eq_true rfl) rfl rfl (Nat.le_of_ble_eq_true rfl) dX12_refusesBack_10 ⟨Nat.le_of_ble_eq_true rfl, Nat.le_of_ble_eq_true rfl⟩ (fun x3 h4 => ?_)
    refine r_if_ne (tgt := 18) C dX12_refusesBack_13 (by decide) ?_ ?_
    · refine r_aload_n C dX12_refusesBack_18 1 rfl ?_
      refine r_bipush C dX12_refusesBack_19 k_b32 ?_
      refine r_iload_n C dX12_refusesBack_21 2 rfl ?_
      refine r_iadd C dX12_refusesBack_22 ?_
      refine r_iald C dX12_refusesBack_23 (fun x5 => ?_)
      refine r_iload_n C dX12_refusesBack_24 3 rfl ?_
      refine r_csi (As := [.int x5, .int i3]) (st := []) C ws_X12_265 (tcX12_has K.2.1 g hg x5 i3 h4) (Nat.le_of_ble_eq_true rfl) rfl rfl (Nat.le_of_ble_eq_true rfl) dX12_refusesBack_25 ⟨Nat.le_of_ble_eq_true rfl, Nat.le_of_ble_eq_true rfl⟩ (fun x6 h7 => ?_)
      refine r_if_eq (tgt := 35) C dX12_refusesBack_28 (by decide) ?_ ?_
      · refine r_bipush C dX12_refusesBack_35 k_bm2 ?_
        exact r_iret C dX12_refusesBack_37
      · refine r_iconst C dX12_refusesBack_31 k_i0 ?_
        refine r_goto (tgt := 37) C dX12_refusesBack_32 (by decide) ?_
        exact r_iret C dX12_refusesBack_37
    · refine r_iconst C dX12_refusesBack_16 k_im1 ?_
      exact r_iret C dX12_refusesBack_17
set_option maxRecDepth 100000 in
set_option maxHeartbeats 4000000 in
theorem tcX12_goBack (l : Launch) (g : WG) (hg : p_al g = false) (o0 : Nat) (i1 : Int32) (i2 : Int32) (h : PH) : CT l g 1 0 0 yX12_goBack cX12_goBack 3 none em_v [p_rf g o0, .int i1, .int i2] h (fX12_goBack o0 i1 i2 h) := by
  refine CT_of (own := RX12) (nm := "goBack") (by decide +kernel) (Nat.le_of_ble_eq_true rfl) rfl rfl rfl ⟨rfl, rfl⟩ (fun K hK C => ?_)
  subst hK
  unfold fX12_goBack
  show VX K g _ _ _ _ _ [(0, p_rf g o0), (1, .int i1), (2, .int i2)] _ _ _
  refine r_aload_n C dX12_goBack_0 0 rfl ?_
  refine r_bipush C dX12_goBack_1 k_b32 ?_
  refine r_iload_n C dX12_goBack_3 1 rfl ?_
  refine r_iadd C dX12_goBack_4 ?_
  refine r_topi (fun x1 => ?_)
  refine r_dup2 C dX12_goBack_5 rfl rfl ?_
  refine r_iald C dX12_goBack_6 (fun x2 => ?_)
  refine r_iconst C dX12_goBack_7 k_i1 ?_
  refine r_iload_n C dX12_goBack_8 2 rfl ?_
  refine r_ishl C dX12_goBack_9 ?_
  refine r_iconst C dX12_goBack_10 k_im1 ?_
  refine r_ixor C dX12_goBack_11 ?_
  refine r_iand C dX12_goBack_12 ?_
  refine r_iast C dX12_goBack_13 (fun h3 => ?_)
  refine r_aload_n C dX12_goBack_14 0 rfl ?_
  refine r_bipush C dX12_goBack_15 k_b38 ?_
  refine r_bipush C dX12_goBack_17 k_b8 ?_
  refine r_iload_n C dX12_goBack_19 1 rfl ?_
  refine r_imul C dX12_goBack_20 ?_
  refine r_iadd C dX12_goBack_21 ?_
  refine r_iload_n C dX12_goBack_22 2 rfl ?_
  refine r_iadd C dX12_goBack_23 ?_
  refine r_iconst C dX12_goBack_24 k_i0 ?_
  refine r_iast C dX12_goBack_25 (fun h4 => ?_)
  refine r_aload_n C dX12_goBack_26 0 rfl ?_
  refine r_iload_n C dX12_goBack_27 2 rfl ?_
  refine r_bipush C dX12_goBack_28 k_b99 ?_
  refine r_aload_n C dX12_goBack_30 0 rfl ?_
  refine r_iload_n C dX12_goBack_31 2 rfl ?_
  refine r_iald C dX12_goBack_32 (fun x5 => ?_)
  refine r_iconst C dX12_goBack_33 k_i1 ?_
  refine r_iadd C dX12_goBack_34 ?_
  refine r_topi (fun x6 => ?_)
  refine r_min C wm_X12_245 (Nat.le_of_ble_eq_true rfl) (Nat.le_of_ble_eq_true rfl) ⟨Nat.le_of_ble_eq_true rfl, Nat.le_of_ble_eq_true rfl⟩ dX12_goBack_35 ?_
  refine r_iast C dX12_goBack_38 (fun h7 => ?_)
  exact r_vret C dX12_goBack_39
set_option maxRecDepth 100000 in
set_option maxHeartbeats 4000000 in
theorem tcX12_takesBack (l : Launch) (g : WG) (hg : p_al g = false) (o0 : Nat) (i1 : Int32) (i2 : Int32) (h : PH) : CT l g 4 0 0 yX12_takesBack cX12_takesBack 4 (some .int) em_i [p_rf g o0, .int i1, .int i2] h (fX12_takesBack o0 i1 i2 h) := by
  refine CT_of (own := RX12) (nm := "takesBack") (by decide +kernel) (Nat.le_of_ble_eq_true rfl) rfl rfl rfl ⟨rfl, rfl⟩ (fun K hK C => ?_)
  subst hK
  unfold fX12_takesBack
  show VX K g _ _ _ _ _ [(0, p_rf g o0), (1, .int i1), (2, .int i2)] _ _ _
  refine r_aload_n C dX12_takesBack_0 0 rfl ?_
  refine r_iconst C dX12_takesBack_1 k_i0 ?_
  refine r_pi C wf_X12_109_11 dX12_takesBack_2 (fun h1 => ?_)
  refine r_aload_n C dX12_takesBack_5 0 rfl ?_
  refine r_aload_n C dX12_takesBack_6 0 rfl ?_
  refine r_gr C wf_X12_9_11 dX12_takesBack_7 (fun q2 => ?_)
  refine r_iload_n C dX12_takesBack_10 1 rfl ?_
  refine r_iload_n C dX12_takesBack_11 2 rfl ?_
  refine r_cvi (As := [p_rf g q2, .int i1, .int i2]) (st := []) C wv_X12_302 (tcX12_refusesBack K.2.1 g hg o0 q2 i1 i2 h1) (Nat.le_of_ble_eq_true rfl) rfl rfl (Nat.le_of_ble_eq_true rfl) dX12_takesBack_12 ⟨Nat.le_of_ble_eq_true rfl, Nat.le_of_ble_eq_true rfl⟩ (fun x3 h4 => ?_)
  refine r_istore_n (lv9 := [(3, .int x3), (0, p_rf g o0), (1, .int i1), (2, .int i2)]) C dX12_takesBack_15 (by decide) rfl ?_
  refine r_iload_n C dX12_takesBack_16 0 rfl ?_
  refine r_if_ge (tgt := 22) C dX12_takesBack_17 (by decide) ?_ ?_
  · refine r_aload_n C dX12_takesBack_22 1 rfl ?_
    refine r_aload_n C dX12_takesBack_23 1 rfl ?_
    refine r_gr C wf_X12_9_11 dX12_takesBack_24 (fun q5 => ?_)
    refine r_cvv (As := [p_rf g q5]) (st := []) C wv_X12_295 (tcX12_remember K.2.1 g hg o0 q5 h4) (Nat.le_of_ble_eq_true rfl) rfl rfl (Nat.le_of_ble_eq_true rfl) dX12_takesBack_27 ⟨Nat.le_of_ble_eq_true rfl, Nat.le_of_ble_eq_true rfl⟩ (fun h6 => ?_)
    refine r_aload_n C dX12_takesBack_30 1 rfl ?_
    refine r_gr C wf_X12_9_11 dX12_takesBack_31 (fun q7 => ?_)
    refine r_iload_n C dX12_takesBack_34 2 rfl ?_
    refine r_iload_n C dX12_takesBack_35 3 rfl ?_
    refine r_csv (As := [p_rf g q7, .int i1, .int i2]) (st := []) C ws_X12_305 (tcX12_goBack K.2.1 g hg q7 i1 i2 h6) (Nat.le_of_ble_eq_true rfl) rfl rfl (Nat.le_of_ble_eq_true rfl) dX12_takesBack_36 ⟨Nat.le_of_ble_eq_true rfl, Nat.le_of_ble_eq_true rfl⟩ (fun h8 => ?_)
    refine r_aload_n C dX12_takesBack_39 1 rfl ?_
    refine r_gr C wf_X12_9_11 dX12_takesBack_40 (fun q9 => ?_)
    refine r_bipush C dX12_takesBack_43 k_b32 ?_
    refine r_iload_n C dX12_takesBack_45 2 rfl ?_
    refine r_iadd C dX12_takesBack_46 ?_
    refine r_iald C dX12_takesBack_47 (fun x10 => ?_)
    refine r_csi (As := [.int x10]) (st := []) C ws_X12_242 (tcJ6_bitCount_0f7a4 K.2.1 g hg x10 h8) (Nat.le_of_ble_eq_true rfl) rfl rfl (Nat.le_of_ble_eq_true rfl) dX12_takesBack_48 ⟨Nat.le_of_ble_eq_true rfl, Nat.le_of_ble_eq_true rfl⟩ (fun x11 h12 => ?_)
    exact r_iret C dX12_takesBack_51
  · refine r_iload_n C dX12_takesBack_20 0 rfl ?_
    exact r_iret C dX12_takesBack_21
set_option maxRecDepth 100000 in
set_option maxHeartbeats 4000000 in
theorem tcX12_makes (l : Launch) (g : WG) (hg : p_al g = false) (o0 : Nat) (i1 : Int32) (i2 : Int32) (h : PH) : CT l g 3 0 0 yX12_makes cX12_makes 3 (some .int) em_i [p_rf g o0, .int i1, .int i2] h (fX12_makes o0 i1 i2 h) := by
  refine CT_of (own := RX12) (nm := "makes") (by decide +kernel) (Nat.le_of_ble_eq_true rfl) rfl rfl rfl ⟨rfl, rfl⟩ (fun K hK C => ?_)
  subst hK
  unfold fX12_makes
  show VX K g _ _ _ _ _ [(0, p_rf g o0), (1, .int i1), (2, .int i2)] _ _ _
  refine r_aload_n C dX12_makes_0 0 rfl ?_
  refine r_iconst C dX12_makes_1 k_i0 ?_
  refine r_pi C wf_X12_109_11 dX12_makes_2 (fun h1 => ?_)
  refine r_aload_n C dX12_makes_5 0 rfl ?_
  refine r_iload_n C dX12_makes_6 1 rfl ?_
  refine r_cvi (As := [.int i1]) (st := []) C wv_X12_269 (tcX12_isGround K.2.1 g hg o0 i1 h1) (Nat.le_of_ble_eq_true rfl) rfl rfl (Nat.le_of_ble_eq_true rfl) dX12_makes_7 ⟨Nat.le_of_ble_eq_true rfl, Nat.le_of_ble_eq_true rfl⟩ (fun x2 h3 => ?_)
  refine r_if_eq (tgt := 23) C dX12_makes_10 (by decide) ?_ ?_
  · refine r_iconst C dX12_makes_23 k_im1 ?_
    exact r_iret C dX12_makes_24
  · refine r_iload_n C dX12_makes_13 2 rfl ?_
    refine r_iconst C dX12_makes_14 k_i1 ?_
    refine r_bipush C dX12_makes_15 k_b99 ?_
    refine r_csi (As := [.int i2, .int (1 : Int32), .int (99 : Int32)]) (st := []) C ws_X12_119 (tcX12_in K.2.1 g hg i2 (1 : Int32) (99 : Int32) h3) (Nat.le_of_ble_eq_true rfl) rfl rfl (Nat.le_of_ble_eq_true rfl) dX12_makes_17 ⟨Nat.le_of_ble_eq_true rfl, Nat.le_of_ble_eq_true rfl⟩ (fun x4 h5 => ?_)
    refine r_if_ne (tgt := 25) C dX12_makes_20 (by decide) ?_ ?_
    · refine r_aload_n C dX12_makes_25 0 rfl ?_
      refine r_aload_n C dX12_makes_26 0 rfl ?_
      refine r_gr C wf_X12_9_11 dX12_makes_27 (fun q6 => ?_)
      refine r_cvv (As := [p_rf g q6]) (st := []) C wv_X12_295 (tcX12_remember K.2.1 g hg o0 q6 h5) (Nat.le_of_ble_eq_true rfl) rfl rfl (Nat.le_of_ble_eq_true rfl) dX12_makes_30 ⟨Nat.le_of_ble_eq_true rfl, Nat.le_of_ble_eq_true rfl⟩ (fun h7 => ?_)
      refine r_aload_n C dX12_makes_33 0 rfl ?_
      refine r_gr C wf_X12_9_11 dX12_makes_34 (fun q8 => ?_)
      refine r_iload_n C dX12_makes_37 1 rfl ?_
      refine r_bipush C dX12_makes_38 k_b99 ?_
      refine r_aload_n C dX12_makes_40 0 rfl ?_
      refine r_gr C wf_X12_9_11 dX12_makes_41 (fun q9 => ?_)
      refine r_iload_n C dX12_makes_44 1 rfl ?_
      refine r_iald C dX12_makes_45 (fun x10 => ?_)
      refine r_iload_n C dX12_makes_46 2 rfl ?_
      refine r_iadd C dX12_makes_47 ?_
      refine r_topi (fun x11 => ?_)
      refine r_min C wm_X12_245 (Nat.le_of_ble_eq_true rfl) (Nat.le_of_ble_eq_true rfl) ⟨Nat.le_of_ble_eq_true rfl, Nat.le_of_ble_eq_true rfl⟩ dX12_makes_48 ?_
      refine r_iast C dX12_makes_51 (fun h12 => ?_)
      refine r_aload_n C dX12_makes_52 0 rfl ?_
      refine r_gr C wf_X12_9_11 dX12_makes_53 (fun q13 => ?_)
      refine r_iload_n C dX12_makes_56 1 rfl ?_
      refine r_iald C dX12_makes_57 (fun x14 => ?_)
      exact r_iret C dX12_makes_58
    · refine r_iconst C dX12_makes_23 k_im1 ?_
      exact r_iret C dX12_makes_24
set_option maxRecDepth 100000 in
set_option maxHeartbeats 4000000 in
theorem tX12_goMan_J75_17 {K : AC} {g : WG} (hg : p_al g = false)  (C : Cx K g cX12_goMan 5 RX12 none "goMan" 609 0 0) (o0 : Nat) (o1 : Nat) (i2 : Int32) (i3 : Int32) (i4 : Int32) (s0 : Int32) (s1 : Int32) (s2 : Int32) (s3 : Nat)    {rc : Int32 → PH → Option (Unit × PH)} {kx : PH → Option (Unit × PH)} (hr : ∀ (i4' : Int32) (h : PH), VX K g 5 0 0 (a_fin K g 0 0 em_v) 17 [(0, p_rf g o0), (1, p_rf g o1), (2, .int i2), (3, .int i3), (4, .int i4')] [] h (rc i4' h)) (hk : ∀  (h : PH), VX K g 5 0 0 (a_fin K g 0 0 em_v) 83 [(0, p_rf g o0), (1, p_rf g o1), (2, .int i2), (3, .int i3)] [] h (kx  h)) (h : PH) : VX K g 5 0 0 (a_fin K g 0 0 em_v) 75 [(0, p_rf g o0), (1, p_rf g o1), (2, .int i2), (3, .int i3), (4, .int i4)] [.int s0, .int s1, .int s2, p_rf g s3] h (fX12_goMan_J75_17 rc kx o0 o1 i2 i3 i4 s0 s1 s2 s3 h) := by
  unfold fX12_goMan_J75_17
  refine r_iadd C dX12_goMan_75 ?_
  refine r_iast C dX12_goMan_76 (fun h1 => ?_)
  refine r_iinc (lv' := [(0, p_rf g o0), (1, p_rf g o1), (2, .int i2), (3, .int i3)]) C dX12_goMan_77 4 rfl k_i1 (by decide) (fun _ => rfl) (fun x2 => ?_)
  refine r_goto (tgt := 17) C dX12_goMan_80 (by decide) ?_
  refine r_perm (lv' := [(0, p_rf g o0), (1, p_rf g o1), (2, .int i2), (3, .int i3), (4, .int x2)]) [1, 2, 3, 4, 0] rfl ?_
  exact hr x2 h1
set_option maxRecDepth 100000 in
set_option maxHeartbeats 4000000 in
theorem tX12_goMan_J74_17 {K : AC} {g : WG} (hg : p_al g = false)  (C : Cx K g cX12_goMan 5 RX12 none "goMan" 609 0 0) (o0 : Nat) (o1 : Nat) (i2 : Int32) (i3 : Int32) (i4 : Int32) (s0 : Int32) (s1 : Int32) (s2 : Nat)    {rc : Int32 → PH → Option (Unit × PH)} {kx : PH → Option (Unit × PH)} (hr : ∀ (i4' : Int32) (h : PH), VX K g 5 0 0 (a_fin K g 0 0 em_v) 17 [(0, p_rf g o0), (1, p_rf g o1), (2, .int i2), (3, .int i3), (4, .int i4')] [] h (rc i4' h)) (hk : ∀  (h : PH), VX K g 5 0 0 (a_fin K g 0 0 em_v) 83 [(0, p_rf g o0), (1, p_rf g o1), (2, .int i2), (3, .int i3)] [] h (kx  h)) (h : PH) : VX K g 5 0 0 (a_fin K g 0 0 em_v) 74 [(0, p_rf g o0), (1, p_rf g o1), (2, .int i2), (3, .int i3), (4, .int i4)] [.int s0, .int s1, p_rf g s2] h (fX12_goMan_J74_17 rc kx o0 o1 i2 i3 i4 s0 s1 s2 h) := by
  unfold fX12_goMan_J74_17
  refine r_iconst C dX12_goMan_74 k_i0 ?_
  exact tX12_goMan_J75_17 hg C o0 o1 i2 i3 i4 (0 : Int32) s0 s1 s2 hr hk h
set_option maxRecDepth 100000 in
set_option maxHeartbeats 4000000 in
theorem tX12_goMan_L17 {K : AC} {g : WG} (hg : p_al g = false)  (C : Cx K g cX12_goMan 5 RX12 none "goMan" 609 0 0) (o0 : Nat) (o1 : Nat) (i2 : Int32) (i3 : Int32) {kx : PH → Option (Unit × PH)} (hk : ∀  (h : PH), VX K g 5 0 0 (a_fin K g 0 0 em_v) 83 [(0, p_rf g o0), (1, p_rf g o1), (2, .int i2), (3, .int i3)] [] h (kx h)) : ∀ (n : Nat) (i4 : Int32) (h : PH), VX K g 5 0 0 (a_fin K g 0 0 em_v) 17 [(0, p_rf g o0), (1, p_rf g o1), (2, .int i2), (3, .int i3), (4, .int i4)] [] h (fX12_goMan_L17 o0 o1 i2 i3 kx n i4 h) := by
  intro n
  induction n with
  | zero =>
    intros
    exact r_none
  | succ n ih =>
    intro i4 h
    rw [fX12_goMan_L17]
    refine r_iload C dX12_goMan_17 4 rfl ?_
    refine r_aload_n C dX12_goMan_19 0 rfl ?_
    refine r_gi C wf_X12_116_11 dX12_goMan_20 (fun x1 => ?_)
    refine r_icmp_ge (tgt := 83) C dX12_goMan_23 (by decide) ?_ ?_
    · refine r_perm (lv' := [(0, p_rf g o0), (1, p_rf g o1), (2, .int i2), (3, .int i3)]) [0, 1, 2, 3] rfl ?_
      exact hk h
    · refine r_aload_n C dX12_goMan_26 0 rfl ?_
      refine r_gr C wf_X12_60_11 dX12_goMan_27 (fun q2 => ?_)
      refine r_iload_n C dX12_goMan_30 3 rfl ?_
      refine r_dup2 C dX12_goMan_31 rfl rfl ?_
      refine r_iald C dX12_goMan_32 (fun x3 => ?_)
      refine r_aload_n C dX12_goMan_33 1 rfl ?_
      refine r_bipush C dX12_goMan_34 k_b32 ?_
      refine r_iload_n C dX12_goMan_36 2 rfl ?_
      refine r_iadd C dX12_goMan_37 ?_
      refine r_iald C dX12_goMan_38 (fun x4 => ?_)
      refine r_iload C dX12_goMan_39 4 rfl ?_
      refine r_csi (As := [.int x4, .int i4]) (st := [.int x3, .int i3, p_rf g q2]) C ws_X12_265 (tcX12_has K.2.1 g hg x4 i4 h) (Nat.le_of_ble_eq_true rfl) rfl rfl (Nat.le_of_ble_eq_true rfl) dX12_goMan_41 ⟨Nat.le_of_ble_eq_true rfl, Nat.le_of_ble_eq_true rfl⟩ (fun x5 h6 => ?_)
      refine r_if_eq (tgt := 74) C dX12_goMan_44 (by decide) ?_ ?_
      · exact tX12_goMan_J74_17 hg C o0 o1 i2 i3 i4 x3 i3 q2 ih hk h6
      · refine r_aload_n C dX12_goMan_47 0 rfl ?_
        refine r_gr C wf_X12_16_11 dX12_goMan_48 (fun q7 => ?_)
        refine r_iconst C dX12_goMan_51 k_i4 ?_
        refine r_iload C dX12_goMan_52 4 rfl ?_
        refine r_imul C dX12_goMan_54 ?_
        refine r_iload_n C dX12_goMan_55 3 rfl ?_
        refine r_iadd C dX12_goMan_56 ?_
        refine r_iald C dX12_goMan_57 (fun x8 => ?_)
        refine r_iconst C dX12_goMan_58 k_im1 ?_
        refine r_icmp_eq (tgt := 74) C dX12_goMan_59 (by decide) ?_ ?_
        · exact tX12_goMan_J74_17 hg C o0 o1 i2 i3 i4 x3 i3 q2 ih hk h6
        · refine r_aload_n C dX12_goMan_62 0 rfl ?_
          refine r_aload_n C dX12_goMan_63 1 rfl ?_
          refine r_iload_n C dX12_goMan_64 2 rfl ?_
          refine r_iload C dX12_goMan_65 4 rfl ?_
          refine r_iload_n C dX12_goMan_67 3 rfl ?_
          refine r_cvi (As := [p_rf g o1, .int i2, .int i4, .int i3]) (st := [.int x3, .int i3, p_rf g q2]) C wv_X12_308 (tcX12_pushOf K.2.1 g hg o0 o1 i2 i4 i3 h6) (Nat.le_of_ble_eq_true rfl) rfl rfl (Nat.le_of_ble_eq_true rfl) dX12_goMan_68 ⟨Nat.le_of_ble_eq_true rfl, Nat.le_of_ble_eq_true rfl⟩ (fun x9 h10 => ?_)
          refine r_goto (tgt := 75) C dX12_goMan_71 (by decide) ?_
          exact tX12_goMan_J75_17 hg C o0 o1 i2 i3 i4 x9 x3 i3 q2 ih hk h10
set_option maxRecDepth 100000 in
set_option maxHeartbeats 4000000 in
theorem tX12_goMan_L2 {K : AC} {g : WG} (hg : p_al g = false)  (C : Cx K g cX12_goMan 5 RX12 none "goMan" 609 0 0) (o0 : Nat) (o1 : Nat) (i2 : Int32) {kx : PH → Option (Unit × PH)} (hk : ∀  (h : PH), VX K g 5 0 0 (a_fin K g 0 0 em_v) 89 [(0, p_rf g o0), (1, p_rf g o1), (2, .int i2)] [] h (kx h)) : ∀ (n : Nat) (i3 : Int32) (h : PH), VX K g 5 0 0 (a_fin K g 0 0 em_v) 2 [(0, p_rf g o0), (1, p_rf g o1), (2, .int i2), (3, .int i3)] [] h (fX12_goMan_L2 o0 o1 i2 kx n i3 h) := by
  intro n
  induction n with
  | zero =>
    intros
    exact r_none
  | succ n ih =>
    intro i3 h
    rw [fX12_goMan_L2]
    refine r_iload_n C dX12_goMan_2 3 rfl ?_
    refine r_iconst C dX12_goMan_3 k_i4 ?_
    refine r_icmp_ge (tgt := 89) C dX12_goMan_4 (by decide) ?_ ?_
    · refine r_perm (lv' := [(0, p_rf g o0), (1, p_rf g o1), (2, .int i2)]) [0, 1, 2] rfl ?_
      exact hk h
    · refine r_aload_n C dX12_goMan_7 0 rfl ?_
      refine r_gr C wf_X12_60_11 dX12_goMan_8 (fun q1 => ?_)
      refine r_iload_n C dX12_goMan_11 3 rfl ?_
      refine r_iconst C dX12_goMan_12 k_i0 ?_
      refine r_iast C dX12_goMan_13 (fun h2 => ?_)
      refine r_iconst C dX12_goMan_14 k_i0 ?_
      refine r_istore (lv9 := [(4, .int (0 : Int32)), (0, p_rf g o0), (1, p_rf g o1), (2, .int i2), (3, .int i3)]) C dX12_goMan_15 (by decide) rfl ?_
      refine r_perm (lv' := [(0, p_rf g o0), (1, p_rf g o1), (2, .int i2), (3, .int i3), (4, .int (0 : Int32))]) [1, 2, 3, 4, 0] rfl ?_
      refine tX12_goMan_L17 hg C o0 o1 i2 i3 (fun h3 => ?_) FU (0 : Int32) h2
      refine r_iinc (lv' := [(0, p_rf g o0), (1, p_rf g o1), (2, .int i2)]) C dX12_goMan_83 3 rfl k_i1 (by decide) (fun _ => rfl) (fun x4 => ?_)
      refine r_goto (tgt := 2) C dX12_goMan_86 (by decide) ?_
      refine r_perm (lv' := [(0, p_rf g o0), (1, p_rf g o1), (2, .int i2), (3, .int x4)]) [1, 2, 3, 0] rfl ?_
      exact ih x4 h3
set_option maxRecDepth 100000 in
set_option maxHeartbeats 4000000 in
theorem tX12_goMan_L91 {K : AC} {g : WG} (hg : p_al g = false)  (C : Cx K g cX12_goMan 5 RX12 none "goMan" 609 0 0) (o0 : Nat) (o1 : Nat) (i2 : Int32) {kx : PH → Option (Unit × PH)} (hk : ∀  (h : PH), VX K g 5 0 0 (a_fin K g 0 0 em_v) 134 [] [] h (kx h)) : ∀ (n : Nat) (i3 : Int32) (h : PH), VX K g 5 0 0 (a_fin K g 0 0 em_v) 91 [(0, p_rf g o0), (1, p_rf g o1), (2, .int i2), (3, .int i3)] [] h (fX12_goMan_L91 o0 o1 i2 kx n i3 h) := by
  intro n
  induction n with
  | zero =>
    intros
    exact r_none
  | succ n ih =>
    intro i3 h
    rw [fX12_goMan_L91]
    refine r_iload_n C dX12_goMan_91 3 rfl ?_
    refine r_iconst C dX12_goMan_92 k_i4 ?_
    refine r_icmp_ge (tgt := 134) C dX12_goMan_93 (by decide) ?_ ?_
    · refine r_perm (lv' := []) [] rfl ?_
      exact hk h
    · refine r_aload_n C dX12_goMan_96 1 rfl ?_
      refine r_bipush C dX12_goMan_97 k_b8 ?_
      refine r_iconst C dX12_goMan_99 k_i4 ?_
      refine r_iload_n C dX12_goMan_100 2 rfl ?_
      refine r_imul C dX12_goMan_101 ?_
      refine r_iadd C dX12_goMan_102 ?_
      refine r_iload_n C dX12_goMan_103 3 rfl ?_
      refine r_iadd C dX12_goMan_104 ?_
      refine r_iconst C dX12_goMan_105 k_i0 ?_
      refine r_bipush C dX12_goMan_106 k_b9 ?_
      refine r_aload_n C dX12_goMan_108 1 rfl ?_
      refine r_iload_n C dX12_goMan_109 2 rfl ?_
      refine r_iload_n C dX12_goMan_110 3 rfl ?_
      refine r_csi (As := [p_rf g o1, .int i2, .int i3]) (st := [.int (9 : Int32), .int (0 : Int32), .int (((8 : Int32) + ((4 : Int32) * i2)) + i3), p_rf g o1]) C ws_X12_232 (tcX12_humour K.2.1 g hg o1 i2 i3 h) (Nat.le_of_ble_eq_true rfl) rfl rfl (Nat.le_of_ble_eq_true rfl) dX12_goMan_111 ⟨Nat.le_of_ble_eq_true rfl, Nat.le_of_ble_eq_true rfl⟩ (fun x1 h2 => ?_)
      refine r_aload_n C dX12_goMan_114 0 rfl ?_
      refine r_gr C wf_X12_60_11 dX12_goMan_115 (fun q3 => ?_)
      refine r_iload_n C dX12_goMan_118 3 rfl ?_
      refine r_iald C dX12_goMan_119 (fun x4 => ?_)
      refine r_iadd C dX12_goMan_120 ?_
      refine r_topi (fun x5 => ?_)
      refine r_min C wm_X12_245 (Nat.le_of_ble_eq_true rfl) (Nat.le_of_ble_eq_true rfl) ⟨Nat.le_of_ble_eq_true rfl, Nat.le_of_ble_eq_true rfl⟩ dX12_goMan_121 ?_
      refine r_topi (fun x6 => ?_)
      refine r_max C wm_X12_250 (Nat.le_of_ble_eq_true rfl) (Nat.le_of_ble_eq_true rfl) ⟨Nat.le_of_ble_eq_true rfl, Nat.le_of_ble_eq_true rfl⟩ dX12_goMan_124 ?_
      refine r_iast C dX12_goMan_127 (fun h7 => ?_)
      refine r_iinc (lv' := [(0, p_rf g o0), (1, p_rf g o1), (2, .int i2)]) C dX12_goMan_128 3 rfl k_i1 (by decide) (fun _ => rfl) (fun x8 => ?_)
      refine r_goto (tgt := 91) C dX12_goMan_131 (by decide) ?_
      refine r_perm (lv' := [(0, p_rf g o0), (1, p_rf g o1), (2, .int i2), (3, .int x8)]) [1, 2, 3, 0] rfl ?_
      exact ih x8 h7
set_option maxRecDepth 100000 in
set_option maxHeartbeats 4000000 in
theorem tcX12_goMan (l : Launch) (g : WG) (hg : p_al g = false) (o0 : Nat) (o1 : Nat) (i2 : Int32) (h : PH) : CT l g 609 0 0 yX12_goMan cX12_goMan 5 none em_v [p_rf g o0, p_rf g o1, .int i2] h (fX12_goMan o0 o1 i2 h) := by
  refine CT_of (own := RX12) (nm := "goMan") (by decide +kernel) (Nat.le_of_ble_eq_true rfl) rfl rfl rfl ⟨rfl, rfl⟩ (fun K hK C => ?_)
  subst hK
  unfold fX12_goMan
  show VX K g _ _ _ _ _ [(0, p_rf g o0), (1, p_rf g o1), (2, .int i2)] _ _ _
  refine r_iconst C dX12_goMan_0 k_i0 ?_
  refine r_istore_n (lv9 := [(3, .int (0 : Int32)), (0, p_rf g o0), (1, p_rf g o1), (2, .int i2)]) C dX12_goMan_1 (by decide) rfl ?_
  refine r_perm (lv' := [(0, p_rf g o0), (1, p_rf g o1), (2, .int i2), (3, .int (0 : Int32))]) [1, 2, 3, 0] rfl ?_
  refine tX12_goMan_L2 hg C o0 o1 i2 (fun h1 => ?_) FU (0 : Int32) h
  refine r_iconst C dX12_goMan_89 k_i0 ?_
  refine r_istore_n (lv9 := [(3, .int (0 : Int32)), (0, p_rf g o0), (1, p_rf g o1), (2, .int i2)]) C dX12_goMan_90 (by decide) rfl ?_
  refine r_perm (lv' := [(0, p_rf g o0), (1, p_rf g o1), (2, .int i2), (3, .int (0 : Int32))]) [1, 2, 3, 0] rfl ?_
  refine tX12_goMan_L91 hg C o0 o1 i2 (fun h2 => ?_) FU (0 : Int32) h1
  exact r_vret C dX12_goMan_134
set_option maxRecDepth 100000 in
set_option maxHeartbeats 4000000 in
theorem tX12_goDay_L2 {K : AC} {g : WG} (hg : p_al g = false)  (C : Cx K g cX12_goDay 4 RX12 none "goDay" 610 0 0) (o0 : Nat) (o1 : Nat) {kx : PH → Option (Unit × PH)} (hk : ∀  (h : PH), VX K g 4 0 0 (a_fin K g 0 0 em_v) 51 [(0, p_rf g o0), (1, p_rf g o1)] [] h (kx h)) : ∀ (n : Nat) (i2 : Int32) (h : PH), VX K g 4 0 0 (a_fin K g 0 0 em_v) 2 [(0, p_rf g o0), (1, p_rf g o1), (2, .int i2)] [] h (fX12_goDay_L2 o0 o1 kx n i2 h) := by
  intro n
  induction n with
  | zero =>
    intros
    exact r_none
  | succ n ih =>
    intro i2 h
    rw [fX12_goDay_L2]
    refine r_iload_n C dX12_goDay_2 2 rfl ?_
    refine r_aload_n C dX12_goDay_3 0 rfl ?_
    refine r_gi C wf_X12_123_11 dX12_goDay_4 (fun x1 => ?_)
    refine r_icmp_ge (tgt := 51) C dX12_goDay_7 (by decide) ?_ ?_
    · refine r_perm (lv' := [(0, p_rf g o0), (1, p_rf g o1)]) [0, 1] rfl ?_
      exact hk h
    · refine r_aload_n C dX12_goDay_10 0 rfl ?_
      refine r_aload_n C dX12_goDay_11 1 rfl ?_
      refine r_iload_n C dX12_goDay_12 2 rfl ?_
      refine r_cvi (As := [p_rf g o1, .int i2]) (st := []) C wv_X12_261 (tcX12_had K.2.1 g hg o0 o1 i2 h) (Nat.le_of_ble_eq_true rfl) rfl rfl (Nat.le_of_ble_eq_true rfl) dX12_goDay_13 ⟨Nat.le_of_ble_eq_true rfl, Nat.le_of_ble_eq_true rfl⟩ (fun x2 h3 => ?_)
      refine r_istore_n (lv9 := [(3, .int x2), (0, p_rf g o0), (1, p_rf g o1), (2, .int i2)]) C dX12_goDay_16 (by decide) rfl ?_
      refine r_aload_n C dX12_goDay_17 1 rfl ?_
      refine r_aload_n C dX12_goDay_18 2 rfl ?_
      refine r_iload_n C dX12_goDay_19 3 rfl ?_
      refine r_cvv (As := [p_rf g o1, .int i2]) (st := []) C wv_X12_312 (tcX12_goMan K.2.1 g hg o0 o1 i2 h3) (Nat.le_of_ble_eq_true rfl) rfl rfl (Nat.le_of_ble_eq_true rfl) dX12_goDay_20 ⟨Nat.le_of_ble_eq_true rfl, Nat.le_of_ble_eq_true rfl⟩ (fun h4 => ?_)
      refine r_aload_n C dX12_goDay_23 1 rfl ?_
      refine r_dup C dX12_goDay_24 rfl ?_
      refine r_gi C wf_X12_316_11 dX12_goDay_25 (fun x5 => ?_)
      refine r_aload_n C dX12_goDay_28 1 rfl ?_
      refine r_aload_n C dX12_goDay_29 2 rfl ?_
      refine r_iload_n C dX12_goDay_30 3 rfl ?_
      refine r_cvi (As := [p_rf g o1, .int i2]) (st := [.int x5, p_rf g o0]) C wv_X12_261 (tcX12_had K.2.1 g hg o0 o1 i2 h4) (Nat.le_of_ble_eq_true rfl) rfl rfl (Nat.le_of_ble_eq_true rfl) dX12_goDay_31 ⟨Nat.le_of_ble_eq_true rfl, Nat.le_of_ble_eq_true rfl⟩ (fun x6 h7 => ?_)
      refine r_iload_n C dX12_goDay_34 0 rfl ?_
      refine r_iconst C dX12_goDay_35 k_im1 ?_
      refine r_ixor C dX12_goDay_36 ?_
      refine r_iand C dX12_goDay_37 ?_
      refine r_csi (As := [.int (x6 &&& (x2 ^^^ (-1 : Int32)))]) (st := [.int x5, p_rf g o0]) C ws_X12_242 (tcJ6_bitCount_0f7a4 K.2.1 g hg (x6 &&& (x2 ^^^ (-1 : Int32))) h7) (Nat.le_of_ble_eq_true rfl) rfl rfl (Nat.le_of_ble_eq_true rfl) dX12_goDay_38 ⟨Nat.le_of_ble_eq_true rfl, Nat.le_of_ble_eq_true rfl⟩ (fun x8 h9 => ?_)
      refine r_iadd C dX12_goDay_41 ?_
      refine r_pi C wf_X12_316_11 dX12_goDay_42 (fun h10 => ?_)
      refine r_iinc (lv' := [(3, .int x2), (0, p_rf g o0), (1, p_rf g o1)]) C dX12_goDay_45 3 rfl k_i1 (by decide) (fun _ => rfl) (fun x11 => ?_)
      refine r_goto (tgt := 2) C dX12_goDay_48 (by decide) ?_
      refine r_perm (lv' := [(0, p_rf g o0), (1, p_rf g o1), (2, .int x11)]) [2, 3, 0] rfl ?_
      exact ih x11 h10
set_option maxRecDepth 100000 in
set_option maxHeartbeats 4000000 in
theorem tX12_goDay_J113_63 {K : AC} {g : WG} (hg : p_al g = false)  (C : Cx K g cX12_goDay 4 RX12 none "goDay" 610 0 0) (o0 : Nat) (o1 : Nat) (i2 : Int32) (i3 : Int32)    {rc : Int32 → PH → Option (Unit × PH)} {kx : PH → Option (Unit × PH)} (hr : ∀ (i3' : Int32) (h : PH), VX K g 4 0 0 (a_fin K g 0 0 em_v) 63 [(0, p_rf g o0), (1, p_rf g o1), (2, .int i2), (3, .int i3')] [] h (rc i3' h)) (hk : ∀  (h : PH), VX K g 4 0 0 (a_fin K g 0 0 em_v) 119 [(0, p_rf g o0), (1, p_rf g o1), (2, .int i2)] [] h (kx  h)) (h : PH) : VX K g 4 0 0 (a_fin K g 0 0 em_v) 113 [(0, p_rf g o0), (1, p_rf g o1), (2, .int i2), (3, .int i3)] [] h (fX12_goDay_J113_63 rc kx o0 o1 i2 i3 h) := by
  unfold fX12_goDay_J113_63
  refine r_iinc (lv' := [(0, p_rf g o0), (1, p_rf g o1), (2, .int i2)]) C dX12_goDay_113 3 rfl k_i1 (by decide) (fun _ => rfl) (fun x1 => ?_)
  refine r_goto (tgt := 63) C dX12_goDay_116 (by decide) ?_
  refine r_perm (lv' := [(0, p_rf g o0), (1, p_rf g o1), (2, .int i2), (3, .int x1)]) [1, 2, 3, 0] rfl ?_
  exact hr x1 h
set_option maxRecDepth 100000 in
set_option maxHeartbeats 4000000 in
theorem tX12_goDay_L63 {K : AC} {g : WG} (hg : p_al g = false)  (C : Cx K g cX12_goDay 4 RX12 none "goDay" 610 0 0) (o0 : Nat) (o1 : Nat) (i2 : Int32) {kx : PH → Option (Unit × PH)} (hk : ∀  (h : PH), VX K g 4 0 0 (a_fin K g 0 0 em_v) 119 [(0, p_rf g o0), (1, p_rf g o1), (2, .int i2)] [] h (kx h)) : ∀ (n : Nat) (i3 : Int32) (h : PH), VX K g 4 0 0 (a_fin K g 0 0 em_v) 63 [(0, p_rf g o0), (1, p_rf g o1), (2, .int i2), (3, .int i3)] [] h (fX12_goDay_L63 o0 o1 i2 kx n i3 h) := by
  intro n
  induction n with
  | zero =>
    intros
    exact r_none
  | succ n ih =>
    intro i3 h
    rw [fX12_goDay_L63]
    refine r_iload_n C dX12_goDay_63 3 rfl ?_
    refine r_aload_n C dX12_goDay_64 0 rfl ?_
    refine r_gi C wf_X12_116_11 dX12_goDay_65 (fun x1 => ?_)
    refine r_icmp_ge (tgt := 119) C dX12_goDay_68 (by decide) ?_ ?_
    · refine r_perm (lv' := [(0, p_rf g o0), (1, p_rf g o1), (2, .int i2)]) [0, 1, 2] rfl ?_
      exact hk h
    · refine r_aload_n C dX12_goDay_71 1 rfl ?_
      refine r_bipush C dX12_goDay_72 k_b32 ?_
      refine r_iload_n C dX12_goDay_74 2 rfl ?_
      refine r_iadd C dX12_goDay_75 ?_
      refine r_iald C dX12_goDay_76 (fun x2 => ?_)
      refine r_iload_n C dX12_goDay_77 3 rfl ?_
      refine r_csi (As := [.int x2, .int i3]) (st := []) C ws_X12_265 (tcX12_has K.2.1 g hg x2 i3 h) (Nat.le_of_ble_eq_true rfl) rfl rfl (Nat.le_of_ble_eq_true rfl) dX12_goDay_78 ⟨Nat.le_of_ble_eq_true rfl, Nat.le_of_ble_eq_true rfl⟩ (fun x3 h4 => ?_)
      refine r_if_eq (tgt := 113) C dX12_goDay_81 (by decide) ?_ ?_
      · exact tX12_goDay_J113_63 hg C o0 o1 i2 i3 ih hk h4
      · refine r_aload_n C dX12_goDay_84 1 rfl ?_
        refine r_bipush C dX12_goDay_85 k_b38 ?_
        refine r_bipush C dX12_goDay_87 k_b8 ?_
        refine r_iload_n C dX12_goDay_89 2 rfl ?_
        refine r_imul C dX12_goDay_90 ?_
        refine r_iadd C dX12_goDay_91 ?_
        refine r_iload_n C dX12_goDay_92 3 rfl ?_
        refine r_iadd C dX12_goDay_93 ?_
        refine r_bipush C dX12_goDay_94 k_b99 ?_
        refine r_aload_n C dX12_goDay_96 1 rfl ?_
        refine r_bipush C dX12_goDay_97 k_b38 ?_
        refine r_bipush C dX12_goDay_99 k_b8 ?_
        refine r_iload_n C dX12_goDay_101 2 rfl ?_
        refine r_imul C dX12_goDay_102 ?_
        refine r_iadd C dX12_goDay_103 ?_
        refine r_iload_n C dX12_goDay_104 3 rfl ?_
        refine r_iadd C dX12_goDay_105 ?_
        refine r_iald C dX12_goDay_106 (fun x5 => ?_)
        refine r_iconst C dX12_goDay_107 k_i1 ?_
        refine r_iadd C dX12_goDay_108 ?_
        refine r_topi (fun x6 => ?_)
        refine r_min C wm_X12_245 (Nat.le_of_ble_eq_true rfl) (Nat.le_of_ble_eq_true rfl) ⟨Nat.le_of_ble_eq_true rfl, Nat.le_of_ble_eq_true rfl⟩ dX12_goDay_109 ?_
        refine r_iast C dX12_goDay_112 (fun h7 => ?_)
        exact tX12_goDay_J113_63 hg C o0 o1 i2 i3 ih hk h7
set_option maxRecDepth 100000 in
set_option maxHeartbeats 4000000 in
theorem tX12_goDay_L53 {K : AC} {g : WG} (hg : p_al g = false)  (C : Cx K g cX12_goDay 4 RX12 none "goDay" 610 0 0) (o0 : Nat) (o1 : Nat) {kx : PH → Option (Unit × PH)} (hk : ∀  (h : PH), VX K g 4 0 0 (a_fin K g 0 0 em_v) 125 [(1, p_rf g o1)] [] h (kx h)) : ∀ (n : Nat) (i2 : Int32) (h : PH), VX K g 4 0 0 (a_fin K g 0 0 em_v) 53 [(0, p_rf g o0), (1, p_rf g o1), (2, .int i2)] [] h (fX12_goDay_L53 o0 o1 kx n i2 h) := by
  intro n
  induction n with
  | zero =>
    intros
    exact r_none
  | succ n ih =>
    intro i2 h
    rw [fX12_goDay_L53]
    refine r_iload_n C dX12_goDay_53 2 rfl ?_
    refine r_aload_n C dX12_goDay_54 0 rfl ?_
    refine r_gi C wf_X12_123_11 dX12_goDay_55 (fun x1 => ?_)
    refine r_icmp_ge (tgt := 125) C dX12_goDay_58 (by decide) ?_ ?_
    · refine r_perm (lv' := [(1, p_rf g o1)]) [1] rfl ?_
      exact hk h
    · refine r_iconst C dX12_goDay_61 k_i0 ?_
      refine r_istore_n (lv9 := [(3, .int (0 : Int32)), (0, p_rf g o0), (1, p_rf g o1), (2, .int i2)]) C dX12_goDay_62 (by decide) rfl ?_
      refine r_perm (lv' := [(0, p_rf g o0), (1, p_rf g o1), (2, .int i2), (3, .int (0 : Int32))]) [1, 2, 3, 0] rfl ?_
      refine tX12_goDay_L63 hg C o0 o1 i2 (fun h2 => ?_) FU (0 : Int32) h
      refine r_iinc (lv' := [(0, p_rf g o0), (1, p_rf g o1)]) C dX12_goDay_119 2 rfl k_i1 (by decide) (fun _ => rfl) (fun x3 => ?_)
      refine r_goto (tgt := 53) C dX12_goDay_122 (by decide) ?_
      refine r_perm (lv' := [(0, p_rf g o0), (1, p_rf g o1), (2, .int x3)]) [1, 2, 0] rfl ?_
      exact ih x3 h2
set_option maxRecDepth 100000 in
set_option maxHeartbeats 4000000 in
theorem tcX12_goDay (l : Launch) (g : WG) (hg : p_al g = false) (o0 : Nat) (o1 : Nat) (h : PH) : CT l g 610 0 0 yX12_goDay cX12_goDay 4 none em_v [p_rf g o0, p_rf g o1] h (fX12_goDay o0 o1 h) := by
  refine CT_of (own := RX12) (nm := "goDay") (by decide +kernel) (Nat.le_of_ble_eq_true rfl) rfl rfl rfl ⟨rfl, rfl⟩ (fun K hK C => ?_)
  subst hK
  unfold fX12_goDay
  show VX K g _ _ _ _ _ [(0, p_rf g o0), (1, p_rf g o1)] _ _ _
  refine r_iconst C dX12_goDay_0 k_i0 ?_
  refine r_istore_n (lv9 := [(2, .int (0 : Int32)), (0, p_rf g o0), (1, p_rf g o1)]) C dX12_goDay_1 (by decide) rfl ?_
  refine r_perm (lv' := [(0, p_rf g o0), (1, p_rf g o1), (2, .int (0 : Int32))]) [1, 2, 0] rfl ?_
  refine tX12_goDay_L2 hg C o0 o1 (fun h1 => ?_) FU (0 : Int32) h
  refine r_iconst C dX12_goDay_51 k_i0 ?_
  refine r_istore_n (lv9 := [(2, .int (0 : Int32)), (0, p_rf g o0), (1, p_rf g o1)]) C dX12_goDay_52 (by decide) rfl ?_
  refine r_perm (lv' := [(0, p_rf g o0), (1, p_rf g o1), (2, .int (0 : Int32))]) [1, 2, 0] rfl ?_
  refine tX12_goDay_L53 hg C o0 o1 (fun h2 => ?_) FU (0 : Int32) h1
  refine r_aload_n C dX12_goDay_125 0 rfl ?_
  refine r_bipush C dX12_goDay_126 k_b86 ?_
  refine r_dup2 C dX12_goDay_128 rfl rfl ?_
  refine r_iald C dX12_goDay_129 (fun x3 => ?_)
  refine r_iconst C dX12_goDay_130 k_i1 ?_
  refine r_iadd C dX12_goDay_131 ?_
  refine r_iast C dX12_goDay_132 (fun h4 => ?_)
  exact r_vret C dX12_goDay_133
set_option maxRecDepth 100000 in
set_option maxHeartbeats 4000000 in
theorem tX12_goDays_L7 {K : AC} {g : WG} (hg : p_al g = false)  (C : Cx K g cX12_goDays 4 RX12 none "goDays" 611 0 0) (o0 : Nat) (o1 : Nat) (i2 : Int32) {kx : PH → Option (Unit × PH)} (hk : ∀  (h : PH), VX K g 4 0 0 (a_fin K g 0 0 em_v) 23 [] [] h (kx h)) : ∀ (n : Nat) (i3 : Int32) (h : PH), VX K g 4 0 0 (a_fin K g 0 0 em_v) 7 [(0, p_rf g o0), (1, p_rf g o1), (2, .int i2), (3, .int i3)] [] h (fX12_goDays_L7 o0 o1 i2 kx n i3 h) := by
  intro n
  induction n with
  | zero =>
    intros
    exact r_none
  | succ n ih =>
    intro i3 h
    rw [fX12_goDays_L7]
    refine r_iload_n C dX12_goDays_7 3 rfl ?_
    refine r_iload_n C dX12_goDays_8 2 rfl ?_
    refine r_icmp_ge (tgt := 23) C dX12_goDays_9 (by decide) ?_ ?_
    · refine r_perm (lv' := []) [] rfl ?_
      exact hk h
    · refine r_aload_n C dX12_goDays_12 0 rfl ?_
      refine r_aload_n C dX12_goDays_13 1 rfl ?_
      refine r_cvv (As := [p_rf g o1]) (st := []) C wv_X12_319 (tcX12_goDay K.2.1 g hg o0 o1 h) (Nat.le_of_ble_eq_true rfl) rfl rfl (Nat.le_of_ble_eq_true rfl) dX12_goDays_14 ⟨Nat.le_of_ble_eq_true rfl, Nat.le_of_ble_eq_true rfl⟩ (fun h1 => ?_)
      refine r_iinc (lv' := [(0, p_rf g o0), (1, p_rf g o1), (2, .int i2)]) C dX12_goDays_17 3 rfl k_i1 (by decide) (fun _ => rfl) (fun x2 => ?_)
      refine r_goto (tgt := 7) C dX12_goDays_20 (by decide) ?_
      refine r_perm (lv' := [(0, p_rf g o0), (1, p_rf g o1), (2, .int i2), (3, .int x2)]) [1, 2, 3, 0] rfl ?_
      exact ih x2 h1
set_option maxRecDepth 100000 in
set_option maxHeartbeats 4000000 in
theorem tcX12_goDays (l : Launch) (g : WG) (hg : p_al g = false) (o0 : Nat) (o1 : Nat) (i2 : Int32) (h : PH) : CT l g 611 0 0 yX12_goDays cX12_goDays 4 none em_v [p_rf g o0, p_rf g o1, .int i2] h (fX12_goDays o0 o1 i2 h) := by
  refine CT_of (own := RX12) (nm := "goDays") (by decide +kernel) (Nat.le_of_ble_eq_true rfl) rfl rfl rfl ⟨rfl, rfl⟩ (fun K hK C => ?_)
  subst hK
  unfold fX12_goDays
  show VX K g _ _ _ _ _ [(0, p_rf g o0), (1, p_rf g o1), (2, .int i2)] _ _ _
  refine r_aload_n C dX12_goDays_0 0 rfl ?_
  refine r_iconst C dX12_goDays_1 k_i0 ?_
  refine r_pi C wf_X12_316_11 dX12_goDays_2 (fun h1 => ?_)
  refine r_iconst C dX12_goDays_5 k_i0 ?_
  refine r_istore_n (lv9 := [(3, .int (0 : Int32)), (0, p_rf g o0), (1, p_rf g o1), (2, .int i2)]) C dX12_goDays_6 (by decide) rfl ?_
  refine r_perm (lv' := [(0, p_rf g o0), (1, p_rf g o1), (2, .int i2), (3, .int (0 : Int32))]) [1, 2, 3, 0] rfl ?_
  refine tX12_goDays_L7 hg C o0 o1 i2 (fun h2 => ?_) FU (0 : Int32) h1
  exact r_vret C dX12_goDays_23
set_option maxRecDepth 100000 in
set_option maxHeartbeats 4000000 in
theorem tX12_days_J29 {K : AC} {g : WG} (hg : p_al g = false)  (C : Cx K g cX12_days 2 RX12 (some .int) "days" 612 0 0) (o0 : Nat) (i1 : Int32)  (h : PH) : VX K g 2 0 0 (a_fin K g 0 0 em_i) 29 [(0, p_rf g o0), (1, .int i1)] [] h (fX12_days_J29 o0 i1 h) := by
  unfold fX12_days_J29
  refine r_aload_n C dX12_days_29 0 rfl ?_
  refine r_aload_n C dX12_days_30 0 rfl ?_
  refine r_gr C wf_X12_9_11 dX12_days_31 (fun q1 => ?_)
  refine r_iload_n C dX12_days_34 1 rfl ?_
  refine r_cvv (As := [p_rf g q1, .int i1]) (st := []) C wv_X12_322 (tcX12_goDays K.2.1 g hg o0 q1 i1 h) (Nat.le_of_ble_eq_true rfl) rfl rfl (Nat.le_of_ble_eq_true rfl) dX12_days_35 ⟨Nat.le_of_ble_eq_true rfl, Nat.le_of_ble_eq_true rfl⟩ (fun h2 => ?_)
  refine r_aload_n C dX12_days_38 0 rfl ?_
  refine r_iconst C dX12_days_39 k_i0 ?_
  refine r_pi C wf_X12_113_11 dX12_days_40 (fun h3 => ?_)
  refine r_aload_n C dX12_days_43 0 rfl ?_
  refine r_aload_n C dX12_days_44 0 rfl ?_
  refine r_aload_n C dX12_days_45 0 rfl ?_
  refine r_gr C wf_X12_9_11 dX12_days_46 (fun q4 => ?_)
  refine r_cvi (As := [p_rf g q4]) (st := [p_rf g o0]) C wv_X12_325 (tcX12_humoursOfAll K.2.1 g hg o0 q4 h3) (Nat.le_of_ble_eq_true rfl) rfl rfl (Nat.le_of_ble_eq_true rfl) dX12_days_49 ⟨Nat.le_of_ble_eq_true rfl, Nat.le_of_ble_eq_true rfl⟩ (fun x5 h6 => ?_)
  refine r_i2l C dX12_days_52 ?_
  refine r_cvv (As := [.long (x5.toInt64)]) (st := []) C wv_X12_329 (tcX12_tell K.2.1 g hg o0 (x5.toInt64) h6) (Nat.le_of_ble_eq_true rfl) rfl rfl (Nat.le_of_ble_eq_true rfl) dX12_days_53 ⟨Nat.le_of_ble_eq_true rfl, Nat.le_of_ble_eq_true rfl⟩ (fun h7 => ?_)
  refine r_aload_n C dX12_days_56 0 rfl ?_
  refine r_aload_n C dX12_days_57 0 rfl ?_
  refine r_gi C wf_X12_316_11 dX12_days_58 (fun x8 => ?_)
  refine r_i2l C dX12_days_61 ?_
  refine r_cvv (As := [.long (x8.toInt64)]) (st := []) C wv_X12_329 (tcX12_tell K.2.1 g hg o0 (x8.toInt64) h7) (Nat.le_of_ble_eq_true rfl) rfl rfl (Nat.le_of_ble_eq_true rfl) dX12_days_62 ⟨Nat.le_of_ble_eq_true rfl, Nat.le_of_ble_eq_true rfl⟩ (fun h9 => ?_)
  refine r_aload_n C dX12_days_65 0 rfl ?_
  refine r_aload_n C dX12_days_66 0 rfl ?_
  refine r_gr C wf_X12_9_11 dX12_days_67 (fun q10 => ?_)
  refine r_cvi (As := [p_rf g q10]) (st := []) C wv_X12_333 (tcX12_hadByAll K.2.1 g hg o0 q10 h9) (Nat.le_of_ble_eq_true rfl) rfl rfl (Nat.le_of_ble_eq_true rfl) dX12_days_70 ⟨Nat.le_of_ble_eq_true rfl, Nat.le_of_ble_eq_true rfl⟩ (fun x11 h12 => ?_)
  exact r_iret C dX12_days_73
set_option maxRecDepth 100000 in
set_option maxHeartbeats 4000000 in
theorem tcX12_days (l : Launch) (g : WG) (hg : p_al g = false) (o0 : Nat) (i1 : Int32) (h : PH) : CT l g 612 0 0 yX12_days cX12_days 2 (some .int) em_i [p_rf g o0, .int i1] h (fX12_days o0 i1 h) := by
  refine CT_of (own := RX12) (nm := "days") (by decide +kernel) (Nat.le_of_ble_eq_true rfl) rfl rfl rfl ⟨rfl, rfl⟩ (fun K hK C => ?_)
  subst hK
  unfold fX12_days
  show VX K g _ _ _ _ _ [(0, p_rf g o0), (1, .int i1)] _ _ _
  refine r_aload_n C dX12_days_0 0 rfl ?_
  refine r_iconst C dX12_days_1 k_i0 ?_
  refine r_pi C wf_X12_109_11 dX12_days_2 (fun h1 => ?_)
  refine r_iload_n C dX12_days_5 1 rfl ?_
  refine r_iconst C dX12_days_6 k_i0 ?_
  refine r_bipush C dX12_days_7 k_b60 ?_
  refine r_csi (As := [.int i1, .int (0 : Int32), .int (60 : Int32)]) (st := []) C ws_X12_119 (tcX12_in K.2.1 g hg i1 (0 : Int32) (60 : Int32) h1) (Nat.le_of_ble_eq_true rfl) rfl rfl (Nat.le_of_ble_eq_true rfl) dX12_days_9 ⟨Nat.le_of_ble_eq_true rfl, Nat.le_of_ble_eq_true rfl⟩ (fun x2 h3 => ?_)
  refine r_if_ne (tgt := 17) C dX12_days_12 (by decide) ?_ ?_
  · refine r_iload_n C dX12_days_17 1 rfl ?_
    refine r_if_le (tgt := 29) C dX12_days_18 (by decide) ?_ ?_
    · exact tX12_days_J29 hg C o0 i1 h3
    · refine r_aload_n C dX12_days_21 0 rfl ?_
      refine r_aload_n C dX12_days_22 0 rfl ?_
      refine r_gr C wf_X12_9_11 dX12_days_23 (fun q4 => ?_)
      refine r_cvv (As := [p_rf g q4]) (st := []) C wv_X12_295 (tcX12_remember K.2.1 g hg o0 q4 h3) (Nat.le_of_ble_eq_true rfl) rfl rfl (Nat.le_of_ble_eq_true rfl) dX12_days_26 ⟨Nat.le_of_ble_eq_true rfl, Nat.le_of_ble_eq_true rfl⟩ (fun h5 => ?_)
      exact tX12_days_J29 hg C o0 i1 h5
  · refine r_iconst C dX12_days_15 k_im1 ?_
    exact r_iret C dX12_days_16
set_option maxRecDepth 100000 in
set_option maxHeartbeats 4000000 in
theorem tX12_readAct_J107 {K : AC} {g : WG} (hg : p_al g = false)  (C : Cx K g cX12_readAct 3 RX12 none "readAct" 4 0 0) (o0 : Nat) (i1 : Int32)  (h : PH) : VX K g 3 0 0 (a_fin K g 0 0 em_v) 107 [(0, p_rf g o0), (1, .int i1)] [] h (fX12_readAct_J107 o0 i1 h) := by
  unfold fX12_readAct_J107
  refine r_aload_n C dX12_readAct_107 0 rfl ?_
  refine r_gr C wf_X12_63_11 dX12_readAct_108 (fun q1 => ?_)
  refine r_iload_n C dX12_readAct_111 1 rfl ?_
  refine r_iconst C dX12_readAct_112 k_i2 ?_
  refine r_iadd C dX12_readAct_113 ?_
  refine r_aload_n C dX12_readAct_114 0 rfl ?_
  refine r_bipush C dX12_readAct_115 k_b48 ?_
  refine r_bipush C dX12_readAct_117 k_b10 ?_
  refine r_cvi (As := [.int (48 : Int32), .int (10 : Int32)]) (st := [.int (i1 + (2 : Int32)), p_rf g q1]) C wv_X12_167 (tcX12_oneOf K.2.1 g hg o0 (48 : Int32) (10 : Int32) h) (Nat.le_of_ble_eq_true rfl) rfl rfl (Nat.le_of_ble_eq_true rfl) dX12_readAct_119 ⟨Nat.le_of_ble_eq_true rfl, Nat.le_of_ble_eq_true rfl⟩ (fun x2 h3 => ?_)
  refine r_iast C dX12_readAct_122 (fun h4 => ?_)
  exact r_vret C dX12_readAct_123
set_option maxRecDepth 100000 in
set_option maxHeartbeats 4000000 in
theorem tX12_readAct_J95 {K : AC} {g : WG} (hg : p_al g = false)  (C : Cx K g cX12_readAct 3 RX12 none "readAct" 4 0 0) (o0 : Nat) (i1 : Int32) (i2 : Int32)  (h : PH) : VX K g 3 0 0 (a_fin K g 0 0 em_v) 95 [(0, p_rf g o0), (1, .int i1), (2, .int i2)] [] h (fX12_readAct_J95 o0 i1 i2 h) := by
  unfold fX12_readAct_J95
  refine r_iload_n C dX12_readAct_95 2 rfl ?_
  refine r_bipush C dX12_readAct_96 k_b103 ?_
  refine r_icmp_eq (tgt := 107) C dX12_readAct_98 (by decide) ?_ ?_
  · refine r_perm (lv' := [(0, p_rf g o0), (1, .int i1)]) [0, 1] rfl ?_
    exact tX12_readAct_J107 hg C o0 i1 h
  · refine r_iload_n C dX12_readAct_101 2 rfl ?_
    refine r_bipush C dX12_readAct_102 k_b116 ?_
    refine r_icmp_ne (tgt := 123) C dX12_readAct_104 (by decide) ?_ ?_
    · exact r_vret C dX12_readAct_123
    · refine r_perm (lv' := [(0, p_rf g o0), (1, .int i1)]) [0, 1] rfl ?_
      exact tX12_readAct_J107 hg C o0 i1 h
set_option maxRecDepth 100000 in
set_option maxHeartbeats 4000000 in
theorem tX12_readAct_J38 {K : AC} {g : WG} (hg : p_al g = false)  (C : Cx K g cX12_readAct 3 RX12 none "readAct" 4 0 0) (o0 : Nat) (i1 : Int32) (i2 : Int32)  (h : PH) : VX K g 3 0 0 (a_fin K g 0 0 em_v) 38 [(0, p_rf g o0), (1, .int i1), (2, .int i2)] [] h (fX12_readAct_J38 o0 i1 i2 h) := by
  unfold fX12_readAct_J38
  refine r_aload_n C dX12_readAct_38 0 rfl ?_
  refine r_dup C dX12_readAct_39 rfl ?_
  refine r_gi C wf_X12_141_11 dX12_readAct_40 (fun x1 => ?_)
  refine r_iconst C dX12_readAct_43 k_i1 ?_
  refine r_iadd C dX12_readAct_44 ?_
  refine r_pi C wf_X12_141_11 dX12_readAct_45 (fun h2 => ?_)
  refine r_aload_n C dX12_readAct_48 0 rfl ?_
  refine r_gr C wf_X12_63_11 dX12_readAct_49 (fun q3 => ?_)
  refine r_iload_n C dX12_readAct_52 1 rfl ?_
  refine r_iload_n C dX12_readAct_53 2 rfl ?_
  refine r_iast C dX12_readAct_54 (fun h4 => ?_)
  refine r_aload_n C dX12_readAct_55 0 rfl ?_
  refine r_gr C wf_X12_63_11 dX12_readAct_56 (fun q5 => ?_)
  refine r_iload_n C dX12_readAct_59 1 rfl ?_
  refine r_iconst C dX12_readAct_60 k_i1 ?_
  refine r_iadd C dX12_readAct_61 ?_
  refine r_aload_n C dX12_readAct_62 0 rfl ?_
  refine r_bipush C dX12_readAct_63 k_b48 ?_
  refine r_bipush C dX12_readAct_65 k_b10 ?_
  refine r_cvi (As := [.int (48 : Int32), .int (10 : Int32)]) (st := [.int (i1 + (1 : Int32)), p_rf g q5]) C wv_X12_167 (tcX12_oneOf K.2.1 g hg o0 (48 : Int32) (10 : Int32) h4) (Nat.le_of_ble_eq_true rfl) rfl rfl (Nat.le_of_ble_eq_true rfl) dX12_readAct_67 ⟨Nat.le_of_ble_eq_true rfl, Nat.le_of_ble_eq_true rfl⟩ (fun x6 h7 => ?_)
  refine r_iast C dX12_readAct_70 (fun h8 => ?_)
  refine r_iload_n C dX12_readAct_71 2 rfl ?_
  refine r_bipush C dX12_readAct_72 k_b109 ?_
  refine r_icmp_ne (tgt := 95) C dX12_readAct_74 (by decide) ?_ ?_
  · exact tX12_readAct_J95 hg C o0 i1 i2 h8
  · refine r_aload_n C dX12_readAct_77 0 rfl ?_
    refine r_gr C wf_X12_63_11 dX12_readAct_78 (fun q9 => ?_)
    refine r_iload_n C dX12_readAct_81 1 rfl ?_
    refine r_iconst C dX12_readAct_82 k_i2 ?_
    refine r_iadd C dX12_readAct_83 ?_
    refine r_aload_n C dX12_readAct_84 0 rfl ?_
    refine r_bipush C dX12_readAct_85 k_b49 ?_
    refine r_bipush C dX12_readAct_87 k_b9 ?_
    refine r_cvi (As := [.int (49 : Int32), .int (9 : Int32)]) (st := [.int (i1 + (2 : Int32)), p_rf g q9]) C wv_X12_167 (tcX12_oneOf K.2.1 g hg o0 (49 : Int32) (9 : Int32) h8) (Nat.le_of_ble_eq_true rfl) rfl rfl (Nat.le_of_ble_eq_true rfl) dX12_readAct_89 ⟨Nat.le_of_ble_eq_true rfl, Nat.le_of_ble_eq_true rfl⟩ (fun x10 h11 => ?_)
    refine r_iconst C dX12_readAct_92 k_i1 ?_
    refine r_iadd C dX12_readAct_93 ?_
    refine r_iast C dX12_readAct_94 (fun h12 => ?_)
    exact tX12_readAct_J95 hg C o0 i1 i2 h12
set_option maxRecDepth 100000 in
set_option maxHeartbeats 4000000 in
theorem tcX12_readAct (l : Launch) (g : WG) (hg : p_al g = false) (o0 : Nat) (i1 : Int32) (h : PH) : CT l g 4 0 0 yX12_readAct cX12_readAct 3 none em_v [p_rf g o0, .int i1] h (fX12_readAct o0 i1 h) := by
  refine CT_of (own := RX12) (nm := "readAct") (by decide +kernel) (Nat.le_of_ble_eq_true rfl) rfl rfl rfl ⟨rfl, rfl⟩ (fun K hK C => ?_)
  subst hK
  unfold fX12_readAct
  show VX K g _ _ _ _ _ [(0, p_rf g o0), (1, .int i1)] _ _ _
  refine r_aload_n C dX12_readAct_0 0 rfl ?_
  refine r_cvi (As := []) (st := []) C wv_X12_155 (tcX12_here K.2.1 g hg o0 h) (Nat.le_of_ble_eq_true rfl) rfl rfl (Nat.le_of_ble_eq_true rfl) dX12_readAct_1 ⟨Nat.le_of_ble_eq_true rfl, Nat.le_of_ble_eq_true rfl⟩ (fun x1 h2 => ?_)
  refine r_istore_n (lv9 := [(2, .int x1), (0, p_rf g o0), (1, .int i1)]) C dX12_readAct_4 (by decide) rfl ?_
  refine r_iload_n C dX12_readAct_5 0 rfl ?_
  refine r_bipush C dX12_readAct_6 k_b103 ?_
  refine r_icmp_eq (tgt := 38) C dX12_readAct_8 (by decide) ?_ ?_
  · refine r_perm (lv' := [(0, p_rf g o0), (1, .int i1), (2, .int x1)]) [1, 2, 0] rfl ?_
    exact tX12_readAct_J38 hg C o0 i1 x1 h2
  · refine r_iload_n C dX12_readAct_11 0 rfl ?_
    refine r_bipush C dX12_readAct_12 k_b116 ?_
    refine r_icmp_eq (tgt := 38) C dX12_readAct_14 (by decide) ?_ ?_
    · refine r_perm (lv' := [(0, p_rf g o0), (1, .int i1), (2, .int x1)]) [1, 2, 0] rfl ?_
      exact tX12_readAct_J38 hg C o0 i1 x1 h2
    · refine r_iload_n C dX12_readAct_17 0 rfl ?_
      refine r_bipush C dX12_readAct_18 k_b109 ?_
      refine r_icmp_eq (tgt := 38) C dX12_readAct_20 (by decide) ?_ ?_
      · refine r_perm (lv' := [(0, p_rf g o0), (1, .int i1), (2, .int x1)]) [1, 2, 0] rfl ?_
        exact tX12_readAct_J38 hg C o0 i1 x1 h2
      · refine r_iload_n C dX12_readAct_23 0 rfl ?_
        refine r_bipush C dX12_readAct_24 k_b100 ?_
        refine r_icmp_eq (tgt := 38) C dX12_readAct_26 (by decide) ?_ ?_
        · refine r_perm (lv' := [(0, p_rf g o0), (1, .int i1), (2, .int x1)]) [1, 2, 0] rfl ?_
          exact tX12_readAct_J38 hg C o0 i1 x1 h2
        · refine r_aload_n C dX12_readAct_29 1 rfl ?_
          refine r_aload_n C dX12_readAct_30 1 rfl ?_
          refine r_gi C wf_X12_141_11 dX12_readAct_31 (fun x3 => ?_)
          refine r_cvv (As := [.int x3]) (st := []) C wv_X12_163 (tcX12_fault K.2.1 g hg o0 x3 h2) (Nat.le_of_ble_eq_true rfl) rfl rfl (Nat.le_of_ble_eq_true rfl) dX12_readAct_34 ⟨Nat.le_of_ble_eq_true rfl, Nat.le_of_ble_eq_true rfl⟩ (fun h4 => ?_)
          exact r_vret C dX12_readAct_37
set_option maxRecDepth 100000 in
set_option maxHeartbeats 4000000 in
theorem tcX12_act (l : Launch) (g : WG) (hg : p_al g = false) (o0 : Nat) (i1 : Int32) (i2 : Int32) (i3 : Int32) (h : PH) : CT l g 612 0 0 yX12_act cX12_act 4 (some .boolean) em_i [p_rf g o0, .int i1, .int i2, .int i3] h (fX12_act o0 i1 i2 i3 h) := by
  refine CT_of (own := RX12) (nm := "act") (by decide +kernel) (Nat.le_of_ble_eq_true rfl) rfl rfl rfl ⟨rfl, rfl⟩ (fun K hK C => ?_)
  subst hK
  unfold fX12_act
  show VX K g _ _ _ _ _ [(0, p_rf g o0), (1, .int i1), (2, .int i2), (3, .int i3)] _ _ _
  refine r_iload_n C dX12_act_0 1 rfl ?_
  refine r_ite (fun e => ?_) (fun q1_0 => ?_)
  · subst e
    refine r_lks (off := 35) (tgt := 36) C dX12_act_1 rfl (by decide) (by decide) ?_
    refine r_aload_n C dX12_act_36 0 rfl ?_
    refine r_aload_n C dX12_act_37 0 rfl ?_
    refine r_gr C wf_X12_9_11 dX12_act_38 (fun q6 => ?_)
    refine r_iload_n C dX12_act_41 2 rfl ?_
    refine r_iload_n C dX12_act_42 3 rfl ?_
    refine r_cvi (As := [p_rf g q6, .int i2, .int i3]) (st := []) C wv_X12_292 (tcX12_refusesGift K.2.1 g hg o0 q6 i2 i3 h) (Nat.le_of_ble_eq_true rfl) rfl rfl (Nat.le_of_ble_eq_true rfl) dX12_act_43 ⟨Nat.le_of_ble_eq_true rfl, Nat.le_of_ble_eq_true rfl⟩ (fun x7 h8 => ?_)
    refine r_if_ge (tgt := 51) C dX12_act_46 (by decide) ?_ ?_
    · refine r_aload_n C dX12_act_51 0 rfl ?_
      refine r_gr C wf_X12_9_11 dX12_act_52 (fun q9 => ?_)
      refine r_iload_n C dX12_act_55 2 rfl ?_
      refine r_iload_n C dX12_act_56 3 rfl ?_
      refine r_csv (As := [p_rf g q9, .int i2, .int i3]) (st := []) C ws_X12_299 (tcX12_goGift K.2.1 g hg q9 i2 i3 h8) (Nat.le_of_ble_eq_true rfl) rfl rfl (Nat.le_of_ble_eq_true rfl) dX12_act_57 ⟨Nat.le_of_ble_eq_true rfl, Nat.le_of_ble_eq_true rfl⟩ (fun h10 => ?_)
      refine r_iconst C dX12_act_60 k_i1 ?_
      exact r_zret C dX12_act_61
    · refine r_iconst C dX12_act_49 k_i0 ?_
      exact r_zret C dX12_act_50
  refine r_ite (fun e => ?_) (fun q1_1 => ?_)
  · subst e
    refine r_lks (off := 87) (tgt := 88) C dX12_act_1 rfl (by decide) (by decide) ?_
    refine r_aload_n C dX12_act_88 0 rfl ?_
    refine r_iload_n C dX12_act_89 2 rfl ?_
    refine r_cvi (As := [.int i2]) (st := []) C wv_X12_269 (tcX12_isGround K.2.1 g hg o0 i2 h) (Nat.le_of_ble_eq_true rfl) rfl rfl (Nat.le_of_ble_eq_true rfl) dX12_act_90 ⟨Nat.le_of_ble_eq_true rfl, Nat.le_of_ble_eq_true rfl⟩ (fun x18 h19 => ?_)
    refine r_if_ne (tgt := 98) C dX12_act_93 (by decide) ?_ ?_
    · refine r_aload_n C dX12_act_98 0 rfl ?_
      refine r_gr C wf_X12_9_11 dX12_act_99 (fun q20 => ?_)
      refine r_iload_n C dX12_act_102 2 rfl ?_
      refine r_bipush C dX12_act_103 k_b99 ?_
      refine r_aload_n C dX12_act_105 0 rfl ?_
      refine r_gr C wf_X12_9_11 dX12_act_106 (fun q21 => ?_)
      refine r_iload_n C dX12_act_109 2 rfl ?_
      refine r_iald C dX12_act_110 (fun x22 => ?_)
      refine r_iload_n C dX12_act_111 3 rfl ?_
      refine r_iadd C dX12_act_112 ?_
      refine r_topi (fun x23 => ?_)
      refine r_min C wm_X12_245 (Nat.le_of_ble_eq_true rfl) (Nat.le_of_ble_eq_true rfl) ⟨Nat.le_of_ble_eq_true rfl, Nat.le_of_ble_eq_true rfl⟩ dX12_act_113 ?_
      refine r_iast C dX12_act_116 (fun h24 => ?_)
      refine r_iconst C dX12_act_117 k_i1 ?_
      exact r_zret C dX12_act_118
    · refine r_iconst C dX12_act_96 k_i0 ?_
      exact r_zret C dX12_act_97
  refine r_ite (fun e => ?_) (fun q1_2 => ?_)
  · subst e
    refine r_lks (off := 61) (tgt := 62) C dX12_act_1 rfl (by decide) (by decide) ?_
    refine r_aload_n C dX12_act_62 0 rfl ?_
    refine r_aload_n C dX12_act_63 0 rfl ?_
    refine r_gr C wf_X12_9_11 dX12_act_64 (fun q30 => ?_)
    refine r_iload_n C dX12_act_67 2 rfl ?_
    refine r_iload_n C dX12_act_68 3 rfl ?_
    refine r_cvi (As := [p_rf g q30, .int i2, .int i3]) (st := []) C wv_X12_302 (tcX12_refusesBack K.2.1 g hg o0 q30 i2 i3 h) (Nat.le_of_ble_eq_true rfl) rfl rfl (Nat.le_of_ble_eq_true rfl) dX12_act_69 ⟨Nat.le_of_ble_eq_true rfl, Nat.le_of_ble_eq_true rfl⟩ (fun x31 h32 => ?_)
    refine r_if_ge (tgt := 77) C dX12_act_72 (by decide) ?_ ?_
    · refine r_aload_n C dX12_act_77 0 rfl ?_
      refine r_gr C wf_X12_9_11 dX12_act_78 (fun q33 => ?_)
      refine r_iload_n C dX12_act_81 2 rfl ?_
      refine r_iload_n C dX12_act_82 3 rfl ?_
      refine r_csv (As := [p_rf g q33, .int i2, .int i3]) (st := []) C ws_X12_305 (tcX12_goBack K.2.1 g hg q33 i2 i3 h32) (Nat.le_of_ble_eq_true rfl) rfl rfl (Nat.le_of_ble_eq_true rfl) dX12_act_83 ⟨Nat.le_of_ble_eq_true rfl, Nat.le_of_ble_eq_true rfl⟩ (fun h34 => ?_)
      refine r_iconst C dX12_act_86 k_i1 ?_
      exact r_zret C dX12_act_87
    · refine r_iconst C dX12_act_75 k_i0 ?_
      exact r_zret C dX12_act_76
  refine r_lkd (tgt := 119) C dX12_act_1 rfl (And.intro (lk_ne (by decide) q1_0) (And.intro (lk_ne (by decide) q1_1) (And.intro (lk_ne (by decide) q1_2) (trivial)))) (by decide) ?_
  refine r_aload_n C dX12_act_119 0 rfl ?_
  refine r_aload_n C dX12_act_120 0 rfl ?_
  refine r_gr C wf_X12_9_11 dX12_act_121 (fun q35 => ?_)
  refine r_iload_n C dX12_act_124 2 rfl ?_
  refine r_cvv (As := [p_rf g q35, .int i2]) (st := []) C wv_X12_322 (tcX12_goDays K.2.1 g hg o0 q35 i2 h) (Nat.le_of_ble_eq_true rfl) rfl rfl (Nat.le_of_ble_eq_true rfl) dX12_act_125 ⟨Nat.le_of_ble_eq_true rfl, Nat.le_of_ble_eq_true rfl⟩ (fun h36 => ?_)
  refine r_iconst C dX12_act_128 k_i1 ?_
  exact r_zret C dX12_act_129
set_option maxRecDepth 100000 in
set_option maxHeartbeats 4000000 in
theorem tX12_year_L13 {K : AC} {g : WG} (hg : p_al g = false)  (C : Cx K g cX12_year 3 RX12 (some .int) "year" 613 0 0) (o0 : Nat) {kx : Int32 → PH → Option (Int32 × PH)} (hk : ∀ (i1 : Int32) (h : PH), VX K g 3 0 0 (a_fin K g 0 0 em_i) 44 [(0, p_rf g o0), (1, .int i1)] [] h (kx i1 h)) : ∀ (n : Nat) (i1 : Int32) (h : PH), VX K g 3 0 0 (a_fin K g 0 0 em_i) 13 [(0, p_rf g o0), (1, .int i1)] [] h (fX12_year_L13 o0 kx n i1 h) := by
  intro n
  induction n with
  | zero =>
    intros
    exact r_none
  | succ n ih =>
    intro i1 h
    rw [fX12_year_L13]
    refine r_aload_n C dX12_year_13 0 rfl ?_
    refine r_cvi (As := []) (st := []) C wv_X12_151 (tcX12_fine K.2.1 g hg o0 h) (Nat.le_of_ble_eq_true rfl) rfl rfl (Nat.le_of_ble_eq_true rfl) dX12_year_14 ⟨Nat.le_of_ble_eq_true rfl, Nat.le_of_ble_eq_true rfl⟩ (fun x1 h2 => ?_)
    refine r_if_eq (tgt := 44) C dX12_year_17 (by decide) ?_ ?_
    · exact hk i1 h2
    · refine r_aload_n C dX12_year_20 0 rfl ?_
      refine r_gi C wf_X12_141_11 dX12_year_21 (fun x3 => ?_)
      refine r_aload_n C dX12_year_24 0 rfl ?_
      refine r_gi C wf_X12_135_11 dX12_year_25 (fun x4 => ?_)
      refine r_icmp_ge (tgt := 44) C dX12_year_28 (by decide) ?_ ?_
      · exact hk i1 h2
      · refine r_aload_n C dX12_year_31 0 rfl ?_
        refine r_iconst C dX12_year_32 k_i3 ?_
        refine r_iload_n C dX12_year_33 1 rfl ?_
        refine r_imul C dX12_year_34 ?_
        refine r_cvv (As := [.int ((3 : Int32) * i1)]) (st := []) C wv_X12_336 (tcX12_readAct K.2.1 g hg o0 ((3 : Int32) * i1) h2) (Nat.le_of_ble_eq_true rfl) rfl rfl (Nat.le_of_ble_eq_true rfl) dX12_year_35 ⟨Nat.le_of_ble_eq_true rfl, Nat.le_of_ble_eq_true rfl⟩ (fun h5 => ?_)
        refine r_iinc (lv' := [(0, p_rf g o0)]) C dX12_year_38 1 rfl k_i1 (by decide) (fun _ => rfl) (fun x6 => ?_)
        refine r_goto (tgt := 13) C dX12_year_41 (by decide) ?_
        refine r_perm (lv' := [(0, p_rf g o0), (1, .int x6)]) [1, 0] rfl ?_
        exact ih x6 h5
set_option maxRecDepth 100000 in
set_option maxHeartbeats 4000000 in
theorem tX12_year_L72 {K : AC} {g : WG} (hg : p_al g = false)  (C : Cx K g cX12_year 3 RX12 (some .int) "year" 613 0 0) (o0 : Nat) (i1 : Int32) {kx : Int32 → PH → Option (Int32 × PH)} (hk : ∀ (i2 : Int32) (h : PH), VX K g 3 0 0 (a_fin K g 0 0 em_i) 118 [(0, p_rf g o0), (1, .int i1), (2, .int i2)] [] h (kx i2 h)) : ∀ (n : Nat) (i2 : Int32) (h : PH), VX K g 3 0 0 (a_fin K g 0 0 em_i) 72 [(0, p_rf g o0), (1, .int i1), (2, .int i2)] [] h (fX12_year_L72 o0 i1 kx n i2 h) := by
  intro n
  induction n with
  | zero =>
    intros
    exact r_none
  | succ n ih =>
    intro i2 h
    rw [fX12_year_L72]
    refine r_iload_n C dX12_year_72 2 rfl ?_
    refine r_iload_n C dX12_year_73 1 rfl ?_
    refine r_icmp_ge (tgt := 118) C dX12_year_74 (by decide) ?_ ?_
    · exact hk i2 h
    · refine r_aload_n C dX12_year_77 0 rfl ?_
      refine r_aload_n C dX12_year_78 0 rfl ?_
      refine r_gr C wf_X12_63_11 dX12_year_79 (fun q1 => ?_)
      refine r_iconst C dX12_year_82 k_i3 ?_
      refine r_iload_n C dX12_year_83 2 rfl ?_
      refine r_imul C dX12_year_84 ?_
      refine r_iald C dX12_year_85 (fun x2 => ?_)
      refine r_aload_n C dX12_year_86 0 rfl ?_
      refine r_gr C wf_X12_63_11 dX12_year_87 (fun q3 => ?_)
      refine r_iconst C dX12_year_90 k_i3 ?_
      refine r_iload_n C dX12_year_91 2 rfl ?_
      refine r_imul C dX12_year_92 ?_
      refine r_iconst C dX12_year_93 k_i1 ?_
      refine r_iadd C dX12_year_94 ?_
      refine r_iald C dX12_year_95 (fun x4 => ?_)
      refine r_aload_n C dX12_year_96 0 rfl ?_
      refine r_gr C wf_X12_63_11 dX12_year_97 (fun q5 => ?_)
      refine r_iconst C dX12_year_100 k_i3 ?_
      refine r_iload_n C dX12_year_101 2 rfl ?_
      refine r_imul C dX12_year_102 ?_
      refine r_iconst C dX12_year_103 k_i2 ?_
      refine r_iadd C dX12_year_104 ?_
      refine r_iald C dX12_year_105 (fun x6 => ?_)
      refine r_cvi (As := [.int x2, .int x4, .int x6]) (st := []) C wv_X12_339 (tcX12_act K.2.1 g hg o0 x2 x4 x6 h) (Nat.le_of_ble_eq_true rfl) rfl rfl (Nat.le_of_ble_eq_true rfl) dX12_year_106 ⟨Nat.le_of_ble_eq_true rfl, Nat.le_of_ble_eq_true rfl⟩ (fun x7 h8 => ?_)
      refine r_if_eq (tgt := 118) C dX12_year_109 (by decide) ?_ ?_
      · exact hk i2 h8
      · refine r_iinc (lv' := [(0, p_rf g o0), (1, .int i1)]) C dX12_year_112 2 rfl k_i1 (by decide) (fun _ => rfl) (fun x9 => ?_)
        refine r_goto (tgt := 72) C dX12_year_115 (by decide) ?_
        refine r_perm (lv' := [(0, p_rf g o0), (1, .int i1), (2, .int x9)]) [1, 2, 0] rfl ?_
        exact ih x9 h8
set_option maxRecDepth 100000 in
set_option maxHeartbeats 4000000 in
theorem tX12_year_J146 {K : AC} {g : WG} (hg : p_al g = false)  (C : Cx K g cX12_year 3 RX12 (some .int) "year" 613 0 0) (o0 : Nat) (i2 : Int32) (s0 : Int64) (s1 : Nat)  (h : PH) : VX K g 3 0 0 (a_fin K g 0 0 em_i) 146 [(0, p_rf g o0), (2, .int i2)] [.long s0, p_rf g s1] h (fX12_year_J146 o0 i2 s0 s1 h) := by
  unfold fX12_year_J146
  refine r_cvv (As := [.long s0]) (st := []) C wv_X12_329 (tcX12_tell K.2.1 g hg s1 s0 h) (Nat.le_of_ble_eq_true rfl) rfl rfl (Nat.le_of_ble_eq_true rfl) dX12_year_146 ⟨Nat.le_of_ble_eq_true rfl, Nat.le_of_ble_eq_true rfl⟩ (fun h1 => ?_)
  refine r_aload_n C dX12_year_149 0 rfl ?_
  refine r_aload_n C dX12_year_150 0 rfl ?_
  refine r_aload_n C dX12_year_151 0 rfl ?_
  refine r_gr C wf_X12_9_11 dX12_year_152 (fun q2 => ?_)
  refine r_cvi (As := [p_rf g q2]) (st := [p_rf g o0]) C wv_X12_333 (tcX12_hadByAll K.2.1 g hg o0 q2 h1) (Nat.le_of_ble_eq_true rfl) rfl rfl (Nat.le_of_ble_eq_true rfl) dX12_year_155 ⟨Nat.le_of_ble_eq_true rfl, Nat.le_of_ble_eq_true rfl⟩ (fun x3 h4 => ?_)
  refine r_i2l C dX12_year_158 ?_
  refine r_cvv (As := [.long (x3.toInt64)]) (st := []) C wv_X12_329 (tcX12_tell K.2.1 g hg o0 (x3.toInt64) h4) (Nat.le_of_ble_eq_true rfl) rfl rfl (Nat.le_of_ble_eq_true rfl) dX12_year_159 ⟨Nat.le_of_ble_eq_true rfl, Nat.le_of_ble_eq_true rfl⟩ (fun h5 => ?_)
  refine r_iload_n C dX12_year_162 1 rfl ?_
  exact r_iret C dX12_year_163
set_option maxRecDepth 100000 in
set_option maxHeartbeats 4000000 in
theorem tX12_year_J130 {K : AC} {g : WG} (hg : p_al g = false)  (C : Cx K g cX12_year 3 RX12 (some .int) "year" 613 0 0) (o0 : Nat) (i1 : Int32) (i2 : Int32)  (h : PH) : VX K g 3 0 0 (a_fin K g 0 0 em_i) 130 [(0, p_rf g o0), (1, .int i1), (2, .int i2)] [] h (fX12_year_J130 o0 i1 i2 h) := by
  unfold fX12_year_J130
  refine r_aload_n C dX12_year_130 0 rfl ?_
  refine r_iconst C dX12_year_131 k_i0 ?_
  refine r_pi C wf_X12_113_11 dX12_year_132 (fun h1 => ?_)
  refine r_aload_n C dX12_year_135 0 rfl ?_
  refine r_iload_n C dX12_year_136 2 rfl ?_
  refine r_iload_n C dX12_year_137 1 rfl ?_
  refine r_icmp_ge (tgt := 145) C dX12_year_138 (by decide) ?_ ?_
  · refine r_lconst (v := (0 : Int64)) C dX12_year_145 (by decide) ?_
    refine r_perm (lv' := [(0, p_rf g o0), (2, .int i2)]) [0, 2] rfl ?_
    exact tX12_year_J146 hg C o0 i2 (0 : Int64) o0 h1
  · refine r_lconst (v := (1 : Int64)) C dX12_year_141 (by decide) ?_
    refine r_goto (tgt := 146) C dX12_year_142 (by decide) ?_
    refine r_perm (lv' := [(0, p_rf g o0), (2, .int i2)]) [0, 2] rfl ?_
    exact tX12_year_J146 hg C o0 i2 (1 : Int64) o0 h1
set_option maxRecDepth 100000 in
set_option maxHeartbeats 4000000 in
theorem tcX12_year (l : Launch) (g : WG) (hg : p_al g = false) (o0 : Nat) (h : PH) : CT l g 613 0 0 yX12_year cX12_year 3 (some .int) em_i [p_rf g o0] h (fX12_year o0 h) := by
  refine CT_of (own := RX12) (nm := "year") (by decide +kernel) (Nat.le_of_ble_eq_true rfl) rfl rfl rfl ⟨rfl, rfl⟩ (fun K hK C => ?_)
  subst hK
  unfold fX12_year
  show VX K g _ _ _ _ _ [(0, p_rf g o0)] _ _ _
  refine r_aload_n C dX12_year_0 0 rfl ?_
  refine r_iconst C dX12_year_1 k_i0 ?_
  refine r_pi C wf_X12_109_11 dX12_year_2 (fun h1 => ?_)
  refine r_aload_n C dX12_year_5 0 rfl ?_
  refine r_bipush C dX12_year_6 k_b60 ?_
  refine r_cvv (As := [.int (60 : Int32)]) (st := []) C wv_X12_177 (tcX12_beginText K.2.1 g hg o0 (60 : Int32) h1) (Nat.le_of_ble_eq_true rfl) rfl rfl (Nat.le_of_ble_eq_true rfl) dX12_year_8 ⟨Nat.le_of_ble_eq_true rfl, Nat.le_of_ble_eq_true rfl⟩ (fun h2 => ?_)
  refine r_iconst C dX12_year_11 k_i0 ?_
  refine r_istore_n (lv9 := [(1, .int (0 : Int32)), (0, p_rf g o0)]) C dX12_year_12 (by decide) rfl ?_
  refine r_perm (lv' := [(0, p_rf g o0), (1, .int (0 : Int32))]) [1, 0] rfl ?_
  refine tX12_year_L13 hg C o0 (fun x3 h4 => ?_) FU (0 : Int32) h2
  refine r_aload_n C dX12_year_44 0 rfl ?_
  refine r_cvi (As := []) (st := []) C wv_X12_183 (tcX12_wasRight K.2.1 g hg o0 h4) (Nat.le_of_ble_eq_true rfl) rfl rfl (Nat.le_of_ble_eq_true rfl) dX12_year_45 ⟨Nat.le_of_ble_eq_true rfl, Nat.le_of_ble_eq_true rfl⟩ (fun x5 h6 => ?_)
  refine r_if_ne (tgt := 58) C dX12_year_48 (by decide) ?_ ?_
  · refine r_aload_n C dX12_year_58 0 rfl ?_
    refine r_gr C wf_X12_9_11 dX12_year_59 (fun q7 => ?_)
    refine r_aload_n C dX12_year_62 0 rfl ?_
    refine r_gr C wf_X12_54_11 dX12_year_63 (fun q8 => ?_)
    refine r_iconst C dX12_year_66 k_i0 ?_
    refine r_csv (As := [p_rf g q7, p_rf g q8, .int (0 : Int32)]) (st := []) C ws_X12_284 (tcX12_lay K.2.1 g hg q7 q8 (0 : Int32) h6) (Nat.le_of_ble_eq_true rfl) rfl rfl (Nat.le_of_ble_eq_true rfl) dX12_year_67 ⟨Nat.le_of_ble_eq_true rfl, Nat.le_of_ble_eq_true rfl⟩ (fun h9 => ?_)
    refine r_iconst C dX12_year_70 k_i0 ?_
    refine r_istore_n (lv9 := [(2, .int (0 : Int32)), (0, p_rf g o0), (1, .int x3)]) C dX12_year_71 (by decide) rfl ?_
    refine r_perm (lv' := [(0, p_rf g o0), (1, .int x3), (2, .int (0 : Int32))]) [1, 2, 0] rfl ?_
    refine tX12_year_L72 hg C o0 x3 (fun x10 h11 => ?_) FU (0 : Int32) h9
    refine r_iload_n C dX12_year_118 2 rfl ?_
    refine r_if_le (tgt := 130) C dX12_year_119 (by decide) ?_ ?_
    · exact tX12_year_J130 hg C o0 x3 x10 h11
    · refine r_aload_n C dX12_year_122 0 rfl ?_
      refine r_aload_n C dX12_year_123 0 rfl ?_
      refine r_gr C wf_X12_54_11 dX12_year_124 (fun q12 => ?_)
      refine r_cvv (As := [p_rf g q12]) (st := []) C wv_X12_295 (tcX12_remember K.2.1 g hg o0 q12 h11) (Nat.le_of_ble_eq_true rfl) rfl rfl (Nat.le_of_ble_eq_true rfl) dX12_year_127 ⟨Nat.le_of_ble_eq_true rfl, Nat.le_of_ble_eq_true rfl⟩ (fun h13 => ?_)
      exact tX12_year_J130 hg C o0 x3 x10 h13
  · refine r_iconst C dX12_year_51 k_im1 ?_
    refine r_aload_n C dX12_year_52 0 rfl ?_
    refine r_gi C wf_X12_144_11 dX12_year_53 (fun x14 => ?_)
    refine r_isub C dX12_year_56 ?_
    exact r_iret C dX12_year_57
set_option maxRecDepth 100000 in
set_option maxHeartbeats 4000000 in
theorem tX12_undo_L26 {K : AC} {g : WG} (hg : p_al g = false)  (C : Cx K g cX12_undo 2 RX12 (some .int) "undo" 1 0 0) (o0 : Nat) {kx : PH → Option (Int32 × PH)} (hk : ∀  (h : PH), VX K g 2 0 0 (a_fin K g 0 0 em_i) 58 [(0, p_rf g o0)] [] h (kx h)) : ∀ (n : Nat) (i1 : Int32) (h : PH), VX K g 2 0 0 (a_fin K g 0 0 em_i) 26 [(0, p_rf g o0), (1, .int i1)] [] h (fX12_undo_L26 o0 kx n i1 h) := by
  intro n
  induction n with
  | zero =>
    intros
    exact r_none
  | succ n ih =>
    intro i1 h
    rw [fX12_undo_L26]
    refine r_iload_n C dX12_undo_26 1 rfl ?_
    refine r_bipush C dX12_undo_27 k_b88 ?_
    refine r_icmp_ge (tgt := 58) C dX12_undo_29 (by decide) ?_ ?_
    · refine r_perm (lv' := [(0, p_rf g o0)]) [0] rfl ?_
      exact hk h
    · refine r_aload_n C dX12_undo_32 0 rfl ?_
      refine r_gr C wf_X12_9_11 dX12_undo_33 (fun q1 => ?_)
      refine r_iload_n C dX12_undo_36 1 rfl ?_
      refine r_aload_n C dX12_undo_37 0 rfl ?_
      refine r_gr C wf_X12_51_11 dX12_undo_38 (fun q2 => ?_)
      refine r_bipush C dX12_undo_41 k_b88 ?_
      refine r_aload_n C dX12_undo_43 0 rfl ?_
      refine r_gi C wf_X12_171_11 dX12_undo_44 (fun x3 => ?_)
      refine r_imul C dX12_undo_47 ?_
      refine r_iload_n C dX12_undo_48 1 rfl ?_
      refine r_iadd C dX12_undo_49 ?_
      refine r_iald C dX12_undo_50 (fun x4 => ?_)
      refine r_iast C dX12_undo_51 (fun h5 => ?_)
      refine r_iinc (lv' := [(0, p_rf g o0)]) C dX12_undo_52 1 rfl k_i1 (by decide) (fun _ => rfl) (fun x6 => ?_)
      refine r_goto (tgt := 26) C dX12_undo_55 (by decide) ?_
      refine r_perm (lv' := [(0, p_rf g o0), (1, .int x6)]) [1, 0] rfl ?_
      exact ih x6 h5
set_option maxRecDepth 100000 in
set_option maxHeartbeats 4000000 in
theorem tcX12_undo (l : Launch) (g : WG) (hg : p_al g = false) (o0 : Nat) (h : PH) : CT l g 1 0 0 yX12_undo cX12_undo 2 (some .int) em_i [p_rf g o0] h (fX12_undo o0 h) := by
  refine CT_of (own := RX12) (nm := "undo") (by decide +kernel) (Nat.le_of_ble_eq_true rfl) rfl rfl rfl ⟨rfl, rfl⟩ (fun K hK C => ?_)
  subst hK
  unfold fX12_undo
  show VX K g _ _ _ _ _ [(0, p_rf g o0)] _ _ _
  refine r_aload_n C dX12_undo_0 0 rfl ?_
  refine r_iconst C dX12_undo_1 k_i0 ?_
  refine r_pi C wf_X12_109_11 dX12_undo_2 (fun h1 => ?_)
  refine r_aload_n C dX12_undo_5 0 rfl ?_
  refine r_gi C wf_X12_171_11 dX12_undo_6 (fun x2 => ?_)
  refine r_if_ne (tgt := 14) C dX12_undo_9 (by decide) ?_ ?_
  · refine r_aload_n C dX12_undo_14 0 rfl ?_
    refine r_dup C dX12_undo_15 rfl ?_
    refine r_gi C wf_X12_171_11 dX12_undo_16 (fun x3 => ?_)
    refine r_iconst C dX12_undo_19 k_i1 ?_
    refine r_isub C dX12_undo_20 ?_
    refine r_pi C wf_X12_171_11 dX12_undo_21 (fun h4 => ?_)
    refine r_iconst C dX12_undo_24 k_i0 ?_
    refine r_istore_n (lv9 := [(1, .int (0 : Int32)), (0, p_rf g o0)]) C dX12_undo_25 (by decide) rfl ?_
    refine r_perm (lv' := [(0, p_rf g o0), (1, .int (0 : Int32))]) [1, 0] rfl ?_
    refine tX12_undo_L26 hg C o0 (fun h5 => ?_) FU (0 : Int32) h4
    refine r_aload_n C dX12_undo_58 0 rfl ?_
    refine r_gi C wf_X12_171_11 dX12_undo_59 (fun x6 => ?_)
    exact r_iret C dX12_undo_62
  · refine r_iconst C dX12_undo_12 k_im1 ?_
    exact r_iret C dX12_undo_13
set_option maxRecDepth 100000 in
set_option maxHeartbeats 4000000 in
theorem tX12_tellHumours_L2 {K : AC} {g : WG} (hg : p_al g = false)  (C : Cx K g cX12_tellHumours 4 RX12 none "tellHumours" 2 0 0) (o0 : Nat) (o1 : Nat) (i2 : Int32) {kx : PH → Option (Unit × PH)} (hk : ∀  (h : PH), VX K g 4 0 0 (a_fin K g 0 0 em_v) 24 [] [] h (kx h)) : ∀ (n : Nat) (i3 : Int32) (h : PH), VX K g 4 0 0 (a_fin K g 0 0 em_v) 2 [(0, p_rf g o0), (1, p_rf g o1), (2, .int i2), (3, .int i3)] [] h (fX12_tellHumours_L2 o0 o1 i2 kx n i3 h) := by
  intro n
  induction n with
  | zero =>
    intros
    exact r_none
  | succ n ih =>
    intro i3 h
    rw [fX12_tellHumours_L2]
    refine r_iload_n C dX12_tellHumours_2 3 rfl ?_
    refine r_iconst C dX12_tellHumours_3 k_i4 ?_
    refine r_icmp_ge (tgt := 24) C dX12_tellHumours_4 (by decide) ?_ ?_
    · refine r_perm (lv' := []) [] rfl ?_
      exact hk h
    · refine r_aload_n C dX12_tellHumours_7 0 rfl ?_
      refine r_aload_n C dX12_tellHumours_8 1 rfl ?_
      refine r_iload_n C dX12_tellHumours_9 2 rfl ?_
      refine r_iload_n C dX12_tellHumours_10 3 rfl ?_
      refine r_csi (As := [p_rf g o1, .int i2, .int i3]) (st := [p_rf g o0]) C ws_X12_232 (tcX12_humour K.2.1 g hg o1 i2 i3 h) (Nat.le_of_ble_eq_true rfl) rfl rfl (Nat.le_of_ble_eq_true rfl) dX12_tellHumours_11 ⟨Nat.le_of_ble_eq_true rfl, Nat.le_of_ble_eq_true rfl⟩ (fun x1 h2 => ?_)
      refine r_i2l C dX12_tellHumours_14 ?_
      refine r_cvv (As := [.long (x1.toInt64)]) (st := []) C wv_X12_329 (tcX12_tell K.2.1 g hg o0 (x1.toInt64) h2) (Nat.le_of_ble_eq_true rfl) rfl rfl (Nat.le_of_ble_eq_true rfl) dX12_tellHumours_15 ⟨Nat.le_of_ble_eq_true rfl, Nat.le_of_ble_eq_true rfl⟩ (fun h3 => ?_)
      refine r_iinc (lv' := [(0, p_rf g o0), (1, p_rf g o1), (2, .int i2)]) C dX12_tellHumours_18 3 rfl k_i1 (by decide) (fun _ => rfl) (fun x4 => ?_)
      refine r_goto (tgt := 2) C dX12_tellHumours_21 (by decide) ?_
      refine r_perm (lv' := [(0, p_rf g o0), (1, p_rf g o1), (2, .int i2), (3, .int x4)]) [1, 2, 3, 0] rfl ?_
      exact ih x4 h3
set_option maxRecDepth 100000 in
set_option maxHeartbeats 4000000 in
theorem tcX12_tellHumours (l : Launch) (g : WG) (hg : p_al g = false) (o0 : Nat) (o1 : Nat) (i2 : Int32) (h : PH) : CT l g 2 0 0 yX12_tellHumours cX12_tellHumours 4 none em_v [p_rf g o0, p_rf g o1, .int i2] h (fX12_tellHumours o0 o1 i2 h) := by
  refine CT_of (own := RX12) (nm := "tellHumours") (by decide +kernel) (Nat.le_of_ble_eq_true rfl) rfl rfl rfl ⟨rfl, rfl⟩ (fun K hK C => ?_)
  subst hK
  unfold fX12_tellHumours
  show VX K g _ _ _ _ _ [(0, p_rf g o0), (1, p_rf g o1), (2, .int i2)] _ _ _
  refine r_iconst C dX12_tellHumours_0 k_i0 ?_
  refine r_istore_n (lv9 := [(3, .int (0 : Int32)), (0, p_rf g o0), (1, p_rf g o1), (2, .int i2)]) C dX12_tellHumours_1 (by decide) rfl ?_
  refine r_perm (lv' := [(0, p_rf g o0), (1, p_rf g o1), (2, .int i2), (3, .int (0 : Int32))]) [1, 2, 3, 0] rfl ?_
  refine tX12_tellHumours_L2 hg C o0 o1 i2 (fun h1 => ?_) FU (0 : Int32) h
  exact r_vret C dX12_tellHumours_24
set_option maxRecDepth 100000 in
set_option maxHeartbeats 4000000 in
theorem tcX12_later (l : Launch) (g : WG) (hg : p_al g = false) (o0 : Nat) (i1 : Int32) (i2 : Int32) (i3 : Int32) (h : PH) : CT l g 612 0 0 yX12_later cX12_later 4 (some .int) em_i [p_rf g o0, .int i1, .int i2, .int i3] h (fX12_later o0 i1 i2 i3 h) := by
  refine CT_of (own := RX12) (nm := "later") (by decide +kernel) (Nat.le_of_ble_eq_true rfl) rfl rfl rfl ⟨rfl, rfl⟩ (fun K hK C => ?_)
  subst hK
  unfold fX12_later
  show VX K g _ _ _ _ _ [(0, p_rf g o0), (1, .int i1), (2, .int i2), (3, .int i3)] _ _ _
  refine r_aload_n C dX12_later_0 0 rfl ?_
  refine r_iconst C dX12_later_1 k_i0 ?_
  refine r_pi C wf_X12_109_11 dX12_later_2 (fun h1 => ?_)
  refine r_aload_n C dX12_later_5 0 rfl ?_
  refine r_iload_n C dX12_later_6 1 rfl ?_
  refine r_cvi (As := [.int i1]) (st := []) C wv_X12_278 (tcX12_isMan K.2.1 g hg o0 i1 h1) (Nat.le_of_ble_eq_true rfl) rfl rfl (Nat.le_of_ble_eq_true rfl) dX12_later_7 ⟨Nat.le_of_ble_eq_true rfl, Nat.le_of_ble_eq_true rfl⟩ (fun x2 h3 => ?_)
  refine r_if_eq (tgt := 32) C dX12_later_10 (by decide) ?_ ?_
  · refine r_iconst C dX12_later_32 k_im1 ?_
    exact r_iret C dX12_later_33
  · refine r_iload_n C dX12_later_13 2 rfl ?_
    refine r_iconst C dX12_later_14 k_i0 ?_
    refine r_iconst C dX12_later_15 k_i3 ?_
    refine r_csi (As := [.int i2, .int (0 : Int32), .int (3 : Int32)]) (st := []) C ws_X12_119 (tcX12_in K.2.1 g hg i2 (0 : Int32) (3 : Int32) h3) (Nat.le_of_ble_eq_true rfl) rfl rfl (Nat.le_of_ble_eq_true rfl) dX12_later_16 ⟨Nat.le_of_ble_eq_true rfl, Nat.le_of_ble_eq_true rfl⟩ (fun x4 h5 => ?_)
    refine r_if_eq (tgt := 32) C dX12_later_19 (by decide) ?_ ?_
    · refine r_iconst C dX12_later_32 k_im1 ?_
      exact r_iret C dX12_later_33
    · refine r_iload_n C dX12_later_22 3 rfl ?_
      refine r_iconst C dX12_later_23 k_i0 ?_
      refine r_bipush C dX12_later_24 k_b99 ?_
      refine r_csi (As := [.int i3, .int (0 : Int32), .int (99 : Int32)]) (st := []) C ws_X12_119 (tcX12_in K.2.1 g hg i3 (0 : Int32) (99 : Int32) h5) (Nat.le_of_ble_eq_true rfl) rfl rfl (Nat.le_of_ble_eq_true rfl) dX12_later_26 ⟨Nat.le_of_ble_eq_true rfl, Nat.le_of_ble_eq_true rfl⟩ (fun x6 h7 => ?_)
      refine r_if_ne (tgt := 34) C dX12_later_29 (by decide) ?_ ?_
      · refine r_aload_n C dX12_later_34 0 rfl ?_
        refine r_gr C wf_X12_9_11 dX12_later_35 (fun q8 => ?_)
        refine r_aload_n C dX12_later_38 0 rfl ?_
        refine r_gr C wf_X12_57_11 dX12_later_39 (fun q9 => ?_)
        refine r_iconst C dX12_later_42 k_i0 ?_
        refine r_csv (As := [p_rf g q8, p_rf g q9, .int (0 : Int32)]) (st := []) C ws_X12_284 (tcX12_lay K.2.1 g hg q8 q9 (0 : Int32) h7) (Nat.le_of_ble_eq_true rfl) rfl rfl (Nat.le_of_ble_eq_true rfl) dX12_later_43 ⟨Nat.le_of_ble_eq_true rfl, Nat.le_of_ble_eq_true rfl⟩ (fun h10 => ?_)
        refine r_aload_n C dX12_later_46 0 rfl ?_
        refine r_aload_n C dX12_later_47 0 rfl ?_
        refine r_gr C wf_X12_57_11 dX12_later_48 (fun q11 => ?_)
        refine r_iload_n C dX12_later_51 3 rfl ?_
        refine r_cvv (As := [p_rf g q11, .int i3]) (st := []) C wv_X12_322 (tcX12_goDays K.2.1 g hg o0 q11 i3 h10) (Nat.le_of_ble_eq_true rfl) rfl rfl (Nat.le_of_ble_eq_true rfl) dX12_later_52 ⟨Nat.le_of_ble_eq_true rfl, Nat.le_of_ble_eq_true rfl⟩ (fun h12 => ?_)
        refine r_aload_n C dX12_later_55 0 rfl ?_
        refine r_iconst C dX12_later_56 k_i0 ?_
        refine r_pi C wf_X12_113_11 dX12_later_57 (fun h13 => ?_)
        refine r_aload_n C dX12_later_60 0 rfl ?_
        refine r_aload_n C dX12_later_61 0 rfl ?_
        refine r_gr C wf_X12_57_11 dX12_later_62 (fun q14 => ?_)
        refine r_iload_n C dX12_later_65 1 rfl ?_
        refine r_cvv (As := [p_rf g q14, .int i1]) (st := []) C wv_X12_342 (tcX12_tellHumours K.2.1 g hg o0 q14 i1 h13) (Nat.le_of_ble_eq_true rfl) rfl rfl (Nat.le_of_ble_eq_true rfl) dX12_later_66 ⟨Nat.le_of_ble_eq_true rfl, Nat.le_of_ble_eq_true rfl⟩ (fun h15 => ?_)
        refine r_aload_n C dX12_later_69 0 rfl ?_
        refine r_aload_n C dX12_later_70 0 rfl ?_
        refine r_aload_n C dX12_later_71 0 rfl ?_
        refine r_gr C wf_X12_57_11 dX12_later_72 (fun q16 => ?_)
        refine r_iload_n C dX12_later_75 1 rfl ?_
        refine r_cvi (As := [p_rf g q16, .int i1]) (st := [p_rf g o0]) C wv_X12_261 (tcX12_had K.2.1 g hg o0 q16 i1 h15) (Nat.le_of_ble_eq_true rfl) rfl rfl (Nat.le_of_ble_eq_true rfl) dX12_later_76 ⟨Nat.le_of_ble_eq_true rfl, Nat.le_of_ble_eq_true rfl⟩ (fun x17 h18 => ?_)
        refine r_i2l C dX12_later_79 ?_
        refine r_cvv (As := [.long (x17.toInt64)]) (st := []) C wv_X12_329 (tcX12_tell K.2.1 g hg o0 (x17.toInt64) h18) (Nat.le_of_ble_eq_true rfl) rfl rfl (Nat.le_of_ble_eq_true rfl) dX12_later_80 ⟨Nat.le_of_ble_eq_true rfl, Nat.le_of_ble_eq_true rfl⟩ (fun h19 => ?_)
        refine r_aload_n C dX12_later_83 0 rfl ?_
        refine r_gr C wf_X12_57_11 dX12_later_84 (fun q20 => ?_)
        refine r_iload_n C dX12_later_87 1 rfl ?_
        refine r_iload_n C dX12_later_88 2 rfl ?_
        refine r_csi (As := [p_rf g q20, .int i1, .int i2]) (st := []) C ws_X12_232 (tcX12_humour K.2.1 g hg q20 i1 i2 h19) (Nat.le_of_ble_eq_true rfl) rfl rfl (Nat.le_of_ble_eq_true rfl) dX12_later_89 ⟨Nat.le_of_ble_eq_true rfl, Nat.le_of_ble_eq_true rfl⟩ (fun x21 h22 => ?_)
        exact r_iret C dX12_later_92
      · refine r_iconst C dX12_later_32 k_im1 ?_
        exact r_iret C dX12_later_33
set_option maxRecDepth 100000 in
set_option maxHeartbeats 4000000 in
theorem tX12_settles_L37 {K : AC} {g : WG} (hg : p_al g = false)  (C : Cx K g cX12_settles 5 RX12 (some .int) "settles" 611 0 0) (o0 : Nat) (i1 : Int32) (i2 : Int32) {kx : PH → Option (Int32 × PH)} (hk : ∀  (h : PH), VX K g 5 0 0 (a_fin K g 0 0 em_i) 63 [(0, p_rf g o0), (1, .int i1), (2, .int i2)] [] h (kx h)) : ∀ (n : Nat) (i3 : Int32) (h : PH), VX K g 5 0 0 (a_fin K g 0 0 em_i) 37 [(0, p_rf g o0), (1, .int i1), (2, .int i2), (3, .int i3)] [] h (fX12_settles_L37 o0 i1 i2 kx n i3 h) := by
  intro n
  induction n with
  | zero =>
    intros
    exact r_none
  | succ n ih =>
    intro i3 h
    rw [fX12_settles_L37]
    refine r_iload_n C dX12_settles_37 3 rfl ?_
    refine r_iconst C dX12_settles_38 k_i4 ?_
    refine r_icmp_ge (tgt := 63) C dX12_settles_39 (by decide) ?_ ?_
    · refine r_perm (lv' := [(0, p_rf g o0), (1, .int i1), (2, .int i2)]) [0, 1, 2] rfl ?_
      exact hk h
    · refine r_aload_n C dX12_settles_42 0 rfl ?_
      refine r_gr C wf_X12_66_11 dX12_settles_43 (fun q1 => ?_)
      refine r_iload_n C dX12_settles_46 3 rfl ?_
      refine r_aload_n C dX12_settles_47 0 rfl ?_
      refine r_gr C wf_X12_57_11 dX12_settles_48 (fun q2 => ?_)
      refine r_iload_n C dX12_settles_51 1 rfl ?_
      refine r_iload_n C dX12_settles_52 3 rfl ?_
      refine r_csi (As := [p_rf g q2, .int i1, .int i3]) (st := [.int i3, p_rf g q1]) C ws_X12_232 (tcX12_humour K.2.1 g hg q2 i1 i3 h) (Nat.le_of_ble_eq_true rfl) rfl rfl (Nat.le_of_ble_eq_true rfl) dX12_settles_53 ⟨Nat.le_of_ble_eq_true rfl, Nat.le_of_ble_eq_true rfl⟩ (fun x3 h4 => ?_)
      refine r_iast C dX12_settles_56 (fun h5 => ?_)
      refine r_iinc (lv' := [(0, p_rf g o0), (1, .int i1), (2, .int i2)]) C dX12_settles_57 3 rfl k_i1 (by decide) (fun _ => rfl) (fun x6 => ?_)
      refine r_goto (tgt := 37) C dX12_settles_60 (by decide) ?_
      refine r_perm (lv' := [(0, p_rf g o0), (1, .int i1), (2, .int i2), (3, .int x6)]) [1, 2, 3, 0] rfl ?_
      exact ih x6 h5
set_option maxRecDepth 100000 in
set_option maxHeartbeats 4000000 in
theorem tX12_settles_J111_76 {K : AC} {g : WG} (hg : p_al g = false)  (C : Cx K g cX12_settles 5 RX12 (some .int) "settles" 611 0 0) (o0 : Nat) (i1 : Int32) (i2 : Int32) (i4 : Int32) (s0 : Int32)    {rc : Int32 → Int32 → PH → Option (Int32 × PH)} {kx : Int32 → PH → Option (Int32 × PH)} (hr : ∀ (i3' : Int32) (i4' : Int32) (h : PH), VX K g 5 0 0 (a_fin K g 0 0 em_i) 76 [(0, p_rf g o0), (1, .int i1), (2, .int i2), (3, .int i3'), (4, .int i4')] [] h (rc i3' i4' h)) (hk : ∀ (i3' : Int32) (h : PH), VX K g 5 0 0 (a_fin K g 0 0 em_i) 118 [(0, p_rf g o0), (1, .int i1), (2, .int i2), (3, .int i3')] [] h (kx i3' h)) (h : PH) : VX K g 5 0 0 (a_fin K g 0 0 em_i) 111 [(0, p_rf g o0), (1, .int i1), (2, .int i2), (4, .int i4)] [.int s0] h (fX12_settles_J111_76 rc kx o0 i1 i2 i4 s0 h) := by
  unfold fX12_settles_J111_76
  refine r_istore_n (lv9 := [(3, .int s0), (0, p_rf g o0), (1, .int i1), (2, .int i2), (4, .int i4)]) C dX12_settles_111 (by decide) rfl ?_
  refine r_iinc (lv' := [(3, .int s0), (0, p_rf g o0), (1, .int i1), (2, .int i2)]) C dX12_settles_112 4 rfl k_i1 (by decide) (fun _ => rfl) (fun x1 => ?_)
  refine r_goto (tgt := 76) C dX12_settles_115 (by decide) ?_
  refine r_perm (lv' := [(0, p_rf g o0), (1, .int i1), (2, .int i2), (3, .int s0), (4, .int x1)]) [2, 3, 4, 1, 0] rfl ?_
  exact hr s0 x1 h
set_option maxRecDepth 100000 in
set_option maxHeartbeats 4000000 in
theorem tX12_settles_J110_76 {K : AC} {g : WG} (hg : p_al g = false)  (C : Cx K g cX12_settles 5 RX12 (some .int) "settles" 611 0 0) (o0 : Nat) (i1 : Int32) (i2 : Int32) (i4 : Int32)    {rc : Int32 → Int32 → PH → Option (Int32 × PH)} {kx : Int32 → PH → Option (Int32 × PH)} (hr : ∀ (i3' : Int32) (i4' : Int32) (h : PH), VX K g 5 0 0 (a_fin K g 0 0 em_i) 76 [(0, p_rf g o0), (1, .int i1), (2, .int i2), (3, .int i3'), (4, .int i4')] [] h (rc i3' i4' h)) (hk : ∀ (i3' : Int32) (h : PH), VX K g 5 0 0 (a_fin K g 0 0 em_i) 118 [(0, p_rf g o0), (1, .int i1), (2, .int i2), (3, .int i3')] [] h (kx i3' h)) (h : PH) : VX K g 5 0 0 (a_fin K g 0 0 em_i) 110 [(0, p_rf g o0), (1, .int i1), (2, .int i2), (4, .int i4)] [] h (fX12_settles_J110_76 rc kx o0 i1 i2 i4 h) := by
  unfold fX12_settles_J110_76
  refine r_iconst C dX12_settles_110 k_i0 ?_
  exact tX12_settles_J111_76 hg C o0 i1 i2 i4 (0 : Int32) hr hk h
set_option maxRecDepth 100000 in
set_option maxHeartbeats 4000000 in
theorem tX12_settles_L76 {K : AC} {g : WG} (hg : p_al g = false)  (C : Cx K g cX12_settles 5 RX12 (some .int) "settles" 611 0 0) (o0 : Nat) (i1 : Int32) (i2 : Int32) {kx : Int32 → PH → Option (Int32 × PH)} (hk : ∀ (i3 : Int32) (h : PH), VX K g 5 0 0 (a_fin K g 0 0 em_i) 118 [(0, p_rf g o0), (1, .int i1), (2, .int i2), (3, .int i3)] [] h (kx i3 h)) : ∀ (n : Nat) (i3 : Int32) (i4 : Int32) (h : PH), VX K g 5 0 0 (a_fin K g 0 0 em_i) 76 [(0, p_rf g o0), (1, .int i1), (2, .int i2), (3, .int i3), (4, .int i4)] [] h (fX12_settles_L76 o0 i1 i2 kx n i3 i4 h) := by
  intro n
  induction n with
  | zero =>
    intros
    exact r_none
  | succ n ih =>
    intro i3 i4 h
    rw [fX12_settles_L76]
    refine r_iload C dX12_settles_76 4 rfl ?_
    refine r_iconst C dX12_settles_78 k_i4 ?_
    refine r_icmp_ge (tgt := 118) C dX12_settles_79 (by decide) ?_ ?_
    · refine r_perm (lv' := [(0, p_rf g o0), (1, .int i1), (2, .int i2), (3, .int i3)]) [0, 1, 2, 3] rfl ?_
      exact hk i3 h
    · refine r_iload_n C dX12_settles_82 3 rfl ?_
      refine r_if_eq (tgt := 110) C dX12_settles_83 (by decide) ?_ ?_
      · refine r_perm (lv' := [(0, p_rf g o0), (1, .int i1), (2, .int i2), (4, .int i4)]) [0, 1, 2, 4] rfl ?_
        exact tX12_settles_J110_76 hg C o0 i1 i2 i4 ih hk h
      · refine r_aload_n C dX12_settles_86 0 rfl ?_
        refine r_gr C wf_X12_66_11 dX12_settles_87 (fun q1 => ?_)
        refine r_iload C dX12_settles_90 4 rfl ?_
        refine r_iald C dX12_settles_92 (fun x2 => ?_)
        refine r_aload_n C dX12_settles_93 0 rfl ?_
        refine r_gr C wf_X12_57_11 dX12_settles_94 (fun q3 => ?_)
        refine r_iload_n C dX12_settles_97 1 rfl ?_
        refine r_iload C dX12_settles_98 4 rfl ?_
        refine r_csi (As := [p_rf g q3, .int i1, .int i4]) (st := [.int x2]) C ws_X12_232 (tcX12_humour K.2.1 g hg q3 i1 i4 h) (Nat.le_of_ble_eq_true rfl) rfl rfl (Nat.le_of_ble_eq_true rfl) dX12_settles_100 ⟨Nat.le_of_ble_eq_true rfl, Nat.le_of_ble_eq_true rfl⟩ (fun x4 h5 => ?_)
        refine r_icmp_ne (tgt := 110) C dX12_settles_103 (by decide) ?_ ?_
        · refine r_perm (lv' := [(0, p_rf g o0), (1, .int i1), (2, .int i2), (4, .int i4)]) [0, 1, 2, 4] rfl ?_
          exact tX12_settles_J110_76 hg C o0 i1 i2 i4 ih hk h5
        · refine r_iconst C dX12_settles_106 k_i1 ?_
          refine r_goto (tgt := 111) C dX12_settles_107 (by decide) ?_
          refine r_perm (lv' := [(0, p_rf g o0), (1, .int i1), (2, .int i2), (4, .int i4)]) [0, 1, 2, 4] rfl ?_
          exact tX12_settles_J111_76 hg C o0 i1 i2 i4 (1 : Int32) ih hk h5
set_option maxRecDepth 100000 in
set_option maxHeartbeats 4000000 in
theorem tX12_settles_L29 {K : AC} {g : WG} (hg : p_al g = false)  (C : Cx K g cX12_settles 5 RX12 (some .int) "settles" 611 0 0) (o0 : Nat) (i1 : Int32) {kx : PH → Option (Int32 × PH)} (hk : ∀  (h : PH), VX K g 5 0 0 (a_fin K g 0 0 em_i) 147 [] [] h (kx h)) : ∀ (n : Nat) (i2 : Int32) (h : PH), VX K g 5 0 0 (a_fin K g 0 0 em_i) 29 [(0, p_rf g o0), (1, .int i1), (2, .int i2)] [] h (fX12_settles_L29 o0 i1 kx n i2 h) := by
  intro n
  induction n with
  | zero =>
    intros
    exact r_none
  | succ n ih =>
    intro i2 h
    rw [fX12_settles_L29]
    refine r_iload_n C dX12_settles_29 2 rfl ?_
    refine r_bipush C dX12_settles_30 k_b99 ?_
    refine r_icmp_gt (tgt := 147) C dX12_settles_32 (by decide) ?_ ?_
    · refine r_perm (lv' := []) [] rfl ?_
      exact hk h
    · refine r_iconst C dX12_settles_35 k_i0 ?_
      refine r_istore_n (lv9 := [(3, .int (0 : Int32)), (0, p_rf g o0), (1, .int i1), (2, .int i2)]) C dX12_settles_36 (by decide) rfl ?_
      refine r_perm (lv' := [(0, p_rf g o0), (1, .int i1), (2, .int i2), (3, .int (0 : Int32))]) [1, 2, 3, 0] rfl ?_
      refine tX12_settles_L37 hg C o0 i1 i2 (fun h1 => ?_) FU (0 : Int32) h
      refine r_aload_n C dX12_settles_63 0 rfl ?_
      refine r_aload_n C dX12_settles_64 0 rfl ?_
      refine r_gr C wf_X12_57_11 dX12_settles_65 (fun q2 => ?_)
      refine r_cvv (As := [p_rf g q2]) (st := []) C wv_X12_319 (tcX12_goDay K.2.1 g hg o0 q2 h1) (Nat.le_of_ble_eq_true rfl) rfl rfl (Nat.le_of_ble_eq_true rfl) dX12_settles_68 ⟨Nat.le_of_ble_eq_true rfl, Nat.le_of_ble_eq_true rfl⟩ (fun h3 => ?_)
      refine r_iconst C dX12_settles_71 k_i1 ?_
      refine r_istore_n (lv9 := [(3, .int (1 : Int32)), (0, p_rf g o0), (1, .int i1), (2, .int i2)]) C dX12_settles_72 (by decide) rfl ?_
      refine r_iconst C dX12_settles_73 k_i0 ?_
      refine r_istore (lv9 := [(4, .int (0 : Int32)), (3, .int (1 : Int32)), (0, p_rf g o0), (1, .int i1), (2, .int i2)]) C dX12_settles_74 (by decide) rfl ?_
      refine r_perm (lv' := [(0, p_rf g o0), (1, .int i1), (2, .int i2), (3, .int (1 : Int32)), (4, .int (0 : Int32))]) [2, 3, 4, 1, 0] rfl ?_
      refine tX12_settles_L76 hg C o0 i1 i2 (fun x4 h5 => ?_) FU (1 : Int32) (0 : Int32) h3
      refine r_iload_n C dX12_settles_118 3 rfl ?_
      refine r_if_ne (tgt := 125) C dX12_settles_119 (by decide) ?_ ?_
      · refine r_aload_n C dX12_settles_125 0 rfl ?_
        refine r_iconst C dX12_settles_126 k_i0 ?_
        refine r_pi C wf_X12_113_11 dX12_settles_127 (fun h6 => ?_)
        refine r_aload_n C dX12_settles_130 0 rfl ?_
        refine r_aload_n C dX12_settles_131 0 rfl ?_
        refine r_gr C wf_X12_57_11 dX12_settles_132 (fun q7 => ?_)
        refine r_iload_n C dX12_settles_135 1 rfl ?_
        refine r_cvv (As := [p_rf g q7, .int i1]) (st := []) C wv_X12_342 (tcX12_tellHumours K.2.1 g hg o0 q7 i1 h6) (Nat.le_of_ble_eq_true rfl) rfl rfl (Nat.le_of_ble_eq_true rfl) dX12_settles_136 ⟨Nat.le_of_ble_eq_true rfl, Nat.le_of_ble_eq_true rfl⟩ (fun h8 => ?_)
        refine r_iload_n C dX12_settles_139 2 rfl ?_
        exact r_iret C dX12_settles_140
      · refine r_goto (tgt := 141) C dX12_settles_122 (by decide) ?_
        refine r_iinc (lv' := [(0, p_rf g o0), (1, .int i1), (3, .int x4)]) C dX12_settles_141 2 rfl k_i1 (by decide) (fun _ => rfl) (fun x9 => ?_)
        refine r_goto (tgt := 29) C dX12_settles_144 (by decide) ?_
        refine r_perm (lv' := [(0, p_rf g o0), (1, .int i1), (2, .int x9)]) [1, 2, 0] rfl ?_
        exact ih x9 h5
set_option maxRecDepth 100000 in
set_option maxHeartbeats 4000000 in
theorem tcX12_settles (l : Launch) (g : WG) (hg : p_al g = false) (o0 : Nat) (i1 : Int32) (h : PH) : CT l g 611 0 0 yX12_settles cX12_settles 5 (some .int) em_i [p_rf g o0, .int i1] h (fX12_settles o0 i1 h) := by
  refine CT_of (own := RX12) (nm := "settles") (by decide +kernel) (Nat.le_of_ble_eq_true rfl) rfl rfl rfl ⟨rfl, rfl⟩ (fun K hK C => ?_)
  subst hK
  unfold fX12_settles
  show VX K g _ _ _ _ _ [(0, p_rf g o0), (1, .int i1)] _ _ _
  refine r_aload_n C dX12_settles_0 0 rfl ?_
  refine r_iconst C dX12_settles_1 k_i0 ?_
  refine r_pi C wf_X12_109_11 dX12_settles_2 (fun h1 => ?_)
  refine r_aload_n C dX12_settles_5 0 rfl ?_
  refine r_iload_n C dX12_settles_6 1 rfl ?_
  refine r_cvi (As := [.int i1]) (st := []) C wv_X12_278 (tcX12_isMan K.2.1 g hg o0 i1 h1) (Nat.le_of_ble_eq_true rfl) rfl rfl (Nat.le_of_ble_eq_true rfl) dX12_settles_7 ⟨Nat.le_of_ble_eq_true rfl, Nat.le_of_ble_eq_true rfl⟩ (fun x2 h3 => ?_)
  refine r_if_ne (tgt := 15) C dX12_settles_10 (by decide) ?_ ?_
  · refine r_aload_n C dX12_settles_15 0 rfl ?_
    refine r_gr C wf_X12_9_11 dX12_settles_16 (fun q4 => ?_)
    refine r_aload_n C dX12_settles_19 0 rfl ?_
    refine r_gr C wf_X12_57_11 dX12_settles_20 (fun q5 => ?_)
    refine r_iconst C dX12_settles_23 k_i0 ?_
    refine r_csv (As := [p_rf g q4, p_rf g q5, .int (0 : Int32)]) (st := []) C ws_X12_284 (tcX12_lay K.2.1 g hg q4 q5 (0 : Int32) h3) (Nat.le_of_ble_eq_true rfl) rfl rfl (Nat.le_of_ble_eq_true rfl) dX12_settles_24 ⟨Nat.le_of_ble_eq_true rfl, Nat.le_of_ble_eq_true rfl⟩ (fun h6 => ?_)
    refine r_iconst C dX12_settles_27 k_i0 ?_
    refine r_istore_n (lv9 := [(2, .int (0 : Int32)), (0, p_rf g o0), (1, .int i1)]) C dX12_settles_28 (by decide) rfl ?_
    refine r_perm (lv' := [(0, p_rf g o0), (1, .int i1), (2, .int (0 : Int32))]) [1, 2, 0] rfl ?_
    refine tX12_settles_L29 hg C o0 i1 (fun h7 => ?_) FU (0 : Int32) h6
    refine r_bipush C dX12_settles_147 k_bm2 ?_
    exact r_iret C dX12_settles_149
  · refine r_iconst C dX12_settles_13 k_im1 ?_
    exact r_iret C dX12_settles_14
set_option maxRecDepth 100000 in
set_option maxHeartbeats 4000000 in
theorem tX12_when_L37 {K : AC} {g : WG} (hg : p_al g = false)  (C : Cx K g cX12_when 4 RX12 (some .int) "when" 611 0 0) (o0 : Nat) (i1 : Int32) (i2 : Int32) {kx : PH → Option (Int32 × PH)} (hk : ∀  (h : PH), VX K g 4 0 0 (a_fin K g 0 0 em_i) 94 [] [] h (kx h)) : ∀ (n : Nat) (i3 : Int32) (h : PH), VX K g 4 0 0 (a_fin K g 0 0 em_i) 37 [(0, p_rf g o0), (1, .int i1), (2, .int i2), (3, .int i3)] [] h (fX12_when_L37 o0 i1 i2 kx n i3 h) := by
  intro n
  induction n with
  | zero =>
    intros
    exact r_none
  | succ n ih =>
    intro i3 h
    rw [fX12_when_L37]
    refine r_iload_n C dX12_when_37 3 rfl ?_
    refine r_bipush C dX12_when_38 k_b99 ?_
    refine r_icmp_gt (tgt := 94) C dX12_when_40 (by decide) ?_ ?_
    · refine r_perm (lv' := []) [] rfl ?_
      exact hk h
    · refine r_aload_n C dX12_when_43 0 rfl ?_
      refine r_aload_n C dX12_when_44 0 rfl ?_
      refine r_gr C wf_X12_57_11 dX12_when_45 (fun q1 => ?_)
      refine r_iload_n C dX12_when_48 1 rfl ?_
      refine r_iload_n C dX12_when_49 2 rfl ?_
      refine r_cvi (As := [p_rf g q1, .int i1, .int i2]) (st := []) C wv_X12_257 (tcX12_hasWant K.2.1 g hg o0 q1 i1 i2 h) (Nat.le_of_ble_eq_true rfl) rfl rfl (Nat.le_of_ble_eq_true rfl) dX12_when_50 ⟨Nat.le_of_ble_eq_true rfl, Nat.le_of_ble_eq_true rfl⟩ (fun x2 h3 => ?_)
      refine r_if_eq (tgt := 80) C dX12_when_53 (by decide) ?_ ?_
      · refine r_aload_n C dX12_when_80 0 rfl ?_
        refine r_aload_n C dX12_when_81 0 rfl ?_
        refine r_gr C wf_X12_57_11 dX12_when_82 (fun q4 => ?_)
        refine r_cvv (As := [p_rf g q4]) (st := []) C wv_X12_319 (tcX12_goDay K.2.1 g hg o0 q4 h3) (Nat.le_of_ble_eq_true rfl) rfl rfl (Nat.le_of_ble_eq_true rfl) dX12_when_85 ⟨Nat.le_of_ble_eq_true rfl, Nat.le_of_ble_eq_true rfl⟩ (fun h5 => ?_)
        refine r_iinc (lv' := [(0, p_rf g o0), (1, .int i1), (2, .int i2)]) C dX12_when_88 3 rfl k_i1 (by decide) (fun _ => rfl) (fun x6 => ?_)
        refine r_goto (tgt := 37) C dX12_when_91 (by decide) ?_
        refine r_perm (lv' := [(0, p_rf g o0), (1, .int i1), (2, .int i2), (3, .int x6)]) [1, 2, 3, 0] rfl ?_
        exact ih x6 h5
      · refine r_aload_n C dX12_when_56 0 rfl ?_
        refine r_iconst C dX12_when_57 k_i0 ?_
        refine r_pi C wf_X12_113_11 dX12_when_58 (fun h7 => ?_)
        refine r_aload_n C dX12_when_61 0 rfl ?_
        refine r_aload_n C dX12_when_62 0 rfl ?_
        refine r_aload_n C dX12_when_63 0 rfl ?_
        refine r_gr C wf_X12_57_11 dX12_when_64 (fun q8 => ?_)
        refine r_iload_n C dX12_when_67 1 rfl ?_
        refine r_cvi (As := [p_rf g q8, .int i1]) (st := [p_rf g o0]) C wv_X12_261 (tcX12_had K.2.1 g hg o0 q8 i1 h7) (Nat.le_of_ble_eq_true rfl) rfl rfl (Nat.le_of_ble_eq_true rfl) dX12_when_68 ⟨Nat.le_of_ble_eq_true rfl, Nat.le_of_ble_eq_true rfl⟩ (fun x9 h10 => ?_)
        refine r_csi (As := [.int x9]) (st := [p_rf g o0]) C ws_X12_242 (tcJ6_bitCount_0f7a4 K.2.1 g hg x9 h10) (Nat.le_of_ble_eq_true rfl) rfl rfl (Nat.le_of_ble_eq_true rfl) dX12_when_71 ⟨Nat.le_of_ble_eq_true rfl, Nat.le_of_ble_eq_true rfl⟩ (fun x11 h12 => ?_)
        refine r_i2l C dX12_when_74 ?_
        refine r_cvv (As := [.long (x11.toInt64)]) (st := []) C wv_X12_329 (tcX12_tell K.2.1 g hg o0 (x11.toInt64) h12) (Nat.le_of_ble_eq_true rfl) rfl rfl (Nat.le_of_ble_eq_true rfl) dX12_when_75 ⟨Nat.le_of_ble_eq_true rfl, Nat.le_of_ble_eq_true rfl⟩ (fun h13 => ?_)
        refine r_iload_n C dX12_when_78 3 rfl ?_
        exact r_iret C dX12_when_79
set_option maxRecDepth 100000 in
set_option maxHeartbeats 4000000 in
theorem tcX12_when (l : Launch) (g : WG) (hg : p_al g = false) (o0 : Nat) (i1 : Int32) (i2 : Int32) (h : PH) : CT l g 611 0 0 yX12_when cX12_when 4 (some .int) em_i [p_rf g o0, .int i1, .int i2] h (fX12_when o0 i1 i2 h) := by
  refine CT_of (own := RX12) (nm := "when") (by decide +kernel) (Nat.le_of_ble_eq_true rfl) rfl rfl rfl ⟨rfl, rfl⟩ (fun K hK C => ?_)
  subst hK
  unfold fX12_when
  show VX K g _ _ _ _ _ [(0, p_rf g o0), (1, .int i1), (2, .int i2)] _ _ _
  refine r_aload_n C dX12_when_0 0 rfl ?_
  refine r_iconst C dX12_when_1 k_i0 ?_
  refine r_pi C wf_X12_109_11 dX12_when_2 (fun h1 => ?_)
  refine r_aload_n C dX12_when_5 0 rfl ?_
  refine r_iload_n C dX12_when_6 1 rfl ?_
  refine r_cvi (As := [.int i1]) (st := []) C wv_X12_278 (tcX12_isMan K.2.1 g hg o0 i1 h1) (Nat.le_of_ble_eq_true rfl) rfl rfl (Nat.le_of_ble_eq_true rfl) dX12_when_7 ⟨Nat.le_of_ble_eq_true rfl, Nat.le_of_ble_eq_true rfl⟩ (fun x2 h3 => ?_)
  refine r_if_eq (tgt := 21) C dX12_when_10 (by decide) ?_ ?_
  · refine r_iconst C dX12_when_21 k_im1 ?_
    exact r_iret C dX12_when_22
  · refine r_aload_n C dX12_when_13 0 rfl ?_
    refine r_iload_n C dX12_when_14 2 rfl ?_
    refine r_cvi (As := [.int i2]) (st := []) C wv_X12_345 (tcX12_isWant K.2.1 g hg o0 i2 h3) (Nat.le_of_ble_eq_true rfl) rfl rfl (Nat.le_of_ble_eq_true rfl) dX12_when_15 ⟨Nat.le_of_ble_eq_true rfl, Nat.le_of_ble_eq_true rfl⟩ (fun x4 h5 => ?_)
    refine r_if_ne (tgt := 23) C dX12_when_18 (by decide) ?_ ?_
    · refine r_aload_n C dX12_when_23 0 rfl ?_
      refine r_gr C wf_X12_9_11 dX12_when_24 (fun q6 => ?_)
      refine r_aload_n C dX12_when_27 0 rfl ?_
      refine r_gr C wf_X12_57_11 dX12_when_28 (fun q7 => ?_)
      refine r_iconst C dX12_when_31 k_i0 ?_
      refine r_csv (As := [p_rf g q6, p_rf g q7, .int (0 : Int32)]) (st := []) C ws_X12_284 (tcX12_lay K.2.1 g hg q6 q7 (0 : Int32) h5) (Nat.le_of_ble_eq_true rfl) rfl rfl (Nat.le_of_ble_eq_true rfl) dX12_when_32 ⟨Nat.le_of_ble_eq_true rfl, Nat.le_of_ble_eq_true rfl⟩ (fun h8 => ?_)
      refine r_iconst C dX12_when_35 k_i0 ?_
      refine r_istore_n (lv9 := [(3, .int (0 : Int32)), (0, p_rf g o0), (1, .int i1), (2, .int i2)]) C dX12_when_36 (by decide) rfl ?_
      refine r_perm (lv' := [(0, p_rf g o0), (1, .int i1), (2, .int i2), (3, .int (0 : Int32))]) [1, 2, 3, 0] rfl ?_
      refine tX12_when_L37 hg C o0 i1 i2 (fun h9 => ?_) FU (0 : Int32) h8
      refine r_bipush C dX12_when_94 k_bm2 ?_
      exact r_iret C dX12_when_96
    · refine r_iconst C dX12_when_21 k_im1 ?_
      exact r_iret C dX12_when_22
set_option maxRecDepth 100000 in
set_option maxHeartbeats 4000000 in
theorem tX12_lacks_J113_31 {K : AC} {g : WG} (hg : p_al g = false)  (C : Cx K g cX12_lacks 7 RX12 (some .int) "lacks" 3 0 0) (o0 : Nat) (i1 : Int32) (i2 : Int32) (i3 : Int32) (i4 : Int32) (i5 : Int32)    {rc : Int32 → Int32 → Int32 → PH → Option (Int32 × PH)} {kx : Int32 → Int32 → PH → Option (Int32 × PH)} (hr : ∀ (i3' : Int32) (i4' : Int32) (i5' : Int32) (h : PH), VX K g 7 0 0 (a_fin K g 0 0 em_i) 31 [(0, p_rf g o0), (1, .int i1), (2, .int i2), (3, .int i3'), (4, .int i4'), (5, .int i5')] [] h (rc i3' i4' i5' h)) (hk : ∀ (i3' : Int32) (i4' : Int32) (h : PH), VX K g 7 0 0 (a_fin K g 0 0 em_i) 119 [(0, p_rf g o0), (3, .int i3'), (4, .int i4')] [] h (kx i3' i4' h)) (h : PH) : VX K g 7 0 0 (a_fin K g 0 0 em_i) 113 [(0, p_rf g o0), (1, .int i1), (2, .int i2), (3, .int i3), (4, .int i4), (5, .int i5)] [] h (fX12_lacks_J113_31 rc kx o0 i1 i2 i3 i4 i5 h) := by
  unfold fX12_lacks_J113_31
  refine r_iinc (lv' := [(0, p_rf g o0), (1, .int i1), (2, .int i2), (3, .int i3), (4, .int i4)]) C dX12_lacks_113 5 rfl k_i1 (by decide) (fun _ => rfl) (fun x1 => ?_)
  refine r_goto (tgt := 31) C dX12_lacks_116 (by decide) ?_
  refine r_perm (lv' := [(0, p_rf g o0), (1, .int i1), (2, .int i2), (3, .int i3), (4, .int i4), (5, .int x1)]) [1, 2, 3, 4, 5, 0] rfl ?_
  exact hr i3 i4 x1 h
set_option maxRecDepth 100000 in
set_option maxHeartbeats 4000000 in
theorem tX12_lacks_L31 {K : AC} {g : WG} (hg : p_al g = false)  (C : Cx K g cX12_lacks 7 RX12 (some .int) "lacks" 3 0 0) (o0 : Nat) (i1 : Int32) (i2 : Int32) {kx : Int32 → Int32 → PH → Option (Int32 × PH)} (hk : ∀ (i3 : Int32) (i4 : Int32) (h : PH), VX K g 7 0 0 (a_fin K g 0 0 em_i) 119 [(0, p_rf g o0), (3, .int i3), (4, .int i4)] [] h (kx i3 i4 h)) : ∀ (n : Nat) (i3 : Int32) (i4 : Int32) (i5 : Int32) (h : PH), VX K g 7 0 0 (a_fin K g 0 0 em_i) 31 [(0, p_rf g o0), (1, .int i1), (2, .int i2), (3, .int i3), (4, .int i4), (5, .int i5)] [] h (fX12_lacks_L31 o0 i1 i2 kx n i3 i4 i5 h) := by
  intro n
  induction n with
  | zero =>
    intros
    exact r_none
  | succ n ih =>
    intro i3 i4 i5 h
    rw [fX12_lacks_L31]
    refine r_iload C dX12_lacks_31 5 rfl ?_
    refine r_aload_n C dX12_lacks_33 0 rfl ?_
    refine r_gr C wf_X12_22_11 dX12_lacks_34 (fun q1 => ?_)
    refine r_iload_n C dX12_lacks_37 2 rfl ?_
    refine r_iald C dX12_lacks_38 (fun x2 => ?_)
    refine r_icmp_ge (tgt := 119) C dX12_lacks_39 (by decide) ?_ ?_
    · refine r_perm (lv' := [(0, p_rf g o0), (3, .int i3), (4, .int i4)]) [0, 3, 4] rfl ?_
      exact hk i3 i4 h
    · refine r_aload_n C dX12_lacks_42 0 rfl ?_
      refine r_aload_n C dX12_lacks_43 0 rfl ?_
      refine r_gr C wf_X12_9_11 dX12_lacks_44 (fun q3 => ?_)
      refine r_iload_n C dX12_lacks_47 1 rfl ?_
      refine r_iload_n C dX12_lacks_48 2 rfl ?_
      refine r_iload C dX12_lacks_49 5 rfl ?_
      refine r_cvi (As := [p_rf g q3, .int i1, .int i2, .int i5]) (st := []) C wv_X12_253 (tcX12_isTerm K.2.1 g hg o0 q3 i1 i2 i5 h) (Nat.le_of_ble_eq_true rfl) rfl rfl (Nat.le_of_ble_eq_true rfl) dX12_lacks_51 ⟨Nat.le_of_ble_eq_true rfl, Nat.le_of_ble_eq_true rfl⟩ (fun x4 h5 => ?_)
      refine r_if_eq (tgt := 60) C dX12_lacks_54 (by decide) ?_ ?_
      · refine r_bipush C dX12_lacks_60 k_b9 ?_
        refine r_iload_n C dX12_lacks_62 2 rfl ?_
        refine r_imul C dX12_lacks_63 ?_
        refine r_iconst C dX12_lacks_64 k_i3 ?_
        refine r_iload C dX12_lacks_65 5 rfl ?_
        refine r_imul C dX12_lacks_67 ?_
        refine r_iadd C dX12_lacks_68 ?_
        refine r_topi (fun x6 => ?_)
        refine r_istore (lv9 := [(6, .int x6), (0, p_rf g o0), (1, .int i1), (2, .int i2), (3, .int i3), (4, .int i4), (5, .int i5)]) C dX12_lacks_69 (by decide) rfl ?_
        refine r_iload_n C dX12_lacks_71 4 rfl ?_
        refine r_iconst C dX12_lacks_72 k_i1 ?_
        refine r_iload C dX12_lacks_73 6 rfl ?_
        refine r_ishl C dX12_lacks_75 ?_
        refine r_ior C dX12_lacks_76 ?_
        refine r_topi (fun x7 => ?_)
        refine r_istore_n (lv9 := [(3, .int x7), (6, .int x6), (0, p_rf g o0), (1, .int i1), (2, .int i2), (4, .int i4), (5, .int i5)]) C dX12_lacks_77 (by decide) rfl ?_
        refine r_iload C dX12_lacks_78 5 rfl ?_
        refine r_aload_n C dX12_lacks_80 2 rfl ?_
        refine r_gr C wf_X12_9_11 dX12_lacks_81 (fun q8 => ?_)
        refine r_iload_n C dX12_lacks_84 3 rfl ?_
        refine r_aload_n C dX12_lacks_85 2 rfl ?_
        refine r_gr C wf_X12_25_11 dX12_lacks_86 (fun q9 => ?_)
        refine r_iload C dX12_lacks_89 1 rfl ?_
        refine r_iald C dX12_lacks_91 (fun x10 => ?_)
        refine r_csi (As := [p_rf g q8, .int i1, .int x10]) (st := [.int i4]) C ws_X12_232 (tcX12_humour K.2.1 g hg q8 i1 x10 h5) (Nat.le_of_ble_eq_true rfl) rfl rfl (Nat.le_of_ble_eq_true rfl) dX12_lacks_92 ⟨Nat.le_of_ble_eq_true rfl, Nat.le_of_ble_eq_true rfl⟩ (fun x11 h12 => ?_)
        refine r_aload_n C dX12_lacks_95 2 rfl ?_
        refine r_gr C wf_X12_25_11 dX12_lacks_96 (fun q13 => ?_)
        refine r_iload C dX12_lacks_99 1 rfl ?_
        refine r_iconst C dX12_lacks_101 k_i2 ?_
        refine r_iadd C dX12_lacks_102 ?_
        refine r_iald C dX12_lacks_103 (fun x14 => ?_)
        refine r_isub C dX12_lacks_104 ?_
        refine r_topi (fun x15 => ?_)
        refine r_abs C wm_X12_348 (Nat.le_of_ble_eq_true rfl) (Nat.le_of_ble_eq_true rfl) ⟨Nat.le_of_ble_eq_true rfl, Nat.le_of_ble_eq_true rfl⟩ dX12_lacks_105 ?_
        refine r_iconst C dX12_lacks_108 k_i1 ?_
        refine r_iadd C dX12_lacks_109 ?_
        refine r_iadd C dX12_lacks_110 ?_
        refine r_topi (fun x16 => ?_)
        refine r_istore (lv9 := [(4, .int x16), (3, .int x7), (6, .int x6), (0, p_rf g o0), (1, .int i1), (2, .int i2), (5, .int i5)]) C dX12_lacks_111 (by decide) rfl ?_
        refine r_perm (lv' := [(0, p_rf g o0), (1, .int i1), (2, .int i2), (3, .int x7), (4, .int x16), (5, .int i5)]) [3, 4, 5, 1, 0, 6] rfl ?_
        exact tX12_lacks_J113_31 hg C o0 i1 i2 x7 x16 i5 ih hk h12
      · refine r_goto (tgt := 113) C dX12_lacks_57 (by decide) ?_
        exact tX12_lacks_J113_31 hg C o0 i1 i2 i3 i4 i5 ih hk h5
set_option maxRecDepth 100000 in
set_option maxHeartbeats 4000000 in
theorem tcX12_lacks (l : Launch) (g : WG) (hg : p_al g = false) (o0 : Nat) (i1 : Int32) (i2 : Int32) (h : PH) : CT l g 3 0 0 yX12_lacks cX12_lacks 7 (some .int) em_i [p_rf g o0, .int i1, .int i2] h (fX12_lacks o0 i1 i2 h) := by
  refine CT_of (own := RX12) (nm := "lacks") (by decide +kernel) (Nat.le_of_ble_eq_true rfl) rfl rfl rfl ⟨rfl, rfl⟩ (fun K hK C => ?_)
  subst hK
  unfold fX12_lacks
  show VX K g _ _ _ _ _ [(0, p_rf g o0), (1, .int i1), (2, .int i2)] _ _ _
  refine r_aload_n C dX12_lacks_0 0 rfl ?_
  refine r_iconst C dX12_lacks_1 k_i0 ?_
  refine r_pi C wf_X12_109_11 dX12_lacks_2 (fun h1 => ?_)
  refine r_aload_n C dX12_lacks_5 0 rfl ?_
  refine r_iload_n C dX12_lacks_6 1 rfl ?_
  refine r_cvi (As := [.int i1]) (st := []) C wv_X12_278 (tcX12_isMan K.2.1 g hg o0 i1 h1) (Nat.le_of_ble_eq_true rfl) rfl rfl (Nat.le_of_ble_eq_true rfl) dX12_lacks_7 ⟨Nat.le_of_ble_eq_true rfl, Nat.le_of_ble_eq_true rfl⟩ (fun x2 h3 => ?_)
  refine r_if_eq (tgt := 21) C dX12_lacks_10 (by decide) ?_ ?_
  · refine r_iconst C dX12_lacks_21 k_im1 ?_
    exact r_iret C dX12_lacks_22
  · refine r_aload_n C dX12_lacks_13 0 rfl ?_
    refine r_iload_n C dX12_lacks_14 2 rfl ?_
    refine r_cvi (As := [.int i2]) (st := []) C wv_X12_345 (tcX12_isWant K.2.1 g hg o0 i2 h3) (Nat.le_of_ble_eq_true rfl) rfl rfl (Nat.le_of_ble_eq_true rfl) dX12_lacks_15 ⟨Nat.le_of_ble_eq_true rfl, Nat.le_of_ble_eq_true rfl⟩ (fun x4 h5 => ?_)
    refine r_if_ne (tgt := 23) C dX12_lacks_18 (by decide) ?_ ?_
    · refine r_iconst C dX12_lacks_23 k_i0 ?_
      refine r_istore_n (lv9 := [(3, .int (0 : Int32)), (0, p_rf g o0), (1, .int i1), (2, .int i2)]) C dX12_lacks_24 (by decide) rfl ?_
      refine r_iconst C dX12_lacks_25 k_i0 ?_
      refine r_istore (lv9 := [(4, .int (0 : Int32)), (3, .int (0 : Int32)), (0, p_rf g o0), (1, .int i1), (2, .int i2)]) C dX12_lacks_26 (by decide) rfl ?_
      refine r_iconst C dX12_lacks_28 k_i0 ?_
      refine r_istore (lv9 := [(5, .int (0 : Int32)), (4, .int (0 : Int32)), (3, .int (0 : Int32)), (0, p_rf g o0), (1, .int i1), (2, .int i2)]) C dX12_lacks_29 (by decide) rfl ?_
      refine r_perm (lv' := [(0, p_rf g o0), (1, .int i1), (2, .int i2), (3, .int (0 : Int32)), (4, .int (0 : Int32)), (5, .int (0 : Int32))]) [3, 4, 5, 2, 1, 0] rfl ?_
      refine tX12_lacks_L31 hg C o0 i1 i2 (fun x6 x7 h8 => ?_) FU (0 : Int32) (0 : Int32) (0 : Int32) h5
      refine r_aload_n C dX12_lacks_119 0 rfl ?_
      refine r_iconst C dX12_lacks_120 k_i0 ?_
      refine r_pi C wf_X12_113_11 dX12_lacks_121 (fun h9 => ?_)
      refine r_aload_n C dX12_lacks_124 0 rfl ?_
      refine r_iload C dX12_lacks_125 2 rfl ?_
      refine r_i2l C dX12_lacks_127 ?_
      refine r_cvv (As := [.long (x7.toInt64)]) (st := []) C wv_X12_329 (tcX12_tell K.2.1 g hg o0 (x7.toInt64) h9) (Nat.le_of_ble_eq_true rfl) rfl rfl (Nat.le_of_ble_eq_true rfl) dX12_lacks_128 ⟨Nat.le_of_ble_eq_true rfl, Nat.le_of_ble_eq_true rfl⟩ (fun h10 => ?_)
      refine r_iload_n C dX12_lacks_131 1 rfl ?_
      exact r_iret C dX12_lacks_132
    · refine r_iconst C dX12_lacks_21 k_im1 ?_
      exact r_iret C dX12_lacks_22
set_option maxRecDepth 100000 in
set_option maxHeartbeats 4000000 in
theorem tX12_richest_J61_21 {K : AC} {g : WG} (hg : p_al g = false)  (C : Cx K g cX12_richest 4 RX12 (some .int) "richest" 5 0 0) (o0 : Nat) (i2 : Int32) (i3 : Int32) (s0 : Int32)    {rc : Int32 → Int32 → Int32 → PH → Option (Int32 × PH)} {kx : Int32 → Int32 → PH → Option (Int32 × PH)} (hr : ∀ (i1' : Int32) (i2' : Int32) (i3' : Int32) (h : PH), VX K g 4 0 0 (a_fin K g 0 0 em_i) 21 [(0, p_rf g o0), (1, .int i1'), (2, .int i2'), (3, .int i3')] [] h (rc i1' i2' i3' h)) (hk : ∀ (i1' : Int32) (i2' : Int32) (h : PH), VX K g 4 0 0 (a_fin K g 0 0 em_i) 80 [(0, p_rf g o0), (1, .int i1'), (2, .int i2')] [] h (kx i1' i2' h)) (h : PH) : VX K g 4 0 0 (a_fin K g 0 0 em_i) 61 [(0, p_rf g o0), (2, .int i2), (3, .int i3)] [.int s0] h (fX12_richest_J61_21 rc kx o0 i2 i3 s0 h) := by
  unfold fX12_richest_J61_21
  refine r_istore_n (lv9 := [(1, .int s0), (0, p_rf g o0), (2, .int i2), (3, .int i3)]) C dX12_richest_61 (by decide) rfl ?_
  refine r_iload_n C dX12_richest_62 2 rfl ?_
  refine r_aload_n C dX12_richest_63 1 rfl ?_
  refine r_aload_n C dX12_richest_64 1 rfl ?_
  refine r_gr C wf_X12_9_11 dX12_richest_65 (fun q1 => ?_)
  refine r_iload_n C dX12_richest_68 3 rfl ?_
  refine r_cvi (As := [p_rf g q1, .int i3]) (st := [.int i2]) C wv_X12_261 (tcX12_had K.2.1 g hg o0 q1 i3 h) (Nat.le_of_ble_eq_true rfl) rfl rfl (Nat.le_of_ble_eq_true rfl) dX12_richest_69 ⟨Nat.le_of_ble_eq_true rfl, Nat.le_of_ble_eq_true rfl⟩ (fun x2 h3 => ?_)
  refine r_ior C dX12_richest_72 ?_
  refine r_topi (fun x4 => ?_)
  refine r_istore_n (lv9 := [(2, .int x4), (1, .int s0), (0, p_rf g o0), (3, .int i3)]) C dX12_richest_73 (by decide) rfl ?_
  refine r_iinc (lv' := [(2, .int x4), (1, .int s0), (0, p_rf g o0)]) C dX12_richest_74 3 rfl k_i1 (by decide) (fun _ => rfl) (fun x5 => ?_)
  refine r_goto (tgt := 21) C dX12_richest_77 (by decide) ?_
  refine r_perm (lv' := [(0, p_rf g o0), (1, .int s0), (2, .int x4), (3, .int x5)]) [3, 2, 1, 0] rfl ?_
  exact hr s0 x4 x5 h3
set_option maxRecDepth 100000 in
set_option maxHeartbeats 4000000 in
theorem tX12_richest_L21 {K : AC} {g : WG} (hg : p_al g = false)  (C : Cx K g cX12_richest 4 RX12 (some .int) "richest" 5 0 0) (o0 : Nat) {kx : Int32 → Int32 → PH → Option (Int32 × PH)} (hk : ∀ (i1 : Int32) (i2 : Int32) (h : PH), VX K g 4 0 0 (a_fin K g 0 0 em_i) 80 [(0, p_rf g o0), (1, .int i1), (2, .int i2)] [] h (kx i1 i2 h)) : ∀ (n : Nat) (i1 : Int32) (i2 : Int32) (i3 : Int32) (h : PH), VX K g 4 0 0 (a_fin K g 0 0 em_i) 21 [(0, p_rf g o0), (1, .int i1), (2, .int i2), (3, .int i3)] [] h (fX12_richest_L21 o0 kx n i1 i2 i3 h) := by
  intro n
  induction n with
  | zero =>
    intros
    exact r_none
  | succ n ih =>
    intro i1 i2 i3 h
    rw [fX12_richest_L21]
    refine r_iload_n C dX12_richest_21 3 rfl ?_
    refine r_aload_n C dX12_richest_22 0 rfl ?_
    refine r_gi C wf_X12_123_11 dX12_richest_23 (fun x1 => ?_)
    refine r_icmp_ge (tgt := 80) C dX12_richest_26 (by decide) ?_ ?_
    · refine r_perm (lv' := [(0, p_rf g o0), (1, .int i1), (2, .int i2)]) [0, 1, 2] rfl ?_
      exact hk i1 i2 h
    · refine r_aload_n C dX12_richest_29 0 rfl ?_
      refine r_aload_n C dX12_richest_30 0 rfl ?_
      refine r_gr C wf_X12_9_11 dX12_richest_31 (fun q2 => ?_)
      refine r_iload_n C dX12_richest_34 3 rfl ?_
      refine r_cvi (As := [p_rf g q2, .int i3]) (st := []) C wv_X12_261 (tcX12_had K.2.1 g hg o0 q2 i3 h) (Nat.le_of_ble_eq_true rfl) rfl rfl (Nat.le_of_ble_eq_true rfl) dX12_richest_35 ⟨Nat.le_of_ble_eq_true rfl, Nat.le_of_ble_eq_true rfl⟩ (fun x3 h4 => ?_)
      refine r_csi (As := [.int x3]) (st := []) C ws_X12_242 (tcJ6_bitCount_0f7a4 K.2.1 g hg x3 h4) (Nat.le_of_ble_eq_true rfl) rfl rfl (Nat.le_of_ble_eq_true rfl) dX12_richest_38 ⟨Nat.le_of_ble_eq_true rfl, Nat.le_of_ble_eq_true rfl⟩ (fun x5 h6 => ?_)
      refine r_aload_n C dX12_richest_41 0 rfl ?_
      refine r_aload_n C dX12_richest_42 0 rfl ?_
      refine r_gr C wf_X12_9_11 dX12_richest_43 (fun q7 => ?_)
      refine r_iload_n C dX12_richest_46 1 rfl ?_
      refine r_cvi (As := [p_rf g q7, .int i1]) (st := [.int x5]) C wv_X12_261 (tcX12_had K.2.1 g hg o0 q7 i1 h6) (Nat.le_of_ble_eq_true rfl) rfl rfl (Nat.le_of_ble_eq_true rfl) dX12_richest_47 ⟨Nat.le_of_ble_eq_true rfl, Nat.le_of_ble_eq_true rfl⟩ (fun x8 h9 => ?_)
      refine r_csi (As := [.int x8]) (st := [.int x5]) C ws_X12_242 (tcJ6_bitCount_0f7a4 K.2.1 g hg x8 h9) (Nat.le_of_ble_eq_true rfl) rfl rfl (Nat.le_of_ble_eq_true rfl) dX12_richest_50 ⟨Nat.le_of_ble_eq_true rfl, Nat.le_of_ble_eq_true rfl⟩ (fun x10 h11 => ?_)
      refine r_icmp_le (tgt := 60) C dX12_richest_53 (by decide) ?_ ?_
      · refine r_iload_n C dX12_richest_60 1 rfl ?_
        refine r_perm (lv' := [(0, p_rf g o0), (2, .int i2), (3, .int i3)]) [0, 2, 3] rfl ?_
        exact tX12_richest_J61_21 hg C o0 i2 i3 i1 ih hk h11
      · refine r_iload_n C dX12_richest_56 3 rfl ?_
        refine r_goto (tgt := 61) C dX12_richest_57 (by decide) ?_
        refine r_perm (lv' := [(0, p_rf g o0), (2, .int i2), (3, .int i3)]) [0, 2, 3] rfl ?_
        exact tX12_richest_J61_21 hg C o0 i2 i3 i3 ih hk h11
set_option maxRecDepth 100000 in
set_option maxHeartbeats 4000000 in
theorem tcX12_richest (l : Launch) (g : WG) (hg : p_al g = false) (o0 : Nat) (h : PH) : CT l g 5 0 0 yX12_richest cX12_richest 4 (some .int) em_i [p_rf g o0] h (fX12_richest o0 h) := by
  refine CT_of (own := RX12) (nm := "richest") (by decide +kernel) (Nat.le_of_ble_eq_true rfl) rfl rfl rfl ⟨rfl, rfl⟩ (fun K hK C => ?_)
  subst hK
  unfold fX12_richest
  show VX K g _ _ _ _ _ [(0, p_rf g o0)] _ _ _
  refine r_aload_n C dX12_richest_0 0 rfl ?_
  refine r_iconst C dX12_richest_1 k_i0 ?_
  refine r_pi C wf_X12_109_11 dX12_richest_2 (fun h1 => ?_)
  refine r_aload_n C dX12_richest_5 0 rfl ?_
  refine r_gi C wf_X12_123_11 dX12_richest_6 (fun x2 => ?_)
  refine r_if_ne (tgt := 15) C dX12_richest_9 (by decide) ?_ ?_
  · refine r_iconst C dX12_richest_15 k_i0 ?_
    refine r_istore_n (lv9 := [(1, .int (0 : Int32)), (0, p_rf g o0)]) C dX12_richest_16 (by decide) rfl ?_
    refine r_iconst C dX12_richest_17 k_i0 ?_
    refine r_istore_n (lv9 := [(2, .int (0 : Int32)), (1, .int (0 : Int32)), (0, p_rf g o0)]) C dX12_richest_18 (by decide) rfl ?_
    refine r_iconst C dX12_richest_19 k_i0 ?_
    refine r_istore_n (lv9 := [(3, .int (0 : Int32)), (2, .int (0 : Int32)), (1, .int (0 : Int32)), (0, p_rf g o0)]) C dX12_richest_20 (by decide) rfl ?_
    refine r_perm (lv' := [(0, p_rf g o0), (1, .int (0 : Int32)), (2, .int (0 : Int32)), (3, .int (0 : Int32))]) [3, 2, 1, 0] rfl ?_
    refine tX12_richest_L21 hg C o0 (fun x3 x4 h5 => ?_) FU (0 : Int32) (0 : Int32) (0 : Int32) h1
    refine r_aload_n C dX12_richest_80 0 rfl ?_
    refine r_iconst C dX12_richest_81 k_i0 ?_
    refine r_pi C wf_X12_113_11 dX12_richest_82 (fun h6 => ?_)
    refine r_aload_n C dX12_richest_85 0 rfl ?_
    refine r_aload_n C dX12_richest_86 0 rfl ?_
    refine r_aload_n C dX12_richest_87 0 rfl ?_
    refine r_gr C wf_X12_9_11 dX12_richest_88 (fun q7 => ?_)
    refine r_iload_n C dX12_richest_91 1 rfl ?_
    refine r_cvi (As := [p_rf g q7, .int x3]) (st := [p_rf g o0]) C wv_X12_261 (tcX12_had K.2.1 g hg o0 q7 x3 h6) (Nat.le_of_ble_eq_true rfl) rfl rfl (Nat.le_of_ble_eq_true rfl) dX12_richest_92 ⟨Nat.le_of_ble_eq_true rfl, Nat.le_of_ble_eq_true rfl⟩ (fun x8 h9 => ?_)
    refine r_i2l C dX12_richest_95 ?_
    refine r_cvv (As := [.long (x8.toInt64)]) (st := []) C wv_X12_329 (tcX12_tell K.2.1 g hg o0 (x8.toInt64) h9) (Nat.le_of_ble_eq_true rfl) rfl rfl (Nat.le_of_ble_eq_true rfl) dX12_richest_96 ⟨Nat.le_of_ble_eq_true rfl, Nat.le_of_ble_eq_true rfl⟩ (fun h10 => ?_)
    refine r_aload_n C dX12_richest_99 0 rfl ?_
    refine r_iconst C dX12_richest_100 k_i1 ?_
    refine r_aload_n C dX12_richest_101 0 rfl ?_
    refine r_gi C wf_X12_126_11 dX12_richest_102 (fun x11 => ?_)
    refine r_ishl C dX12_richest_105 ?_
    refine r_iconst C dX12_richest_106 k_i1 ?_
    refine r_isub C dX12_richest_107 ?_
    refine r_iload_n C dX12_richest_108 2 rfl ?_
    refine r_iconst C dX12_richest_109 k_im1 ?_
    refine r_ixor C dX12_richest_110 ?_
    refine r_iand C dX12_richest_111 ?_
    refine r_i2l C dX12_richest_112 ?_
    refine r_cvv (As := [.long (((((1 : Int32) <<< (x11 &&& 31)) - (1 : Int32)) &&& (x4 ^^^ (-1 : Int32))).toInt64)]) (st := []) C wv_X12_329 (tcX12_tell K.2.1 g hg o0 (((((1 : Int32) <<< (x11 &&& 31)) - (1 : Int32)) &&& (x4 ^^^ (-1 : Int32))).toInt64) h10) (Nat.le_of_ble_eq_true rfl) rfl rfl (Nat.le_of_ble_eq_true rfl) dX12_richest_113 ⟨Nat.le_of_ble_eq_true rfl, Nat.le_of_ble_eq_true rfl⟩ (fun h12 => ?_)
    refine r_iload_n C dX12_richest_116 1 rfl ?_
    exact r_iret C dX12_richest_117
  · refine r_bipush C dX12_richest_12 k_bm2 ?_
    exact r_iret C dX12_richest_14
set_option maxRecDepth 100000 in
set_option maxHeartbeats 4000000 in
theorem tX12_apart_L70 {K : AC} {g : WG} (hg : p_al g = false)  (C : Cx K g cX12_apart 7 RX12 (some .int) "apart" 612 0 0) (o0 : Nat) (i1 : Int32) (i2 : Int32) {kx : Int32 → PH → Option (Int32 × PH)} (hk : ∀ (i4 : Int32) (h : PH), VX K g 7 0 0 (a_fin K g 0 0 em_i) 122 [(4, .int i4)] [] h (kx i4 h)) : ∀ (n : Nat) (i4 : Int32) (i5 : Int32) (h : PH), VX K g 7 0 0 (a_fin K g 0 0 em_i) 70 [(0, p_rf g o0), (1, .int i1), (2, .int i2), (4, .int i4), (5, .int i5)] [] h (fX12_apart_L70 o0 i1 i2 kx n i4 i5 h) := by
  intro n
  induction n with
  | zero =>
    intros
    exact r_none
  | succ n ih =>
    intro i4 i5 h
    rw [fX12_apart_L70]
    refine r_iload C dX12_apart_70 4 rfl ?_
    refine r_iconst C dX12_apart_72 k_i4 ?_
    refine r_icmp_ge (tgt := 122) C dX12_apart_73 (by decide) ?_ ?_
    · refine r_perm (lv' := [(4, .int i4)]) [3] rfl ?_
      exact hk i4 h
    · refine r_aload_n C dX12_apart_76 0 rfl ?_
      refine r_gr C wf_X12_57_11 dX12_apart_77 (fun q1 => ?_)
      refine r_iload_n C dX12_apart_80 1 rfl ?_
      refine r_iload C dX12_apart_81 4 rfl ?_
      refine r_csi (As := [p_rf g q1, .int i1, .int i5]) (st := []) C ws_X12_232 (tcX12_humour K.2.1 g hg q1 i1 i5 h) (Nat.le_of_ble_eq_true rfl) rfl rfl (Nat.le_of_ble_eq_true rfl) dX12_apart_83 ⟨Nat.le_of_ble_eq_true rfl, Nat.le_of_ble_eq_true rfl⟩ (fun x2 h3 => ?_)
      refine r_aload_n C dX12_apart_86 0 rfl ?_
      refine r_gr C wf_X12_57_11 dX12_apart_87 (fun q4 => ?_)
      refine r_iload_n C dX12_apart_90 2 rfl ?_
      refine r_iload C dX12_apart_91 4 rfl ?_
      refine r_csi (As := [p_rf g q4, .int i2, .int i5]) (st := [.int x2]) C ws_X12_232 (tcX12_humour K.2.1 g hg q4 i2 i5 h3) (Nat.le_of_ble_eq_true rfl) rfl rfl (Nat.le_of_ble_eq_true rfl) dX12_apart_93 ⟨Nat.le_of_ble_eq_true rfl, Nat.le_of_ble_eq_true rfl⟩ (fun x5 h6 => ?_)
      refine r_isub C dX12_apart_96 ?_
      refine r_topi (fun x7 => ?_)
      refine r_istore (lv9 := [(6, .int x7), (0, p_rf g o0), (1, .int i1), (2, .int i2), (4, .int i4), (5, .int i5)]) C dX12_apart_97 (by decide) rfl ?_
      refine r_iload C dX12_apart_99 4 rfl ?_
      refine r_iload C dX12_apart_101 0 rfl ?_
      refine r_abs C wm_X12_348 (Nat.le_of_ble_eq_true rfl) (Nat.le_of_ble_eq_true rfl) ⟨Nat.le_of_ble_eq_true rfl, Nat.le_of_ble_eq_true rfl⟩ dX12_apart_103 ?_
      refine r_iadd C dX12_apart_106 ?_
      refine r_topi (fun x8 => ?_)
      refine r_istore (lv9 := [(4, .int x8), (6, .int x7), (0, p_rf g o0), (1, .int i1), (2, .int i2), (5, .int i5)]) C dX12_apart_107 (by decide) rfl ?_
      refine r_aload_n C dX12_apart_109 2 rfl ?_
      refine r_iload C dX12_apart_110 1 rfl ?_
      refine r_i2l C dX12_apart_112 ?_
      refine r_cvv (As := [.long (x7.toInt64)]) (st := []) C wv_X12_329 (tcX12_tell K.2.1 g hg o0 (x7.toInt64) h6) (Nat.le_of_ble_eq_true rfl) rfl rfl (Nat.le_of_ble_eq_true rfl) dX12_apart_113 ⟨Nat.le_of_ble_eq_true rfl, Nat.le_of_ble_eq_true rfl⟩ (fun h9 => ?_)
      refine r_iinc (lv' := [(4, .int x8), (6, .int x7), (0, p_rf g o0), (1, .int i1), (2, .int i2)]) C dX12_apart_116 5 rfl k_i1 (by decide) (fun _ => rfl) (fun x10 => ?_)
      refine r_goto (tgt := 70) C dX12_apart_119 (by decide) ?_
      refine r_perm (lv' := [(0, p_rf g o0), (1, .int i1), (2, .int i2), (4, .int x8), (5, .int x10)]) [3, 4, 5, 1, 0] rfl ?_
      exact ih x8 x10 h9
set_option maxRecDepth 100000 in
set_option maxHeartbeats 4000000 in
theorem tcX12_apart (l : Launch) (g : WG) (hg : p_al g = false) (o0 : Nat) (i1 : Int32) (i2 : Int32) (i3 : Int32) (h : PH) : CT l g 612 0 0 yX12_apart cX12_apart 7 (some .int) em_i [p_rf g o0, .int i1, .int i2, .int i3] h (fX12_apart o0 i1 i2 i3 h) := by
  refine CT_of (own := RX12) (nm := "apart") (by decide +kernel) (Nat.le_of_ble_eq_true rfl) rfl rfl rfl ⟨rfl, rfl⟩ (fun K hK C => ?_)
  subst hK
  unfold fX12_apart
  show VX K g _ _ _ _ _ [(0, p_rf g o0), (1, .int i1), (2, .int i2), (3, .int i3)] _ _ _
  refine r_aload_n C dX12_apart_0 0 rfl ?_
  refine r_iconst C dX12_apart_1 k_i0 ?_
  refine r_pi C wf_X12_109_11 dX12_apart_2 (fun h1 => ?_)
  refine r_aload_n C dX12_apart_5 0 rfl ?_
  refine r_iload_n C dX12_apart_6 1 rfl ?_
  refine r_cvi (As := [.int i1]) (st := []) C wv_X12_278 (tcX12_isMan K.2.1 g hg o0 i1 h1) (Nat.le_of_ble_eq_true rfl) rfl rfl (Nat.le_of_ble_eq_true rfl) dX12_apart_7 ⟨Nat.le_of_ble_eq_true rfl, Nat.le_of_ble_eq_true rfl⟩ (fun x2 h3 => ?_)
  refine r_if_eq (tgt := 36) C dX12_apart_10 (by decide) ?_ ?_
  · refine r_iconst C dX12_apart_36 k_im1 ?_
    exact r_iret C dX12_apart_37
  · refine r_aload_n C dX12_apart_13 0 rfl ?_
    refine r_iload_n C dX12_apart_14 2 rfl ?_
    refine r_cvi (As := [.int i2]) (st := []) C wv_X12_278 (tcX12_isMan K.2.1 g hg o0 i2 h3) (Nat.le_of_ble_eq_true rfl) rfl rfl (Nat.le_of_ble_eq_true rfl) dX12_apart_15 ⟨Nat.le_of_ble_eq_true rfl, Nat.le_of_ble_eq_true rfl⟩ (fun x4 h5 => ?_)
    refine r_if_eq (tgt := 36) C dX12_apart_18 (by decide) ?_ ?_
    · refine r_iconst C dX12_apart_36 k_im1 ?_
      exact r_iret C dX12_apart_37
    · refine r_iload_n C dX12_apart_21 1 rfl ?_
      refine r_iload_n C dX12_apart_22 2 rfl ?_
      refine r_icmp_eq (tgt := 36) C dX12_apart_23 (by decide) ?_ ?_
      · refine r_iconst C dX12_apart_36 k_im1 ?_
        exact r_iret C dX12_apart_37
      · refine r_iload_n C dX12_apart_26 3 rfl ?_
        refine r_iconst C dX12_apart_27 k_i0 ?_
        refine r_bipush C dX12_apart_28 k_b99 ?_
        refine r_csi (As := [.int i3, .int (0 : Int32), .int (99 : Int32)]) (st := []) C ws_X12_119 (tcX12_in K.2.1 g hg i3 (0 : Int32) (99 : Int32) h5) (Nat.le_of_ble_eq_true rfl) rfl rfl (Nat.le_of_ble_eq_true rfl) dX12_apart_30 ⟨Nat.le_of_ble_eq_true rfl, Nat.le_of_ble_eq_true rfl⟩ (fun x6 h7 => ?_)
        refine r_if_ne (tgt := 38) C dX12_apart_33 (by decide) ?_ ?_
        · refine r_aload_n C dX12_apart_38 0 rfl ?_
          refine r_gr C wf_X12_9_11 dX12_apart_39 (fun q8 => ?_)
          refine r_aload_n C dX12_apart_42 0 rfl ?_
          refine r_gr C wf_X12_57_11 dX12_apart_43 (fun q9 => ?_)
          refine r_iconst C dX12_apart_46 k_i0 ?_
          refine r_csv (As := [p_rf g q8, p_rf g q9, .int (0 : Int32)]) (st := []) C ws_X12_284 (tcX12_lay K.2.1 g hg q8 q9 (0 : Int32) h7) (Nat.le_of_ble_eq_true rfl) rfl rfl (Nat.le_of_ble_eq_true rfl) dX12_apart_47 ⟨Nat.le_of_ble_eq_true rfl, Nat.le_of_ble_eq_true rfl⟩ (fun h10 => ?_)
          refine r_aload_n C dX12_apart_50 0 rfl ?_
          refine r_aload_n C dX12_apart_51 0 rfl ?_
          refine r_gr C wf_X12_57_11 dX12_apart_52 (fun q11 => ?_)
          refine r_iload_n C dX12_apart_55 3 rfl ?_
          refine r_cvv (As := [p_rf g q11, .int i3]) (st := []) C wv_X12_322 (tcX12_goDays K.2.1 g hg o0 q11 i3 h10) (Nat.le_of_ble_eq_true rfl) rfl rfl (Nat.le_of_ble_eq_true rfl) dX12_apart_56 ⟨Nat.le_of_ble_eq_true rfl, Nat.le_of_ble_eq_true rfl⟩ (fun h12 => ?_)
          refine r_iconst C dX12_apart_59 k_i0 ?_
          refine r_istore (lv9 := [(4, .int (0 : Int32)), (0, p_rf g o0), (1, .int i1), (2, .int i2), (3, .int i3)]) C dX12_apart_60 (by decide) rfl ?_
          refine r_aload_n C dX12_apart_62 1 rfl ?_
          refine r_iconst C dX12_apart_63 k_i0 ?_
          refine r_pi C wf_X12_113_11 dX12_apart_64 (fun h13 => ?_)
          refine r_iconst C dX12_apart_67 k_i0 ?_
          refine r_istore (lv9 := [(5, .int (0 : Int32)), (4, .int (0 : Int32)), (0, p_rf g o0), (1, .int i1), (2, .int i2), (3, .int i3)]) C dX12_apart_68 (by decide) rfl ?_
          refine r_perm (lv' := [(0, p_rf g o0), (1, .int i1), (2, .int i2), (4, .int (0 : Int32)), (5, .int (0 : Int32))]) [2, 3, 4, 1, 0] rfl ?_
          refine tX12_apart_L70 hg C o0 i1 i2 (fun x14 h15 => ?_) FU (0 : Int32) (0 : Int32) h13
          refine r_iload C dX12_apart_122 0 rfl ?_
          exact r_iret C dX12_apart_124
        · refine r_iconst C dX12_apart_36 k_im1 ?_
          exact r_iret C dX12_apart_37
set_option maxRecDepth 100000 in
set_option maxHeartbeats 4000000 in
theorem tX12_goAlone_J70_11 {K : AC} {g : WG} (hg : p_al g = false)  (C : Cx K g cX12_goAlone 3 RX12 none "goAlone" 610 0 0) (o0 : Nat) (i1 : Int32) (i2 : Int32)    {rc : Int32 → PH → Option (Unit × PH)} {kx : PH → Option (Unit × PH)} (hr : ∀ (i2' : Int32) (h : PH), VX K g 3 0 0 (a_fin K g 0 0 em_v) 11 [(0, p_rf g o0), (1, .int i1), (2, .int i2')] [] h (rc i2' h)) (hk : ∀  (h : PH), VX K g 3 0 0 (a_fin K g 0 0 em_v) 76 [(0, p_rf g o0)] [] h (kx  h)) (h : PH) : VX K g 3 0 0 (a_fin K g 0 0 em_v) 70 [(0, p_rf g o0), (1, .int i1), (2, .int i2)] [] h (fX12_goAlone_J70_11 rc kx o0 i1 i2 h) := by
  unfold fX12_goAlone_J70_11
  refine r_iinc (lv' := [(0, p_rf g o0), (1, .int i1)]) C dX12_goAlone_70 2 rfl k_i1 (by decide) (fun _ => rfl) (fun x1 => ?_)
  refine r_goto (tgt := 11) C dX12_goAlone_73 (by decide) ?_
  refine r_perm (lv' := [(0, p_rf g o0), (1, .int i1), (2, .int x1)]) [1, 2, 0] rfl ?_
  exact hr x1 h
set_option maxRecDepth 100000 in
set_option maxHeartbeats 4000000 in
theorem tX12_goAlone_L11 {K : AC} {g : WG} (hg : p_al g = false)  (C : Cx K g cX12_goAlone 3 RX12 none "goAlone" 610 0 0) (o0 : Nat) (i1 : Int32) {kx : PH → Option (Unit × PH)} (hk : ∀  (h : PH), VX K g 3 0 0 (a_fin K g 0 0 em_v) 76 [(0, p_rf g o0)] [] h (kx h)) : ∀ (n : Nat) (i2 : Int32) (h : PH), VX K g 3 0 0 (a_fin K g 0 0 em_v) 11 [(0, p_rf g o0), (1, .int i1), (2, .int i2)] [] h (fX12_goAlone_L11 o0 i1 kx n i2 h) := by
  intro n
  induction n with
  | zero =>
    intros
    exact r_none
  | succ n ih =>
    intro i2 h
    rw [fX12_goAlone_L11]
    refine r_iload_n C dX12_goAlone_11 2 rfl ?_
    refine r_aload_n C dX12_goAlone_12 0 rfl ?_
    refine r_gi C wf_X12_116_11 dX12_goAlone_13 (fun x1 => ?_)
    refine r_icmp_ge (tgt := 76) C dX12_goAlone_16 (by decide) ?_ ?_
    · refine r_perm (lv' := [(0, p_rf g o0)]) [0] rfl ?_
      exact hk h
    · refine r_aload_n C dX12_goAlone_19 0 rfl ?_
      refine r_gr C wf_X12_57_11 dX12_goAlone_20 (fun q2 => ?_)
      refine r_bipush C dX12_goAlone_23 k_b32 ?_
      refine r_iload_n C dX12_goAlone_25 1 rfl ?_
      refine r_iadd C dX12_goAlone_26 ?_
      refine r_iald C dX12_goAlone_27 (fun x3 => ?_)
      refine r_iload_n C dX12_goAlone_28 2 rfl ?_
      refine r_csi (As := [.int x3, .int i2]) (st := []) C ws_X12_265 (tcX12_has K.2.1 g hg x3 i2 h) (Nat.le_of_ble_eq_true rfl) rfl rfl (Nat.le_of_ble_eq_true rfl) dX12_goAlone_29 ⟨Nat.le_of_ble_eq_true rfl, Nat.le_of_ble_eq_true rfl⟩ (fun x4 h5 => ?_)
      refine r_if_eq (tgt := 70) C dX12_goAlone_32 (by decide) ?_ ?_
      · exact tX12_goAlone_J70_11 hg C o0 i1 i2 ih hk h5
      · refine r_aload_n C dX12_goAlone_35 0 rfl ?_
        refine r_gr C wf_X12_57_11 dX12_goAlone_36 (fun q6 => ?_)
        refine r_bipush C dX12_goAlone_39 k_b38 ?_
        refine r_bipush C dX12_goAlone_41 k_b8 ?_
        refine r_iload_n C dX12_goAlone_43 1 rfl ?_
        refine r_imul C dX12_goAlone_44 ?_
        refine r_iadd C dX12_goAlone_45 ?_
        refine r_iload_n C dX12_goAlone_46 2 rfl ?_
        refine r_iadd C dX12_goAlone_47 ?_
        refine r_bipush C dX12_goAlone_48 k_b99 ?_
        refine r_aload_n C dX12_goAlone_50 0 rfl ?_
        refine r_gr C wf_X12_57_11 dX12_goAlone_51 (fun q7 => ?_)
        refine r_bipush C dX12_goAlone_54 k_b38 ?_
        refine r_bipush C dX12_goAlone_56 k_b8 ?_
        refine r_iload_n C dX12_goAlone_58 1 rfl ?_
        refine r_imul C dX12_goAlone_59 ?_
        refine r_iadd C dX12_goAlone_60 ?_
        refine r_iload_n C dX12_goAlone_61 2 rfl ?_
        refine r_iadd C dX12_goAlone_62 ?_
        refine r_iald C dX12_goAlone_63 (fun x8 => ?_)
        refine r_iconst C dX12_goAlone_64 k_i1 ?_
        refine r_iadd C dX12_goAlone_65 ?_
        refine r_topi (fun x9 => ?_)
        refine r_min C wm_X12_245 (Nat.le_of_ble_eq_true rfl) (Nat.le_of_ble_eq_true rfl) ⟨Nat.le_of_ble_eq_true rfl, Nat.le_of_ble_eq_true rfl⟩ dX12_goAlone_66 ?_
        refine r_iast C dX12_goAlone_69 (fun h10 => ?_)
        exact tX12_goAlone_J70_11 hg C o0 i1 i2 ih hk h10
set_option maxRecDepth 100000 in
set_option maxHeartbeats 4000000 in
theorem tcX12_goAlone (l : Launch) (g : WG) (hg : p_al g = false) (o0 : Nat) (i1 : Int32) (h : PH) : CT l g 610 0 0 yX12_goAlone cX12_goAlone 3 none em_v [p_rf g o0, .int i1] h (fX12_goAlone o0 i1 h) := by
  refine CT_of (own := RX12) (nm := "goAlone") (by decide +kernel) (Nat.le_of_ble_eq_true rfl) rfl rfl rfl ⟨rfl, rfl⟩ (fun K hK C => ?_)
  subst hK
  unfold fX12_goAlone
  show VX K g _ _ _ _ _ [(0, p_rf g o0), (1, .int i1)] _ _ _
  refine r_aload_n C dX12_goAlone_0 0 rfl ?_
  refine r_aload_n C dX12_goAlone_1 0 rfl ?_
  refine r_gr C wf_X12_57_11 dX12_goAlone_2 (fun q1 => ?_)
  refine r_iload_n C dX12_goAlone_5 1 rfl ?_
  refine r_cvv (As := [p_rf g q1, .int i1]) (st := []) C wv_X12_312 (tcX12_goMan K.2.1 g hg o0 q1 i1 h) (Nat.le_of_ble_eq_true rfl) rfl rfl (Nat.le_of_ble_eq_true rfl) dX12_goAlone_6 ⟨Nat.le_of_ble_eq_true rfl, Nat.le_of_ble_eq_true rfl⟩ (fun h2 => ?_)
  refine r_iconst C dX12_goAlone_9 k_i0 ?_
  refine r_istore_n (lv9 := [(2, .int (0 : Int32)), (0, p_rf g o0), (1, .int i1)]) C dX12_goAlone_10 (by decide) rfl ?_
  refine r_perm (lv' := [(0, p_rf g o0), (1, .int i1), (2, .int (0 : Int32))]) [1, 2, 0] rfl ?_
  refine tX12_goAlone_L11 hg C o0 i1 (fun h3 => ?_) FU (0 : Int32) h2
  refine r_aload_n C dX12_goAlone_76 0 rfl ?_
  refine r_gr C wf_X12_57_11 dX12_goAlone_77 (fun q4 => ?_)
  refine r_bipush C dX12_goAlone_80 k_b86 ?_
  refine r_dup2 C dX12_goAlone_82 rfl rfl ?_
  refine r_iald C dX12_goAlone_83 (fun x5 => ?_)
  refine r_iconst C dX12_goAlone_84 k_i1 ?_
  refine r_iadd C dX12_goAlone_85 ?_
  refine r_iast C dX12_goAlone_86 (fun h6 => ?_)
  exact r_vret C dX12_goAlone_87
set_option maxRecDepth 100000 in
set_option maxHeartbeats 4000000 in
theorem tX12_goWith_J43_15 {K : AC} {g : WG} (hg : p_al g = false)  (C : Cx K g cX12_goWith 5 RX12 none "goWith" 611 0 0) (o0 : Nat) (i1 : Int32) (i2 : Int32) (i3 : Int32) (i4 : Int32)    {rc : Int32 → PH → Option (Unit × PH)} {kx : PH → Option (Unit × PH)} (hr : ∀ (i4' : Int32) (h : PH), VX K g 5 0 0 (a_fin K g 0 0 em_v) 15 [(0, p_rf g o0), (1, .int i1), (2, .int i2), (3, .int i3), (4, .int i4')] [] h (rc i4' h)) (hk : ∀  (h : PH), VX K g 5 0 0 (a_fin K g 0 0 em_v) 49 [(0, p_rf g o0), (1, .int i1), (3, .int i3)] [] h (kx  h)) (h : PH) : VX K g 5 0 0 (a_fin K g 0 0 em_v) 43 [(0, p_rf g o0), (1, .int i1), (2, .int i2), (3, .int i3), (4, .int i4)] [] h (fX12_goWith_J43_15 rc kx o0 i1 i2 i3 i4 h) := by
  unfold fX12_goWith_J43_15
  refine r_iinc (lv' := [(0, p_rf g o0), (1, .int i1), (2, .int i2), (3, .int i3)]) C dX12_goWith_43 4 rfl k_i1 (by decide) (fun _ => rfl) (fun x1 => ?_)
  refine r_goto (tgt := 15) C dX12_goWith_46 (by decide) ?_
  refine r_perm (lv' := [(0, p_rf g o0), (1, .int i1), (2, .int i2), (3, .int i3), (4, .int x1)]) [1, 2, 3, 4, 0] rfl ?_
  exact hr x1 h
set_option maxRecDepth 100000 in
set_option maxHeartbeats 4000000 in
theorem tX12_goWith_L15 {K : AC} {g : WG} (hg : p_al g = false)  (C : Cx K g cX12_goWith 5 RX12 none "goWith" 611 0 0) (o0 : Nat) (i1 : Int32) (i2 : Int32) (i3 : Int32) {kx : PH → Option (Unit × PH)} (hk : ∀  (h : PH), VX K g 5 0 0 (a_fin K g 0 0 em_v) 49 [(0, p_rf g o0), (1, .int i1), (3, .int i3)] [] h (kx h)) : ∀ (n : Nat) (i4 : Int32) (h : PH), VX K g 5 0 0 (a_fin K g 0 0 em_v) 15 [(0, p_rf g o0), (1, .int i1), (2, .int i2), (3, .int i3), (4, .int i4)] [] h (fX12_goWith_L15 o0 i1 i2 i3 kx n i4 h) := by
  intro n
  induction n with
  | zero =>
    intros
    exact r_none
  | succ n ih =>
    intro i4 h
    rw [fX12_goWith_L15]
    refine r_iload C dX12_goWith_15 4 rfl ?_
    refine r_aload_n C dX12_goWith_17 0 rfl ?_
    refine r_gi C wf_X12_116_11 dX12_goWith_18 (fun x1 => ?_)
    refine r_icmp_ge (tgt := 49) C dX12_goWith_21 (by decide) ?_ ?_
    · refine r_perm (lv' := [(0, p_rf g o0), (1, .int i1), (3, .int i3)]) [0, 1, 3] rfl ?_
      exact hk h
    · refine r_iload_n C dX12_goWith_24 2 rfl ?_
      refine r_iload C dX12_goWith_25 4 rfl ?_
      refine r_csi (As := [.int i2, .int i4]) (st := []) C ws_X12_265 (tcX12_has K.2.1 g hg i2 i4 h) (Nat.le_of_ble_eq_true rfl) rfl rfl (Nat.le_of_ble_eq_true rfl) dX12_goWith_27 ⟨Nat.le_of_ble_eq_true rfl, Nat.le_of_ble_eq_true rfl⟩ (fun x2 h3 => ?_)
      refine r_if_eq (tgt := 43) C dX12_goWith_30 (by decide) ?_ ?_
      · exact tX12_goWith_J43_15 hg C o0 i1 i2 i3 i4 ih hk h3
      · refine r_aload_n C dX12_goWith_33 0 rfl ?_
        refine r_gr C wf_X12_57_11 dX12_goWith_34 (fun q4 => ?_)
        refine r_iload_n C dX12_goWith_37 1 rfl ?_
        refine r_iload C dX12_goWith_38 4 rfl ?_
        refine r_csv (As := [p_rf g q4, .int i1, .int i4]) (st := []) C ws_X12_288 (tcX12_hold K.2.1 g hg q4 i1 i4 h3) (Nat.le_of_ble_eq_true rfl) rfl rfl (Nat.le_of_ble_eq_true rfl) dX12_goWith_40 ⟨Nat.le_of_ble_eq_true rfl, Nat.le_of_ble_eq_true rfl⟩ (fun h5 => ?_)
        exact tX12_goWith_J43_15 hg C o0 i1 i2 i3 i4 ih hk h5
set_option maxRecDepth 100000 in
set_option maxHeartbeats 4000000 in
theorem tX12_goWith_L52 {K : AC} {g : WG} (hg : p_al g = false)  (C : Cx K g cX12_goWith 5 RX12 none "goWith" 611 0 0) (o0 : Nat) (i1 : Int32) (i3 : Int32) {kx : PH → Option (Unit × PH)} (hk : ∀  (h : PH), VX K g 5 0 0 (a_fin K g 0 0 em_v) 69 [] [] h (kx h)) : ∀ (n : Nat) (i4 : Int32) (h : PH), VX K g 5 0 0 (a_fin K g 0 0 em_v) 52 [(0, p_rf g o0), (1, .int i1), (3, .int i3), (4, .int i4)] [] h (fX12_goWith_L52 o0 i1 i3 kx n i4 h) := by
  intro n
  induction n with
  | zero =>
    intros
    exact r_none
  | succ n ih =>
    intro i4 h
    rw [fX12_goWith_L52]
    refine r_iload C dX12_goWith_52 3 rfl ?_
    refine r_iload_n C dX12_goWith_54 2 rfl ?_
    refine r_icmp_ge (tgt := 69) C dX12_goWith_55 (by decide) ?_ ?_
    · refine r_perm (lv' := []) [] rfl ?_
      exact hk h
    · refine r_aload_n C dX12_goWith_58 0 rfl ?_
      refine r_iload_n C dX12_goWith_59 1 rfl ?_
      refine r_cvv (As := [.int i1]) (st := []) C wv_X12_351 (tcX12_goAlone K.2.1 g hg o0 i1 h) (Nat.le_of_ble_eq_true rfl) rfl rfl (Nat.le_of_ble_eq_true rfl) dX12_goWith_60 ⟨Nat.le_of_ble_eq_true rfl, Nat.le_of_ble_eq_true rfl⟩ (fun h1 => ?_)
      refine r_iinc (lv' := [(0, p_rf g o0), (1, .int i1), (3, .int i3)]) C dX12_goWith_63 3 rfl k_i1 (by decide) (fun _ => rfl) (fun x2 => ?_)
      refine r_goto (tgt := 52) C dX12_goWith_66 (by decide) ?_
      refine r_perm (lv' := [(0, p_rf g o0), (1, .int i1), (3, .int i3), (4, .int x2)]) [1, 2, 3, 0] rfl ?_
      exact ih x2 h1
set_option maxRecDepth 100000 in
set_option maxHeartbeats 4000000 in
theorem tcX12_goWith (l : Launch) (g : WG) (hg : p_al g = false) (o0 : Nat) (i1 : Int32) (i2 : Int32) (i3 : Int32) (h : PH) : CT l g 611 0 0 yX12_goWith cX12_goWith 5 none em_v [p_rf g o0, .int i1, .int i2, .int i3] h (fX12_goWith o0 i1 i2 i3 h) := by
  refine CT_of (own := RX12) (nm := "goWith") (by decide +kernel) (Nat.le_of_ble_eq_true rfl) rfl rfl rfl ⟨rfl, rfl⟩ (fun K hK C => ?_)
  subst hK
  unfold fX12_goWith
  show VX K g _ _ _ _ _ [(0, p_rf g o0), (1, .int i1), (2, .int i2), (3, .int i3)] _ _ _
  refine r_aload_n C dX12_goWith_0 0 rfl ?_
  refine r_gr C wf_X12_9_11 dX12_goWith_1 (fun q1 => ?_)
  refine r_aload_n C dX12_goWith_4 0 rfl ?_
  refine r_gr C wf_X12_57_11 dX12_goWith_5 (fun q2 => ?_)
  refine r_iconst C dX12_goWith_8 k_i0 ?_
  refine r_csv (As := [p_rf g q1, p_rf g q2, .int (0 : Int32)]) (st := []) C ws_X12_284 (tcX12_lay K.2.1 g hg q1 q2 (0 : Int32) h) (Nat.le_of_ble_eq_true rfl) rfl rfl (Nat.le_of_ble_eq_true rfl) dX12_goWith_9 ⟨Nat.le_of_ble_eq_true rfl, Nat.le_of_ble_eq_true rfl⟩ (fun h3 => ?_)
  refine r_iconst C dX12_goWith_12 k_i0 ?_
  refine r_istore (lv9 := [(4, .int (0 : Int32)), (0, p_rf g o0), (1, .int i1), (2, .int i2), (3, .int i3)]) C dX12_goWith_13 (by decide) rfl ?_
  refine r_perm (lv' := [(0, p_rf g o0), (1, .int i1), (2, .int i2), (3, .int i3), (4, .int (0 : Int32))]) [1, 2, 3, 4, 0] rfl ?_
  refine tX12_goWith_L15 hg C o0 i1 i2 i3 (fun h4 => ?_) FU (0 : Int32) h3
  refine r_iconst C dX12_goWith_49 k_i0 ?_
  refine r_istore (lv9 := [(4, .int (0 : Int32)), (0, p_rf g o0), (1, .int i1), (3, .int i3)]) C dX12_goWith_50 (by decide) rfl ?_
  refine r_perm (lv' := [(0, p_rf g o0), (1, .int i1), (3, .int i3), (4, .int (0 : Int32))]) [1, 2, 3, 0] rfl ?_
  refine tX12_goWith_L52 hg C o0 i1 i3 (fun h5 => ?_) FU (0 : Int32) h4
  exact r_vret C dX12_goWith_69
