set_option maxRecDepth 100000 in
set_option maxHeartbeats 4000000 in
theorem tcX11_act (l : Launch) (g : WG) (hg : p_al g = false) (o0 : Nat) (i1 : Int32) (h : PH) : CT l g 6 0 0 yX11_act cX11_act 4 (some .int) em_i [p_rf g o0, .int i1] h (fX11_act o0 i1 h) := by
  refine CT_of (own := RX11) (nm := "act") (by decide +kernel) (Nat.le_of_ble_eq_true rfl) rfl rfl rfl ⟨rfl, rfl⟩ (fun K hK C => ?_)
  subst hK
  unfold fX11_act
  show VX K g _ _ _ _ _ [(0, p_rf g o0), (1, .int i1)] _ _ _
  refine r_aload_n C dX11_act_0 0 rfl ?_
  refine r_gr C wf_X11_10_10 dX11_act_1 (fun q1 => ?_)
  refine r_iload_n C dX11_act_4 1 rfl ?_
  refine r_iconst C dX11_act_5 k_i1 ?_
  refine r_iadd C dX11_act_6 ?_
  refine r_cvi (As := [.int (i1 + (1 : Int32))]) (st := []) C wv_X11_108 (tcX7_digitAt K.2.1 g hg q1 (i1 + (1 : Int32)) h) (Nat.le_of_ble_eq_true rfl) rfl rfl (Nat.le_of_ble_eq_true rfl) dX11_act_7 ⟨Nat.le_of_ble_eq_true rfl, Nat.le_of_ble_eq_true rfl⟩ (fun x2 h3 => ?_)
  refine r_istore_n (lv9 := [(2, .int x2), (0, p_rf g o0), (1, .int i1)]) C dX11_act_10 (by decide) rfl ?_
  refine r_aload_n C dX11_act_11 1 rfl ?_
  refine r_gr C wf_X11_10_10 dX11_act_12 (fun q4 => ?_)
  refine r_iload_n C dX11_act_15 2 rfl ?_
  refine r_iconst C dX11_act_16 k_i2 ?_
  refine r_iadd C dX11_act_17 ?_
  refine r_cvi (As := [.int (i1 + (2 : Int32))]) (st := []) C wv_X11_108 (tcX7_digitAt K.2.1 g hg q4 (i1 + (2 : Int32)) h3) (Nat.le_of_ble_eq_true rfl) rfl rfl (Nat.le_of_ble_eq_true rfl) dX11_act_18 ⟨Nat.le_of_ble_eq_true rfl, Nat.le_of_ble_eq_true rfl⟩ (fun x5 h6 => ?_)
  refine r_istore_n (lv9 := [(3, .int x5), (2, .int x2), (0, p_rf g o0), (1, .int i1)]) C dX11_act_21 (by decide) rfl ?_
  refine r_aload_n C dX11_act_22 2 rfl ?_
  refine r_gr C wf_X11_10_10 dX11_act_23 (fun q7 => ?_)
  refine r_iload_n C dX11_act_26 3 rfl ?_
  refine r_cvi (As := [.int i1]) (st := []) C wv_X11_261 (tcX7_at K.2.1 g hg q7 i1 h6) (Nat.le_of_ble_eq_true rfl) rfl rfl (Nat.le_of_ble_eq_true rfl) dX11_act_27 ⟨Nat.le_of_ble_eq_true rfl, Nat.le_of_ble_eq_true rfl⟩ (fun x8 h9 => ?_)
  refine r_ite (fun e => ?_) (fun q30_0 => ?_)
  · subst e
    refine r_lks (off := 34) (tgt := 64) C dX11_act_30 rfl (by decide) (by decide) ?_
    refine r_aload_n C dX11_act_64 2 rfl ?_
    refine r_gr C wf_X11_77_10 dX11_act_65 (fun q13 => ?_)
    refine r_iload_n C dX11_act_68 1 rfl ?_
    refine r_iload_n C dX11_act_69 0 rfl ?_
    refine r_cvi (As := [.int x2, .int x5]) (st := []) C wv_X11_220 (tcX8_give K.2.1 g hg q13 x2 x5 h9) (Nat.le_of_ble_eq_true rfl) rfl rfl (Nat.le_of_ble_eq_true rfl) dX11_act_70 ⟨Nat.le_of_ble_eq_true rfl, Nat.le_of_ble_eq_true rfl⟩ (fun x14 h15 => ?_)
    exact r_iret C dX11_act_73
  refine r_ite (fun e => ?_) (fun q30_1 => ?_)
  · subst e
    refine r_lks (off := 54) (tgt := 84) C dX11_act_30 rfl (by decide) (by decide) ?_
    refine r_aload_n C dX11_act_84 2 rfl ?_
    refine r_gr C wf_X11_77_10 dX11_act_85 (fun q19 => ?_)
    refine r_iload_n C dX11_act_88 1 rfl ?_
    refine r_iload_n C dX11_act_89 0 rfl ?_
    refine r_cvi (As := [.int x2, .int x5]) (st := []) C wv_X11_229 (tcX8_make K.2.1 g hg q19 x2 x5 h9) (Nat.le_of_ble_eq_true rfl) rfl rfl (Nat.le_of_ble_eq_true rfl) dX11_act_90 ⟨Nat.le_of_ble_eq_true rfl, Nat.le_of_ble_eq_true rfl⟩ (fun x20 h21 => ?_)
    exact r_iret C dX11_act_93
  refine r_ite (fun e => ?_) (fun q30_2 => ?_)
  · subst e
    refine r_lks (off := 44) (tgt := 74) C dX11_act_30 rfl (by decide) (by decide) ?_
    refine r_aload_n C dX11_act_74 2 rfl ?_
    refine r_gr C wf_X11_77_10 dX11_act_75 (fun q25 => ?_)
    refine r_iload_n C dX11_act_78 1 rfl ?_
    refine r_iload_n C dX11_act_79 0 rfl ?_
    refine r_cvi (As := [.int x2, .int x5]) (st := []) C wv_X11_226 (tcX8_takeBack K.2.1 g hg q25 x2 x5 h9) (Nat.le_of_ble_eq_true rfl) rfl rfl (Nat.le_of_ble_eq_true rfl) dX11_act_80 ⟨Nat.le_of_ble_eq_true rfl, Nat.le_of_ble_eq_true rfl⟩ (fun x26 h27 => ?_)
    exact r_iret C dX11_act_83
  refine r_lkd (tgt := 94) C dX11_act_30 rfl (And.intro (lk_ne (by decide) q30_0) (And.intro (lk_ne (by decide) q30_1) (And.intro (lk_ne (by decide) q30_2) (trivial)))) (by decide) ?_
  refine r_aload_n C dX11_act_94 2 rfl ?_
  refine r_gr C wf_X11_77_10 dX11_act_95 (fun q28 => ?_)
  refine r_iload_n C dX11_act_98 1 rfl ?_
  refine r_aload_n C dX11_act_99 2 rfl ?_
  refine r_gr C wf_X11_73_10 dX11_act_100 (fun q29 => ?_)
  refine r_cvr (As := []) (st := [.int x2, p_rf g q28]) C wv_X11_235 (tcX0_presentRule K.2.1 g hg q29 h9) (Nat.le_of_ble_eq_true rfl) rfl rfl (Nat.le_of_ble_eq_true rfl) dX11_act_103 ⟨Nat.le_of_ble_eq_true rfl, Nat.le_of_ble_eq_true rfl⟩ (fun q30 h31 => ?_)
  refine r_cvi (As := [.int x2, p_rf g q30]) (st := []) C wv_X11_238 (tcX8_spend K.2.1 g hg q28 x2 q30 h31) (Nat.le_of_ble_eq_true rfl) rfl rfl (Nat.le_of_ble_eq_true rfl) dX11_act_106 ⟨Nat.le_of_ble_eq_true rfl, Nat.le_of_ble_eq_true rfl⟩ (fun x32 h33 => ?_)
  exact r_iret C dX11_act_109
set_option maxRecDepth 100000 in
set_option maxHeartbeats 4000000 in
theorem tX11_readYear_J117_54 {K : AC} {g : WG} (hg : p_al g = false)  (C : Cx K g cX11_readYear 5 RX11 (some .int) "readYear" 7 0 0) (o0 : Nat) (i2 : Int32) (i4 : Int32) (s0 : Int32) (s1 : Int32)    {rc : Int32 → Int32 → Int32 → PH → Option (Int32 × PH)} {kx : Int32 → Int32 → PH → Option (Int32 × PH)} (hr : ∀ (i2' : Int32) (i3' : Int32) (i4' : Int32) (h : PH), VX K g 5 0 0 (a_fin K g 0 0 em_i) 54 [(0, p_rf g o0), (2, .int i2'), (3, .int i3'), (4, .int i4')] [] h (rc i2' i3' i4' h)) (hk : ∀ (i2' : Int32) (i4' : Int32) (h : PH), VX K g 5 0 0 (a_fin K g 0 0 em_i) 122 [(0, p_rf g o0), (2, .int i2'), (4, .int i4')] [] h (kx i2' i4' h)) (h : PH) : VX K g 5 0 0 (a_fin K g 0 0 em_i) 117 [(0, p_rf g o0), (2, .int i2), (4, .int i4)] [.int s0, .int s1] h (fX11_readYear_J117_54 rc kx o0 i2 i4 s0 s1 h) := by
  unfold fX11_readYear_J117_54
  refine r_iadd C dX11_readYear_117 ?_
  refine r_topi (fun x1 => ?_)
  refine r_istore_n (lv9 := [(3, .int x1), (0, p_rf g o0), (2, .int i2), (4, .int i4)]) C dX11_readYear_118 (by decide) rfl ?_
  refine r_goto (tgt := 54) C dX11_readYear_119 (by decide) ?_
  refine r_perm (lv' := [(0, p_rf g o0), (2, .int i2), (3, .int x1), (4, .int i4)]) [1, 2, 0, 3] rfl ?_
  exact hr i2 x1 i4 h
set_option maxRecDepth 100000 in
set_option maxHeartbeats 4000000 in
theorem tX11_readYear_J96_54 {K : AC} {g : WG} (hg : p_al g = false)  (C : Cx K g cX11_readYear 5 RX11 (some .int) "readYear" 7 0 0) (o0 : Nat) (i3 : Int32) (i4 : Int32) (s0 : Int32) (s1 : Int32)    {rc : Int32 → Int32 → Int32 → PH → Option (Int32 × PH)} {kx : Int32 → Int32 → PH → Option (Int32 × PH)} (hr : ∀ (i2' : Int32) (i3' : Int32) (i4' : Int32) (h : PH), VX K g 5 0 0 (a_fin K g 0 0 em_i) 54 [(0, p_rf g o0), (2, .int i2'), (3, .int i3'), (4, .int i4')] [] h (rc i2' i3' i4' h)) (hk : ∀ (i2' : Int32) (i4' : Int32) (h : PH), VX K g 5 0 0 (a_fin K g 0 0 em_i) 122 [(0, p_rf g o0), (2, .int i2'), (4, .int i4')] [] h (kx i2' i4' h)) (h : PH) : VX K g 5 0 0 (a_fin K g 0 0 em_i) 96 [(0, p_rf g o0), (3, .int i3), (4, .int i4)] [.int s0, .int s1] h (fX11_readYear_J96_54 rc kx o0 i3 i4 s0 s1 h) := by
  unfold fX11_readYear_J96_54
  refine r_iadd C dX11_readYear_96 ?_
  refine r_topi (fun x1 => ?_)
  refine r_istore_n (lv9 := [(2, .int x1), (0, p_rf g o0), (3, .int i3), (4, .int i4)]) C dX11_readYear_97 (by decide) rfl ?_
  refine r_iload_n C dX11_readYear_98 2 rfl ?_
  refine r_aload_n C dX11_readYear_99 1 rfl ?_
  refine r_gr C wf_X11_10_10 dX11_readYear_100 (fun q2 => ?_)
  refine r_iload_n C dX11_readYear_103 2 rfl ?_
  refine r_cvi (As := [.int i3]) (st := [.int i3]) C wv_X11_261 (tcX7_at K.2.1 g hg q2 i3 h) (Nat.le_of_ble_eq_true rfl) rfl rfl (Nat.le_of_ble_eq_true rfl) dX11_readYear_104 ⟨Nat.le_of_ble_eq_true rfl, Nat.le_of_ble_eq_true rfl⟩ (fun x3 h4 => ?_)
  refine r_bipush C dX11_readYear_107 k_b100 ?_
  refine r_icmp_ne (tgt := 116) C dX11_readYear_109 (by decide) ?_ ?_
  · refine r_iconst C dX11_readYear_116 k_i3 ?_
    refine r_perm (lv' := [(0, p_rf g o0), (2, .int x1), (4, .int i4)]) [1, 0, 3] rfl ?_
    exact tX11_readYear_J117_54 hg C o0 x1 i4 (3 : Int32) i3 hr hk h4
  · refine r_iconst C dX11_readYear_112 k_i2 ?_
    refine r_goto (tgt := 117) C dX11_readYear_113 (by decide) ?_
    refine r_perm (lv' := [(0, p_rf g o0), (2, .int x1), (4, .int i4)]) [1, 0, 3] rfl ?_
    exact tX11_readYear_J117_54 hg C o0 x1 i4 (2 : Int32) i3 hr hk h4
set_option maxRecDepth 100000 in
set_option maxHeartbeats 4000000 in
theorem tX11_readYear_J83_54 {K : AC} {g : WG} (hg : p_al g = false)  (C : Cx K g cX11_readYear 5 RX11 (some .int) "readYear" 7 0 0) (o0 : Nat) (i2 : Int32) (i3 : Int32) (s0 : Int32)    {rc : Int32 → Int32 → Int32 → PH → Option (Int32 × PH)} {kx : Int32 → Int32 → PH → Option (Int32 × PH)} (hr : ∀ (i2' : Int32) (i3' : Int32) (i4' : Int32) (h : PH), VX K g 5 0 0 (a_fin K g 0 0 em_i) 54 [(0, p_rf g o0), (2, .int i2'), (3, .int i3'), (4, .int i4')] [] h (rc i2' i3' i4' h)) (hk : ∀ (i2' : Int32) (i4' : Int32) (h : PH), VX K g 5 0 0 (a_fin K g 0 0 em_i) 122 [(0, p_rf g o0), (2, .int i2'), (4, .int i4')] [] h (kx i2' i4' h)) (h : PH) : VX K g 5 0 0 (a_fin K g 0 0 em_i) 83 [(0, p_rf g o0), (2, .int i2), (3, .int i3)] [.int s0] h (fX11_readYear_J83_54 rc kx o0 i2 i3 s0 h) := by
  unfold fX11_readYear_J83_54
  refine r_istore (lv9 := [(4, .int s0), (0, p_rf g o0), (2, .int i2), (3, .int i3)]) C dX11_readYear_83 (by decide) rfl ?_
  refine r_iload_n C dX11_readYear_85 2 rfl ?_
  refine r_iload C dX11_readYear_86 0 rfl ?_
  refine r_if_eq (tgt := 95) C dX11_readYear_88 (by decide) ?_ ?_
  · refine r_iconst C dX11_readYear_95 k_i0 ?_
    refine r_perm (lv' := [(0, p_rf g o0), (3, .int i3), (4, .int s0)]) [1, 3, 0] rfl ?_
    exact tX11_readYear_J96_54 hg C o0 i3 s0 (0 : Int32) i2 hr hk h
  · refine r_iconst C dX11_readYear_91 k_i1 ?_
    refine r_goto (tgt := 96) C dX11_readYear_92 (by decide) ?_
    refine r_perm (lv' := [(0, p_rf g o0), (3, .int i3), (4, .int s0)]) [1, 3, 0] rfl ?_
    exact tX11_readYear_J96_54 hg C o0 i3 s0 (1 : Int32) i2 hr hk h
set_option maxRecDepth 100000 in
set_option maxHeartbeats 4000000 in
theorem tX11_readYear_L54 {K : AC} {g : WG} (hg : p_al g = false)  (C : Cx K g cX11_readYear 5 RX11 (some .int) "readYear" 7 0 0) (o0 : Nat) {kx : Int32 → Int32 → PH → Option (Int32 × PH)} (hk : ∀ (i2 : Int32) (i4 : Int32) (h : PH), VX K g 5 0 0 (a_fin K g 0 0 em_i) 122 [(0, p_rf g o0), (2, .int i2), (4, .int i4)] [] h (kx i2 i4 h)) : ∀ (n : Nat) (i2 : Int32) (i3 : Int32) (i4 : Int32) (h : PH), VX K g 5 0 0 (a_fin K g 0 0 em_i) 54 [(0, p_rf g o0), (2, .int i2), (3, .int i3), (4, .int i4)] [] h (fX11_readYear_L54 o0 kx n i2 i3 i4 h) := by
  intro n
  induction n with
  | zero =>
    intros
    exact r_none
  | succ n ih =>
    intro i2 i3 i4 h
    rw [fX11_readYear_L54]
    refine r_iload C dX11_readYear_54 3 rfl ?_
    refine r_if_eq (tgt := 122) C dX11_readYear_56 (by decide) ?_ ?_
    · refine r_perm (lv' := [(0, p_rf g o0), (2, .int i2), (4, .int i4)]) [0, 1, 3] rfl ?_
      exact hk i2 i4 h
    · refine r_iload_n C dX11_readYear_59 2 rfl ?_
      refine r_aload_n C dX11_readYear_60 0 rfl ?_
      refine r_gr C wf_X11_10_10 dX11_readYear_61 (fun q1 => ?_)
      refine r_cvi (As := []) (st := [.int i3]) C wv_X11_88 (tcX7_size K.2.1 g hg q1 h) (Nat.le_of_ble_eq_true rfl) rfl rfl (Nat.le_of_ble_eq_true rfl) dX11_readYear_64 ⟨Nat.le_of_ble_eq_true rfl, Nat.le_of_ble_eq_true rfl⟩ (fun x2 h3 => ?_)
      refine r_icmp_ge (tgt := 122) C dX11_readYear_67 (by decide) ?_ ?_
      · refine r_perm (lv' := [(0, p_rf g o0), (2, .int i2), (4, .int i4)]) [0, 1, 3] rfl ?_
        exact hk i2 i4 h3
      · refine r_aload_n C dX11_readYear_70 0 rfl ?_
        refine r_iload_n C dX11_readYear_71 2 rfl ?_
        refine r_cvi (As := [.int i3]) (st := []) C wv_X11_258 (tcX11_act K.2.1 g hg o0 i3 h3) (Nat.le_of_ble_eq_true rfl) rfl rfl (Nat.le_of_ble_eq_true rfl) dX11_readYear_72 ⟨Nat.le_of_ble_eq_true rfl, Nat.le_of_ble_eq_true rfl⟩ (fun x4 h5 => ?_)
        refine r_if_lt (tgt := 82) C dX11_readYear_75 (by decide) ?_ ?_
        · refine r_iconst C dX11_readYear_82 k_i0 ?_
          refine r_perm (lv' := [(0, p_rf g o0), (2, .int i2), (3, .int i3)]) [0, 1, 2] rfl ?_
          exact tX11_readYear_J83_54 hg C o0 i2 i3 (0 : Int32) ih hk h5
        · refine r_iconst C dX11_readYear_78 k_i1 ?_
          refine r_goto (tgt := 83) C dX11_readYear_79 (by decide) ?_
          refine r_perm (lv' := [(0, p_rf g o0), (2, .int i2), (3, .int i3)]) [0, 1, 2] rfl ?_
          exact tX11_readYear_J83_54 hg C o0 i2 i3 (1 : Int32) ih hk h5
set_option maxRecDepth 100000 in
set_option maxHeartbeats 4000000 in
theorem tX11_readYear_J158 {K : AC} {g : WG} (hg : p_al g = false)  (C : Cx K g cX11_readYear 5 RX11 (some .int) "readYear" 7 0 0) (o0 : Nat) (i2 : Int32) (s0 : Int64) (s1 : Nat)  (h : PH) : VX K g 5 0 0 (a_fin K g 0 0 em_i) 158 [(0, p_rf g o0), (2, .int i2)] [.long s0, p_rf g s1] h (fX11_readYear_J158 o0 i2 s0 s1 h) := by
  unfold fX11_readYear_J158
  refine r_cvv (As := [.long s0]) (st := []) C wv_X11_248 (tcX3_add K.2.1 g hg s1 s0 h) (Nat.le_of_ble_eq_true rfl) rfl rfl (Nat.le_of_ble_eq_true rfl) dX11_readYear_158 ⟨Nat.le_of_ble_eq_true rfl, Nat.le_of_ble_eq_true rfl⟩ (fun h1 => ?_)
  refine r_aload_n C dX11_readYear_161 0 rfl ?_
  refine r_gr C wf_X11_69_10 dX11_readYear_162 (fun q2 => ?_)
  refine r_aload_n C dX11_readYear_165 0 rfl ?_
  refine r_gr C wf_X11_77_10 dX11_readYear_166 (fun q3 => ?_)
  refine r_cvi (As := []) (st := [p_rf g q2]) C wv_X11_251 (tcX8_wantsOfAll K.2.1 g hg q3 h1) (Nat.le_of_ble_eq_true rfl) rfl rfl (Nat.le_of_ble_eq_true rfl) dX11_readYear_169 ⟨Nat.le_of_ble_eq_true rfl, Nat.le_of_ble_eq_true rfl⟩ (fun x4 h5 => ?_)
  refine r_i2l C dX11_readYear_172 ?_
  refine r_cvv (As := [.long (x4.toInt64)]) (st := []) C wv_X11_248 (tcX3_add K.2.1 g hg q2 (x4.toInt64) h5) (Nat.le_of_ble_eq_true rfl) rfl rfl (Nat.le_of_ble_eq_true rfl) dX11_readYear_173 ⟨Nat.le_of_ble_eq_true rfl, Nat.le_of_ble_eq_true rfl⟩ (fun h6 => ?_)
  refine r_iload_n C dX11_readYear_176 1 rfl ?_
  exact r_iret C dX11_readYear_177
set_option maxRecDepth 100000 in
set_option maxHeartbeats 4000000 in
theorem tX11_readYear_J137 {K : AC} {g : WG} (hg : p_al g = false)  (C : Cx K g cX11_readYear 5 RX11 (some .int) "readYear" 7 0 0) (o0 : Nat) (i2 : Int32) (i4 : Int32)  (h : PH) : VX K g 5 0 0 (a_fin K g 0 0 em_i) 137 [(0, p_rf g o0), (2, .int i2), (4, .int i4)] [] h (fX11_readYear_J137 o0 i2 i4 h) := by
  unfold fX11_readYear_J137
  refine r_aload_n C dX11_readYear_137 0 rfl ?_
  refine r_gr C wf_X11_69_10 dX11_readYear_138 (fun q1 => ?_)
  refine r_cvv (As := []) (st := []) C wv_X11_242 (tcX3_start K.2.1 g hg q1 h) (Nat.le_of_ble_eq_true rfl) rfl rfl (Nat.le_of_ble_eq_true rfl) dX11_readYear_141 ⟨Nat.le_of_ble_eq_true rfl, Nat.le_of_ble_eq_true rfl⟩ (fun h2 => ?_)
  refine r_aload_n C dX11_readYear_144 0 rfl ?_
  refine r_gr C wf_X11_69_10 dX11_readYear_145 (fun q3 => ?_)
  refine r_iload C dX11_readYear_148 2 rfl ?_
  refine r_if_eq (tgt := 157) C dX11_readYear_150 (by decide) ?_ ?_
  · refine r_lconst (v := (1 : Int64)) C dX11_readYear_157 (by decide) ?_
    refine r_perm (lv' := [(0, p_rf g o0), (2, .int i2)]) [0, 1] rfl ?_
    exact tX11_readYear_J158 hg C o0 i2 (1 : Int64) q3 h2
  · refine r_lconst (v := (0 : Int64)) C dX11_readYear_153 (by decide) ?_
    refine r_goto (tgt := 158) C dX11_readYear_154 (by decide) ?_
    refine r_perm (lv' := [(0, p_rf g o0), (2, .int i2)]) [0, 1] rfl ?_
    exact tX11_readYear_J158 hg C o0 i2 (0 : Int64) q3 h2
set_option maxRecDepth 100000 in
set_option maxHeartbeats 4000000 in
theorem tX11_readYear_J26 {K : AC} {g : WG} (hg : p_al g = false)  (C : Cx K g cX11_readYear 5 RX11 (some .int) "readYear" 7 0 0) (o0 : Nat) (s0 : Int32)  (h : PH) : VX K g 5 0 0 (a_fin K g 0 0 em_i) 26 [(0, p_rf g o0)] [.int s0] h (fX11_readYear_J26 o0 s0 h) := by
  unfold fX11_readYear_J26
  refine r_istore_n (lv9 := [(1, .int s0), (0, p_rf g o0)]) C dX11_readYear_26 (by decide) rfl ?_
  refine r_iload_n C dX11_readYear_27 0 rfl ?_
  refine r_iconst C dX11_readYear_28 k_im1 ?_
  refine r_icmp_eq (tgt := 36) C dX11_readYear_29 (by decide) ?_ ?_
  · refine r_aload_n C dX11_readYear_36 1 rfl ?_
    refine r_gr C wf_X11_81_10 dX11_readYear_37 (fun q1 => ?_)
    refine r_aload_n C dX11_readYear_40 1 rfl ?_
    refine r_gr C wf_X11_77_10 dX11_readYear_41 (fun q2 => ?_)
    refine r_cvv (As := [p_rf g q2]) (st := []) C wv_X11_216 (tcX8_copy K.2.1 g hg q1 q2 h) (Nat.le_of_ble_eq_true rfl) rfl rfl (Nat.le_of_ble_eq_true rfl) dX11_readYear_44 ⟨Nat.le_of_ble_eq_true rfl, Nat.le_of_ble_eq_true rfl⟩ (fun h3 => ?_)
    refine r_iconst C dX11_readYear_47 k_i0 ?_
    refine r_istore_n (lv9 := [(2, .int (0 : Int32)), (1, .int s0), (0, p_rf g o0)]) C dX11_readYear_48 (by decide) rfl ?_
    refine r_iconst C dX11_readYear_49 k_i0 ?_
    refine r_istore_n (lv9 := [(3, .int (0 : Int32)), (2, .int (0 : Int32)), (1, .int s0), (0, p_rf g o0)]) C dX11_readYear_50 (by decide) rfl ?_
    refine r_iconst C dX11_readYear_51 k_i1 ?_
    refine r_istore (lv9 := [(4, .int (1 : Int32)), (3, .int (0 : Int32)), (2, .int (0 : Int32)), (1, .int s0), (0, p_rf g o0)]) C dX11_readYear_52 (by decide) rfl ?_
    refine r_perm (lv' := [(0, p_rf g o0), (2, .int (0 : Int32)), (3, .int (0 : Int32)), (4, .int (1 : Int32))]) [4, 2, 1, 0] rfl ?_
    refine tX11_readYear_L54 hg C o0 (fun x4 x5 h6 => ?_) FU (0 : Int32) (0 : Int32) (1 : Int32) h3
    refine r_iload_n C dX11_readYear_122 1 rfl ?_
    refine r_if_le (tgt := 137) C dX11_readYear_123 (by decide) ?_ ?_
    · exact tX11_readYear_J137 hg C o0 x4 x5 h6
    · refine r_aload_n C dX11_readYear_126 0 rfl ?_
      refine r_gr C wf_X11_45_10 dX11_readYear_127 (fun q7 => ?_)
      refine r_aload_n C dX11_readYear_130 0 rfl ?_
      refine r_gr C wf_X11_81_10 dX11_readYear_131 (fun q8 => ?_)
      refine r_cvv (As := [p_rf g q8]) (st := []) C wv_X11_232 (tcX5_remember K.2.1 g hg q7 q8 h6) (Nat.le_of_ble_eq_true rfl) rfl rfl (Nat.le_of_ble_eq_true rfl) dX11_readYear_134 ⟨Nat.le_of_ble_eq_true rfl, Nat.le_of_ble_eq_true rfl⟩ (fun h9 => ?_)
      exact tX11_readYear_J137 hg C o0 x4 x5 h9
  · refine r_iconst C dX11_readYear_32 k_im1 ?_
    refine r_iload_n C dX11_readYear_33 0 rfl ?_
    refine r_isub C dX11_readYear_34 ?_
    exact r_iret C dX11_readYear_35
set_option maxRecDepth 100000 in
set_option maxHeartbeats 4000000 in
theorem tcX11_readYear (l : Launch) (g : WG) (hg : p_al g = false) (o0 : Nat) (h : PH) : CT l g 7 0 0 yX11_readYear cX11_readYear 5 (some .int) em_i [p_rf g o0] h (fX11_readYear o0 h) := by
  refine CT_of (own := RX11) (nm := "readYear") (by decide +kernel) (Nat.le_of_ble_eq_true rfl) rfl rfl rfl ⟨rfl, rfl⟩ (fun K hK C => ?_)
  subst hK
  unfold fX11_readYear
  show VX K g _ _ _ _ _ [(0, p_rf g o0)] _ _ _
  refine r_aload_n C dX11_readYear_0 0 rfl ?_
  refine r_gr C wf_X11_10_10 dX11_readYear_1 (fun q1 => ?_)
  refine r_cvi (As := []) (st := []) C wv_X11_88 (tcX7_size K.2.1 g hg q1 h) (Nat.le_of_ble_eq_true rfl) rfl rfl (Nat.le_of_ble_eq_true rfl) dX11_readYear_4 ⟨Nat.le_of_ble_eq_true rfl, Nat.le_of_ble_eq_true rfl⟩ (fun x2 h3 => ?_)
  refine r_if_ne (tgt := 14) C dX11_readYear_7 (by decide) ?_ ?_
  · refine r_aload_n C dX11_readYear_14 0 rfl ?_
    refine r_gr C wf_X11_38_10 dX11_readYear_15 (fun q4 => ?_)
    refine r_aload_n C dX11_readYear_18 0 rfl ?_
    refine r_gr C wf_X11_10_10 dX11_readYear_19 (fun q5 => ?_)
    refine r_iconst C dX11_readYear_22 k_i0 ?_
    refine r_cui (As := [p_rf g q5, .int (0 : Int32)]) (st := []) C wu_X11_257_X10 (tcX1_slip_X10 K.2.1 g hg q4 q5 (0 : Int32) h3) (Nat.le_of_ble_eq_true rfl) rfl rfl (Nat.le_of_ble_eq_true rfl) dX11_readYear_23 ⟨Nat.le_of_ble_eq_true rfl, Nat.le_of_ble_eq_true rfl⟩ (fun x6 h7 => ?_)
    exact tX11_readYear_J26 hg C o0 x6 h7
  · refine r_iconst C dX11_readYear_10 k_im1 ?_
    refine r_goto (tgt := 26) C dX11_readYear_11 (by decide) ?_
    exact tX11_readYear_J26 hg C o0 (-1 : Int32) h3
set_option maxRecDepth 100000 in
set_option maxHeartbeats 4000000 in
theorem tcX11_year (l : Launch) (g : WG) (hg : p_al g = false) (o0 : Nat) (h : PH) : CT l g 8 0 0 yX11_year cX11_year 2 (some .int) em_i [p_rf g o0] h (fX11_year o0 h) := by
  refine CT_of (own := RX11) (nm := "year") (by decide +kernel) (Nat.le_of_ble_eq_true rfl) rfl rfl rfl ⟨rfl, rfl⟩ (fun K hK C => ?_)
  subst hK
  unfold fX11_year
  show VX K g _ _ _ _ _ [(0, p_rf g o0)] _ _ _
  refine r_aload_n C dX11_year_0 0 rfl ?_
  refine r_cvi (As := []) (st := []) C wv_X11_254 (tcX11_readYear K.2.1 g hg o0 h) (Nat.le_of_ble_eq_true rfl) rfl rfl (Nat.le_of_ble_eq_true rfl) dX11_year_1 ⟨Nat.le_of_ble_eq_true rfl, Nat.le_of_ble_eq_true rfl⟩ (fun x1 h2 => ?_)
  refine r_istore_n (lv9 := [(1, .int x1), (0, p_rf g o0)]) C dX11_year_4 (by decide) rfl ?_
  refine r_aload_n C dX11_year_5 1 rfl ?_
  refine r_gr C wf_X11_10_10 dX11_year_6 (fun q3 => ?_)
  refine r_iconst C dX11_year_9 k_i0 ?_
  refine r_cvi (As := [.int (0 : Int32)]) (st := []) C wv_X11_92 (tcX7_cut K.2.1 g hg q3 (0 : Int32) h2) (Nat.le_of_ble_eq_true rfl) rfl rfl (Nat.le_of_ble_eq_true rfl) dX11_year_10 ⟨Nat.le_of_ble_eq_true rfl, Nat.le_of_ble_eq_true rfl⟩ (fun x4 h5 => ?_)
  refine r_pop C dX11_year_13 rfl ?_
  refine r_iload_n C dX11_year_14 0 rfl ?_
  exact r_iret C dX11_year_15
set_option maxRecDepth 100000 in
set_option maxHeartbeats 4000000 in
theorem tcX11_undo (l : Launch) (g : WG) (hg : p_al g = false) (o0 : Nat) (h : PH) : CT l g 4 0 0 yX11_undo cX11_undo 1 (some .int) em_i [p_rf g o0] h (fX11_undo o0 h) := by
  refine CT_of (own := RX11) (nm := "undo") (by decide +kernel) (Nat.le_of_ble_eq_true rfl) rfl rfl rfl ⟨rfl, rfl⟩ (fun K hK C => ?_)
  subst hK
  unfold fX11_undo
  show VX K g _ _ _ _ _ [(0, p_rf g o0)] _ _ _
  refine r_aload_n C dX11_undo_0 0 rfl ?_
  refine r_gr C wf_X11_45_10 dX11_undo_1 (fun q1 => ?_)
  refine r_aload_n C dX11_undo_4 0 rfl ?_
  refine r_gr C wf_X11_77_10 dX11_undo_5 (fun q2 => ?_)
  refine r_cvi (As := [p_rf g q2]) (st := []) C wv_X11_264 (tcX5_bringBack K.2.1 g hg q1 q2 h) (Nat.le_of_ble_eq_true rfl) rfl rfl (Nat.le_of_ble_eq_true rfl) dX11_undo_8 ⟨Nat.le_of_ble_eq_true rfl, Nat.le_of_ble_eq_true rfl⟩ (fun x3 h4 => ?_)
  refine r_if_eq (tgt := 24) C dX11_undo_11 (by decide) ?_ ?_
  · refine r_iconst C dX11_undo_24 k_im1 ?_
    exact r_iret C dX11_undo_25
  · refine r_aload_n C dX11_undo_14 0 rfl ?_
    refine r_gr C wf_X11_45_10 dX11_undo_15 (fun q5 => ?_)
    refine r_cvi (As := []) (st := []) C wv_X11_268 (tcX5_size K.2.1 g hg q5 h4) (Nat.le_of_ble_eq_true rfl) rfl rfl (Nat.le_of_ble_eq_true rfl) dX11_undo_18 ⟨Nat.le_of_ble_eq_true rfl, Nat.le_of_ble_eq_true rfl⟩ (fun x6 h7 => ?_)
    refine r_goto (tgt := 25) C dX11_undo_21 (by decide) ?_
    exact r_iret C dX11_undo_25
set_option maxRecDepth 100000 in
set_option maxHeartbeats 4000000 in
theorem tX11_tellHumours_L9 {K : AC} {g : WG} (hg : p_al g = false)  (C : Cx K g cX11_tellHumours 3 RX11 none "tellHumours" 2 0 0) (o0 : Nat) (i1 : Int32) {kx : PH → Option (Unit × PH)} (hk : ∀  (h : PH), VX K g 3 0 0 (a_fin K g 0 0 em_v) 37 [] [] h (kx h)) : ∀ (n : Nat) (i2 : Int32) (h : PH), VX K g 3 0 0 (a_fin K g 0 0 em_v) 9 [(0, p_rf g o0), (1, .int i1), (2, .int i2)] [] h (fX11_tellHumours_L9 o0 i1 kx n i2 h) := by
  intro n
  induction n with
  | zero =>
    intros
    exact r_none
  | succ n ih =>
    intro i2 h
    rw [fX11_tellHumours_L9]
    refine r_iload_n C dX11_tellHumours_9 2 rfl ?_
    refine r_iconst C dX11_tellHumours_10 k_i4 ?_
    refine r_icmp_ge (tgt := 37) C dX11_tellHumours_11 (by decide) ?_ ?_
    · refine r_perm (lv' := []) [] rfl ?_
      exact hk h
    · refine r_aload_n C dX11_tellHumours_14 0 rfl ?_
      refine r_gr C wf_X11_69_10 dX11_tellHumours_15 (fun q1 => ?_)
      refine r_aload_n C dX11_tellHumours_18 0 rfl ?_
      refine r_gr C wf_X11_81_10 dX11_tellHumours_19 (fun q2 => ?_)
      refine r_iload_n C dX11_tellHumours_22 1 rfl ?_
      refine r_iload_n C dX11_tellHumours_23 2 rfl ?_
      refine r_cvi (As := [.int i1, .int i2]) (st := [p_rf g q1]) C wv_X11_196 (tcX8_humourOf K.2.1 g hg q2 i1 i2 h) (Nat.le_of_ble_eq_true rfl) rfl rfl (Nat.le_of_ble_eq_true rfl) dX11_tellHumours_24 ⟨Nat.le_of_ble_eq_true rfl, Nat.le_of_ble_eq_true rfl⟩ (fun x3 h4 => ?_)
      refine r_i2l C dX11_tellHumours_27 ?_
      refine r_cvv (As := [.long (x3.toInt64)]) (st := []) C wv_X11_248 (tcX3_add K.2.1 g hg q1 (x3.toInt64) h4) (Nat.le_of_ble_eq_true rfl) rfl rfl (Nat.le_of_ble_eq_true rfl) dX11_tellHumours_28 ⟨Nat.le_of_ble_eq_true rfl, Nat.le_of_ble_eq_true rfl⟩ (fun h5 => ?_)
      refine r_iinc (lv' := [(0, p_rf g o0), (1, .int i1)]) C dX11_tellHumours_31 2 rfl k_i1 (by decide) (fun _ => rfl) (fun x6 => ?_)
      refine r_goto (tgt := 9) C dX11_tellHumours_34 (by decide) ?_
      refine r_perm (lv' := [(0, p_rf g o0), (1, .int i1), (2, .int x6)]) [1, 2, 0] rfl ?_
      exact ih x6 h5
set_option maxRecDepth 100000 in
set_option maxHeartbeats 4000000 in
theorem tcX11_tellHumours (l : Launch) (g : WG) (hg : p_al g = false) (o0 : Nat) (i1 : Int32) (h : PH) : CT l g 2 0 0 yX11_tellHumours cX11_tellHumours 3 none em_v [p_rf g o0, .int i1] h (fX11_tellHumours o0 i1 h) := by
  refine CT_of (own := RX11) (nm := "tellHumours") (by decide +kernel) (Nat.le_of_ble_eq_true rfl) rfl rfl rfl ⟨rfl, rfl⟩ (fun K hK C => ?_)
  subst hK
  unfold fX11_tellHumours
  show VX K g _ _ _ _ _ [(0, p_rf g o0), (1, .int i1)] _ _ _
  refine r_aload_n C dX11_tellHumours_0 0 rfl ?_
  refine r_gr C wf_X11_69_10 dX11_tellHumours_1 (fun q1 => ?_)
  refine r_cvv (As := []) (st := []) C wv_X11_242 (tcX3_start K.2.1 g hg q1 h) (Nat.le_of_ble_eq_true rfl) rfl rfl (Nat.le_of_ble_eq_true rfl) dX11_tellHumours_4 ⟨Nat.le_of_ble_eq_true rfl, Nat.le_of_ble_eq_true rfl⟩ (fun h2 => ?_)
  refine r_iconst C dX11_tellHumours_7 k_i0 ?_
  refine r_istore_n (lv9 := [(2, .int (0 : Int32)), (0, p_rf g o0), (1, .int i1)]) C dX11_tellHumours_8 (by decide) rfl ?_
  refine r_perm (lv' := [(0, p_rf g o0), (1, .int i1), (2, .int (0 : Int32))]) [1, 2, 0] rfl ?_
  refine tX11_tellHumours_L9 hg C o0 i1 (fun h3 => ?_) FU (0 : Int32) h2
  exact r_vret C dX11_tellHumours_37
set_option maxRecDepth 100000 in
set_option maxHeartbeats 4000000 in
theorem tcX11_later (l : Launch) (g : WG) (hg : p_al g = false) (o0 : Nat) (i1 : Int32) (i2 : Int32) (i3 : Int32) (h : PH) : CT l g 6 0 0 yX11_later cX11_later 4 (some .int) em_i [p_rf g o0, .int i1, .int i2, .int i3] h (fX11_later o0 i1 i2 i3 h) := by
  refine CT_of (own := RX11) (nm := "later") (by decide +kernel) (Nat.le_of_ble_eq_true rfl) rfl rfl rfl ⟨rfl, rfl⟩ (fun K hK C => ?_)
  subst hK
  unfold fX11_later
  show VX K g _ _ _ _ _ [(0, p_rf g o0), (1, .int i1), (2, .int i2), (3, .int i3)] _ _ _
  refine r_aload_n C dX11_later_0 0 rfl ?_
  refine r_gr C wf_X11_73_10 dX11_later_1 (fun q1 => ?_)
  refine r_iload_n C dX11_later_4 1 rfl ?_
  refine r_cvi (As := [.int i1]) (st := []) C wv_X11_184 (tcX0_hasPerson K.2.1 g hg q1 i1 h) (Nat.le_of_ble_eq_true rfl) rfl rfl (Nat.le_of_ble_eq_true rfl) dX11_later_5 ⟨Nat.le_of_ble_eq_true rfl, Nat.le_of_ble_eq_true rfl⟩ (fun x2 h3 => ?_)
  refine r_if_eq (tgt := 30) C dX11_later_8 (by decide) ?_ ?_
  · refine r_iconst C dX11_later_30 k_im1 ?_
    exact r_iret C dX11_later_31
  · refine r_iload_n C dX11_later_11 2 rfl ?_
    refine r_iconst C dX11_later_12 k_i0 ?_
    refine r_iconst C dX11_later_13 k_i3 ?_
    refine r_csi (As := [.int i2, .int (0 : Int32), .int (3 : Int32)]) (st := []) C ws_X11_164 (tcX11_within K.2.1 g hg i2 (0 : Int32) (3 : Int32) h3) (Nat.le_of_ble_eq_true rfl) rfl rfl (Nat.le_of_ble_eq_true rfl) dX11_later_14 ⟨Nat.le_of_ble_eq_true rfl, Nat.le_of_ble_eq_true rfl⟩ (fun x4 h5 => ?_)
    refine r_if_eq (tgt := 30) C dX11_later_17 (by decide) ?_ ?_
    · refine r_iconst C dX11_later_30 k_im1 ?_
      exact r_iret C dX11_later_31
    · refine r_iload_n C dX11_later_20 3 rfl ?_
      refine r_iconst C dX11_later_21 k_i0 ?_
      refine r_bipush C dX11_later_22 k_b99 ?_
      refine r_csi (As := [.int i3, .int (0 : Int32), .int (99 : Int32)]) (st := []) C ws_X11_164 (tcX11_within K.2.1 g hg i3 (0 : Int32) (99 : Int32) h5) (Nat.le_of_ble_eq_true rfl) rfl rfl (Nat.le_of_ble_eq_true rfl) dX11_later_24 ⟨Nat.le_of_ble_eq_true rfl, Nat.le_of_ble_eq_true rfl⟩ (fun x6 h7 => ?_)
      refine r_if_ne (tgt := 32) C dX11_later_27 (by decide) ?_ ?_
      · refine r_aload_n C dX11_later_32 0 rfl ?_
        refine r_gr C wf_X11_81_10 dX11_later_33 (fun q8 => ?_)
        refine r_aload_n C dX11_later_36 0 rfl ?_
        refine r_gr C wf_X11_77_10 dX11_later_37 (fun q9 => ?_)
        refine r_cvv (As := [p_rf g q9]) (st := []) C wv_X11_216 (tcX8_copy K.2.1 g hg q8 q9 h7) (Nat.le_of_ble_eq_true rfl) rfl rfl (Nat.le_of_ble_eq_true rfl) dX11_later_40 ⟨Nat.le_of_ble_eq_true rfl, Nat.le_of_ble_eq_true rfl⟩ (fun h10 => ?_)
        refine r_aload_n C dX11_later_43 0 rfl ?_
        refine r_gr C wf_X11_81_10 dX11_later_44 (fun q11 => ?_)
        refine r_iload_n C dX11_later_47 1 rfl ?_
        refine r_iload_n C dX11_later_48 3 rfl ?_
        refine r_aload_n C dX11_later_49 0 rfl ?_
        refine r_gr C wf_X11_73_10 dX11_later_50 (fun q12 => ?_)
        refine r_cvr (As := []) (st := [.int i3, .int i1, p_rf g q11]) C wv_X11_235 (tcX0_presentRule K.2.1 g hg q12 h10) (Nat.le_of_ble_eq_true rfl) rfl rfl (Nat.le_of_ble_eq_true rfl) dX11_later_53 ⟨Nat.le_of_ble_eq_true rfl, Nat.le_of_ble_eq_true rfl⟩ (fun q13 h14 => ?_)
        refine r_cvv (As := [.int i1, .int i3, p_rf g q13]) (st := []) C wv_X11_269 (tcX8_pass K.2.1 g hg q11 i1 i3 q13 h14) (Nat.le_of_ble_eq_true rfl) rfl rfl (Nat.le_of_ble_eq_true rfl) dX11_later_56 ⟨Nat.le_of_ble_eq_true rfl, Nat.le_of_ble_eq_true rfl⟩ (fun h15 => ?_)
        refine r_aload_n C dX11_later_59 0 rfl ?_
        refine r_iload_n C dX11_later_60 1 rfl ?_
        refine r_cvv (As := [.int i1]) (st := []) C wv_X11_273 (tcX11_tellHumours K.2.1 g hg o0 i1 h15) (Nat.le_of_ble_eq_true rfl) rfl rfl (Nat.le_of_ble_eq_true rfl) dX11_later_61 ⟨Nat.le_of_ble_eq_true rfl, Nat.le_of_ble_eq_true rfl⟩ (fun h16 => ?_)
        refine r_aload_n C dX11_later_64 0 rfl ?_
        refine r_gr C wf_X11_69_10 dX11_later_65 (fun q17 => ?_)
        refine r_aload_n C dX11_later_68 0 rfl ?_
        refine r_gr C wf_X11_81_10 dX11_later_69 (fun q18 => ?_)
        refine r_iload_n C dX11_later_72 1 rfl ?_
        refine r_cvi (As := [.int i1]) (st := [p_rf g q17]) C wv_X11_193 (tcX8_wantsOf K.2.1 g hg q18 i1 h16) (Nat.le_of_ble_eq_true rfl) rfl rfl (Nat.le_of_ble_eq_true rfl) dX11_later_73 ⟨Nat.le_of_ble_eq_true rfl, Nat.le_of_ble_eq_true rfl⟩ (fun x19 h20 => ?_)
        refine r_i2l C dX11_later_76 ?_
        refine r_cvv (As := [.long (x19.toInt64)]) (st := []) C wv_X11_248 (tcX3_add K.2.1 g hg q17 (x19.toInt64) h20) (Nat.le_of_ble_eq_true rfl) rfl rfl (Nat.le_of_ble_eq_true rfl) dX11_later_77 ⟨Nat.le_of_ble_eq_true rfl, Nat.le_of_ble_eq_true rfl⟩ (fun h21 => ?_)
        refine r_aload_n C dX11_later_80 0 rfl ?_
        refine r_gr C wf_X11_81_10 dX11_later_81 (fun q22 => ?_)
        refine r_iload_n C dX11_later_84 1 rfl ?_
        refine r_iload_n C dX11_later_85 2 rfl ?_
        refine r_cvi (As := [.int i1, .int i2]) (st := []) C wv_X11_196 (tcX8_humourOf K.2.1 g hg q22 i1 i2 h21) (Nat.le_of_ble_eq_true rfl) rfl rfl (Nat.le_of_ble_eq_true rfl) dX11_later_86 ⟨Nat.le_of_ble_eq_true rfl, Nat.le_of_ble_eq_true rfl⟩ (fun x23 h24 => ?_)
        exact r_iret C dX11_later_89
      · refine r_iconst C dX11_later_30 k_im1 ?_
        exact r_iret C dX11_later_31
set_option maxRecDepth 100000 in
set_option maxHeartbeats 4000000 in
theorem tX11_settles_L26 {K : AC} {g : WG} (hg : p_al g = false)  (C : Cx K g cX11_settles 4 RX11 (some .int) "settles" 6 0 0) (o0 : Nat) (i1 : Int32) {kx : PH → Option (Int32 × PH)} (hk : ∀  (h : PH), VX K g 4 0 0 (a_fin K g 0 0 em_i) 82 [] [] h (kx h)) : ∀ (n : Nat) (i2 : Int32) (h : PH), VX K g 4 0 0 (a_fin K g 0 0 em_i) 26 [(0, p_rf g o0), (1, .int i1), (2, .int i2)] [] h (fX11_settles_L26 o0 i1 kx n i2 h) := by
  intro n
  induction n with
  | zero =>
    intros
    exact r_none
  | succ n ih =>
    intro i2 h
    rw [fX11_settles_L26]
    refine r_iload_n C dX11_settles_26 2 rfl ?_
    refine r_bipush C dX11_settles_27 k_b99 ?_
    refine r_icmp_gt (tgt := 82) C dX11_settles_29 (by decide) ?_ ?_
    · refine r_perm (lv' := []) [] rfl ?_
      exact hk h
    · refine r_aload_n C dX11_settles_32 0 rfl ?_
      refine r_gr C wf_X11_81_10 dX11_settles_33 (fun q1 => ?_)
      refine r_iload_n C dX11_settles_36 1 rfl ?_
      refine r_cvi (As := [.int i1]) (st := []) C wv_X11_276 (tcX8_humoursTogether K.2.1 g hg q1 i1 h) (Nat.le_of_ble_eq_true rfl) rfl rfl (Nat.le_of_ble_eq_true rfl) dX11_settles_37 ⟨Nat.le_of_ble_eq_true rfl, Nat.le_of_ble_eq_true rfl⟩ (fun x2 h3 => ?_)
      refine r_istore_n (lv9 := [(3, .int x2), (0, p_rf g o0), (1, .int i1), (2, .int i2)]) C dX11_settles_40 (by decide) rfl ?_
      refine r_aload_n C dX11_settles_41 1 rfl ?_
      refine r_gr C wf_X11_81_10 dX11_settles_42 (fun q4 => ?_)
      refine r_iload_n C dX11_settles_45 2 rfl ?_
      refine r_iconst C dX11_settles_46 k_i1 ?_
      refine r_aload_n C dX11_settles_47 1 rfl ?_
      refine r_gr C wf_X11_73_10 dX11_settles_48 (fun q5 => ?_)
      refine r_cvr (As := []) (st := [.int (1 : Int32), .int i1, p_rf g q4]) C wv_X11_235 (tcX0_presentRule K.2.1 g hg q5 h3) (Nat.le_of_ble_eq_true rfl) rfl rfl (Nat.le_of_ble_eq_true rfl) dX11_settles_51 ⟨Nat.le_of_ble_eq_true rfl, Nat.le_of_ble_eq_true rfl⟩ (fun q6 h7 => ?_)
      refine r_cvv (As := [.int i1, .int (1 : Int32), p_rf g q6]) (st := []) C wv_X11_269 (tcX8_pass K.2.1 g hg q4 i1 (1 : Int32) q6 h7) (Nat.le_of_ble_eq_true rfl) rfl rfl (Nat.le_of_ble_eq_true rfl) dX11_settles_54 ⟨Nat.le_of_ble_eq_true rfl, Nat.le_of_ble_eq_true rfl⟩ (fun h8 => ?_)
      refine r_aload_n C dX11_settles_57 1 rfl ?_
      refine r_gr C wf_X11_81_10 dX11_settles_58 (fun q9 => ?_)
      refine r_iload_n C dX11_settles_61 2 rfl ?_
      refine r_cvi (As := [.int i1]) (st := []) C wv_X11_276 (tcX8_humoursTogether K.2.1 g hg q9 i1 h8) (Nat.le_of_ble_eq_true rfl) rfl rfl (Nat.le_of_ble_eq_true rfl) dX11_settles_62 ⟨Nat.le_of_ble_eq_true rfl, Nat.le_of_ble_eq_true rfl⟩ (fun x10 h11 => ?_)
      refine r_iload_n C dX11_settles_65 0 rfl ?_
      refine r_icmp_ne (tgt := 76) C dX11_settles_66 (by decide) ?_ ?_
      · refine r_iinc (lv' := [(3, .int x2), (0, p_rf g o0), (1, .int i1)]) C dX11_settles_76 3 rfl k_i1 (by decide) (fun _ => rfl) (fun x12 => ?_)
        refine r_goto (tgt := 26) C dX11_settles_79 (by decide) ?_
        refine r_perm (lv' := [(0, p_rf g o0), (1, .int i1), (2, .int x12)]) [2, 3, 0] rfl ?_
        exact ih x12 h11
      · refine r_aload_n C dX11_settles_69 1 rfl ?_
        refine r_iload_n C dX11_settles_70 2 rfl ?_
        refine r_cvv (As := [.int i1]) (st := []) C wv_X11_273 (tcX11_tellHumours K.2.1 g hg o0 i1 h11) (Nat.le_of_ble_eq_true rfl) rfl rfl (Nat.le_of_ble_eq_true rfl) dX11_settles_71 ⟨Nat.le_of_ble_eq_true rfl, Nat.le_of_ble_eq_true rfl⟩ (fun h13 => ?_)
        refine r_iload_n C dX11_settles_74 3 rfl ?_
        exact r_iret C dX11_settles_75
set_option maxRecDepth 100000 in
set_option maxHeartbeats 4000000 in
theorem tcX11_settles (l : Launch) (g : WG) (hg : p_al g = false) (o0 : Nat) (i1 : Int32) (h : PH) : CT l g 6 0 0 yX11_settles cX11_settles 4 (some .int) em_i [p_rf g o0, .int i1] h (fX11_settles o0 i1 h) := by
  refine CT_of (own := RX11) (nm := "settles") (by decide +kernel) (Nat.le_of_ble_eq_true rfl) rfl rfl rfl ⟨rfl, rfl⟩ (fun K hK C => ?_)
  subst hK
  unfold fX11_settles
  show VX K g _ _ _ _ _ [(0, p_rf g o0), (1, .int i1)] _ _ _
  refine r_aload_n C dX11_settles_0 0 rfl ?_
  refine r_gr C wf_X11_73_10 dX11_settles_1 (fun q1 => ?_)
  refine r_iload_n C dX11_settles_4 1 rfl ?_
  refine r_cvi (As := [.int i1]) (st := []) C wv_X11_184 (tcX0_hasPerson K.2.1 g hg q1 i1 h) (Nat.le_of_ble_eq_true rfl) rfl rfl (Nat.le_of_ble_eq_true rfl) dX11_settles_5 ⟨Nat.le_of_ble_eq_true rfl, Nat.le_of_ble_eq_true rfl⟩ (fun x2 h3 => ?_)
  refine r_if_ne (tgt := 13) C dX11_settles_8 (by decide) ?_ ?_
  · refine r_aload_n C dX11_settles_13 0 rfl ?_
    refine r_gr C wf_X11_81_10 dX11_settles_14 (fun q4 => ?_)
    refine r_aload_n C dX11_settles_17 0 rfl ?_
    refine r_gr C wf_X11_77_10 dX11_settles_18 (fun q5 => ?_)
    refine r_cvv (As := [p_rf g q5]) (st := []) C wv_X11_216 (tcX8_copy K.2.1 g hg q4 q5 h3) (Nat.le_of_ble_eq_true rfl) rfl rfl (Nat.le_of_ble_eq_true rfl) dX11_settles_21 ⟨Nat.le_of_ble_eq_true rfl, Nat.le_of_ble_eq_true rfl⟩ (fun h6 => ?_)
    refine r_iconst C dX11_settles_24 k_i0 ?_
    refine r_istore_n (lv9 := [(2, .int (0 : Int32)), (0, p_rf g o0), (1, .int i1)]) C dX11_settles_25 (by decide) rfl ?_
    refine r_perm (lv' := [(0, p_rf g o0), (1, .int i1), (2, .int (0 : Int32))]) [1, 2, 0] rfl ?_
    refine tX11_settles_L26 hg C o0 i1 (fun h7 => ?_) FU (0 : Int32) h6
    refine r_bipush C dX11_settles_82 k_bm2 ?_
    exact r_iret C dX11_settles_84
  · refine r_iconst C dX11_settles_11 k_im1 ?_
    exact r_iret C dX11_settles_12
set_option maxRecDepth 100000 in
set_option maxHeartbeats 4000000 in
theorem tX11_when_L37 {K : AC} {g : WG} (hg : p_al g = false)  (C : Cx K g cX11_when 5 RX11 (some .int) "when" 6 0 0) (o0 : Nat) (i1 : Int32) (i2 : Int32) {kx : PH → Option (Int32 × PH)} (hk : ∀  (h : PH), VX K g 5 0 0 (a_fin K g 0 0 em_i) 106 [] [] h (kx h)) : ∀ (n : Nat) (i3 : Int32) (h : PH), VX K g 5 0 0 (a_fin K g 0 0 em_i) 37 [(0, p_rf g o0), (1, .int i1), (2, .int i2), (3, .int i3)] [] h (fX11_when_L37 o0 i1 i2 kx n i3 h) := by
  intro n
  induction n with
  | zero =>
    intros
    exact r_none
  | succ n ih =>
    intro i3 h
    rw [fX11_when_L37]
    refine r_iload_n C dX11_when_37 3 rfl ?_
    refine r_bipush C dX11_when_38 k_b99 ?_
    refine r_icmp_gt (tgt := 106) C dX11_when_40 (by decide) ?_ ?_
    · refine r_perm (lv' := []) [] rfl ?_
      exact hk h
    · refine r_aload_n C dX11_when_43 0 rfl ?_
      refine r_gr C wf_X11_81_10 dX11_when_44 (fun q1 => ?_)
      refine r_iload_n C dX11_when_47 1 rfl ?_
      refine r_cvi (As := [.int i1]) (st := []) C wv_X11_193 (tcX8_wantsOf K.2.1 g hg q1 i1 h) (Nat.le_of_ble_eq_true rfl) rfl rfl (Nat.le_of_ble_eq_true rfl) dX11_when_48 ⟨Nat.le_of_ble_eq_true rfl, Nat.le_of_ble_eq_true rfl⟩ (fun x2 h3 => ?_)
      refine r_istore (lv9 := [(4, .int x2), (0, p_rf g o0), (1, .int i1), (2, .int i2), (3, .int i3)]) C dX11_when_51 (by decide) rfl ?_
      refine r_iload_n C dX11_when_53 3 rfl ?_
      refine r_iload C dX11_when_54 0 rfl ?_
      refine r_csi (As := [.int i2, .int x2]) (st := []) C ws_X11_282 (tcX11_isIn K.2.1 g hg i2 x2 h3) (Nat.le_of_ble_eq_true rfl) rfl rfl (Nat.le_of_ble_eq_true rfl) dX11_when_56 ⟨Nat.le_of_ble_eq_true rfl, Nat.le_of_ble_eq_true rfl⟩ (fun x4 h5 => ?_)
      refine r_if_eq (tgt := 84) C dX11_when_59 (by decide) ?_ ?_
      · refine r_aload_n C dX11_when_84 1 rfl ?_
        refine r_gr C wf_X11_81_10 dX11_when_85 (fun q6 => ?_)
        refine r_iload_n C dX11_when_88 2 rfl ?_
        refine r_iconst C dX11_when_89 k_i1 ?_
        refine r_aload_n C dX11_when_90 1 rfl ?_
        refine r_gr C wf_X11_73_10 dX11_when_91 (fun q7 => ?_)
        refine r_cvr (As := []) (st := [.int (1 : Int32), .int i1, p_rf g q6]) C wv_X11_235 (tcX0_presentRule K.2.1 g hg q7 h5) (Nat.le_of_ble_eq_true rfl) rfl rfl (Nat.le_of_ble_eq_true rfl) dX11_when_94 ⟨Nat.le_of_ble_eq_true rfl, Nat.le_of_ble_eq_true rfl⟩ (fun q8 h9 => ?_)
        refine r_cvv (As := [.int i1, .int (1 : Int32), p_rf g q8]) (st := []) C wv_X11_269 (tcX8_pass K.2.1 g hg q6 i1 (1 : Int32) q8 h9) (Nat.le_of_ble_eq_true rfl) rfl rfl (Nat.le_of_ble_eq_true rfl) dX11_when_97 ⟨Nat.le_of_ble_eq_true rfl, Nat.le_of_ble_eq_true rfl⟩ (fun h10 => ?_)
        refine r_iinc (lv' := [(4, .int x2), (0, p_rf g o0), (1, .int i1), (2, .int i2)]) C dX11_when_100 4 rfl k_i1 (by decide) (fun _ => rfl) (fun x11 => ?_)
        refine r_goto (tgt := 37) C dX11_when_103 (by decide) ?_
        refine r_perm (lv' := [(0, p_rf g o0), (1, .int i1), (2, .int i2), (3, .int x11)]) [2, 3, 4, 0] rfl ?_
        exact ih x11 h10
      · refine r_aload_n C dX11_when_62 1 rfl ?_
        refine r_gr C wf_X11_69_10 dX11_when_63 (fun q12 => ?_)
        refine r_cvv (As := []) (st := []) C wv_X11_242 (tcX3_start K.2.1 g hg q12 h5) (Nat.le_of_ble_eq_true rfl) rfl rfl (Nat.le_of_ble_eq_true rfl) dX11_when_66 ⟨Nat.le_of_ble_eq_true rfl, Nat.le_of_ble_eq_true rfl⟩ (fun h13 => ?_)
        refine r_aload_n C dX11_when_69 1 rfl ?_
        refine r_gr C wf_X11_69_10 dX11_when_70 (fun q14 => ?_)
        refine r_iload C dX11_when_73 0 rfl ?_
        refine r_csi (As := [.int x2]) (st := [p_rf g q14]) C ws_X11_285 (tcJ6_bitCount_0f7a4 K.2.1 g hg x2 h13) (Nat.le_of_ble_eq_true rfl) rfl rfl (Nat.le_of_ble_eq_true rfl) dX11_when_75 ⟨Nat.le_of_ble_eq_true rfl, Nat.le_of_ble_eq_true rfl⟩ (fun x15 h16 => ?_)
        refine r_i2l C dX11_when_78 ?_
        refine r_cvv (As := [.long (x15.toInt64)]) (st := []) C wv_X11_248 (tcX3_add K.2.1 g hg q14 (x15.toInt64) h16) (Nat.le_of_ble_eq_true rfl) rfl rfl (Nat.le_of_ble_eq_true rfl) dX11_when_79 ⟨Nat.le_of_ble_eq_true rfl, Nat.le_of_ble_eq_true rfl⟩ (fun h17 => ?_)
        refine r_iload_n C dX11_when_82 4 rfl ?_
        exact r_iret C dX11_when_83
set_option maxRecDepth 100000 in
set_option maxHeartbeats 4000000 in
theorem tcX11_when (l : Launch) (g : WG) (hg : p_al g = false) (o0 : Nat) (i1 : Int32) (i2 : Int32) (h : PH) : CT l g 6 0 0 yX11_when cX11_when 5 (some .int) em_i [p_rf g o0, .int i1, .int i2] h (fX11_when o0 i1 i2 h) := by
  refine CT_of (own := RX11) (nm := "when") (by decide +kernel) (Nat.le_of_ble_eq_true rfl) rfl rfl rfl ⟨rfl, rfl⟩ (fun K hK C => ?_)
  subst hK
  unfold fX11_when
  show VX K g _ _ _ _ _ [(0, p_rf g o0), (1, .int i1), (2, .int i2)] _ _ _
  refine r_aload_n C dX11_when_0 0 rfl ?_
  refine r_gr C wf_X11_73_10 dX11_when_1 (fun q1 => ?_)
  refine r_iload_n C dX11_when_4 1 rfl ?_
  refine r_cvi (As := [.int i1]) (st := []) C wv_X11_184 (tcX0_hasPerson K.2.1 g hg q1 i1 h) (Nat.le_of_ble_eq_true rfl) rfl rfl (Nat.le_of_ble_eq_true rfl) dX11_when_5 ⟨Nat.le_of_ble_eq_true rfl, Nat.le_of_ble_eq_true rfl⟩ (fun x2 h3 => ?_)
  refine r_if_eq (tgt := 22) C dX11_when_8 (by decide) ?_ ?_
  · refine r_iconst C dX11_when_22 k_im1 ?_
    exact r_iret C dX11_when_23
  · refine r_aload_n C dX11_when_11 0 rfl ?_
    refine r_gr C wf_X11_73_10 dX11_when_12 (fun q4 => ?_)
    refine r_iload_n C dX11_when_15 2 rfl ?_
    refine r_cvi (As := [.int i2]) (st := []) C wv_X11_279 (tcX0_hasWant K.2.1 g hg q4 i2 h3) (Nat.le_of_ble_eq_true rfl) rfl rfl (Nat.le_of_ble_eq_true rfl) dX11_when_16 ⟨Nat.le_of_ble_eq_true rfl, Nat.le_of_ble_eq_true rfl⟩ (fun x5 h6 => ?_)
    refine r_if_ne (tgt := 24) C dX11_when_19 (by decide) ?_ ?_
    · refine r_aload_n C dX11_when_24 0 rfl ?_
      refine r_gr C wf_X11_81_10 dX11_when_25 (fun q7 => ?_)
      refine r_aload_n C dX11_when_28 0 rfl ?_
      refine r_gr C wf_X11_77_10 dX11_when_29 (fun q8 => ?_)
      refine r_cvv (As := [p_rf g q8]) (st := []) C wv_X11_216 (tcX8_copy K.2.1 g hg q7 q8 h6) (Nat.le_of_ble_eq_true rfl) rfl rfl (Nat.le_of_ble_eq_true rfl) dX11_when_32 ⟨Nat.le_of_ble_eq_true rfl, Nat.le_of_ble_eq_true rfl⟩ (fun h9 => ?_)
      refine r_iconst C dX11_when_35 k_i0 ?_
      refine r_istore_n (lv9 := [(3, .int (0 : Int32)), (0, p_rf g o0), (1, .int i1), (2, .int i2)]) C dX11_when_36 (by decide) rfl ?_
      refine r_perm (lv' := [(0, p_rf g o0), (1, .int i1), (2, .int i2), (3, .int (0 : Int32))]) [1, 2, 3, 0] rfl ?_
      refine tX11_when_L37 hg C o0 i1 i2 (fun h10 => ?_) FU (0 : Int32) h9
      refine r_bipush C dX11_when_106 k_bm2 ?_
      exact r_iret C dX11_when_108
    · refine r_iconst C dX11_when_22 k_im1 ?_
      exact r_iret C dX11_when_23
set_option maxRecDepth 100000 in
set_option maxHeartbeats 4000000 in
theorem tX11_lacks_J89_32 {K : AC} {g : WG} (hg : p_al g = false)  (C : Cx K g cX11_lacks 7 RX11 (some .int) "lacks" 3 0 0) (o0 : Nat) (i1 : Int32) (i2 : Int32) (i4 : Int32) (i5 : Int32) (i6 : Int32) (s0 : Int32) (s1 : Int32)    {rc : Int32 → Int32 → Int32 → PH → Option (Int32 × PH)} {kx : Int32 → Int32 → PH → Option (Int32 × PH)} (hr : ∀ (i3' : Int32) (i4' : Int32) (i5' : Int32) (h : PH), VX K g 7 0 0 (a_fin K g 0 0 em_i) 32 [(0, p_rf g o0), (1, .int i1), (2, .int i2), (3, .int i3'), (4, .int i4'), (5, .int i5')] [] h (rc i3' i4' i5' h)) (hk : ∀ (i3' : Int32) (i4' : Int32) (h : PH), VX K g 7 0 0 (a_fin K g 0 0 em_i) 104 [(0, p_rf g o0), (3, .int i3'), (4, .int i4')] [] h (kx i3' i4' h)) (h : PH) : VX K g 7 0 0 (a_fin K g 0 0 em_i) 89 [(0, p_rf g o0), (1, .int i1), (2, .int i2), (4, .int i4), (5, .int i5), (6, .int i6)] [.int s0, .int s1] h (fX11_lacks_J89_32 rc kx o0 i1 i2 i4 i5 i6 s0 s1 h) := by
  unfold fX11_lacks_J89_32
  refine r_ior C dX11_lacks_89 ?_
  refine r_topi (fun x1 => ?_)
  refine r_istore_n (lv9 := [(3, .int x1), (0, p_rf g o0), (1, .int i1), (2, .int i2), (4, .int i4), (5, .int i5), (6, .int i6)]) C dX11_lacks_90 (by decide) rfl ?_
  refine r_iload C dX11_lacks_91 4 rfl ?_
  refine r_iload C dX11_lacks_93 6 rfl ?_
  refine r_iadd C dX11_lacks_95 ?_
  refine r_topi (fun x2 => ?_)
  refine r_istore (lv9 := [(4, .int x2), (3, .int x1), (0, p_rf g o0), (1, .int i1), (2, .int i2), (5, .int i5), (6, .int i6)]) C dX11_lacks_96 (by decide) rfl ?_
  refine r_iinc (lv' := [(4, .int x2), (3, .int x1), (0, p_rf g o0), (1, .int i1), (2, .int i2), (6, .int i6)]) C dX11_lacks_98 5 rfl k_i1 (by decide) (fun _ => rfl) (fun x3 => ?_)
  refine r_goto (tgt := 32) C dX11_lacks_101 (by decide) ?_
  refine r_perm (lv' := [(0, p_rf g o0), (1, .int i1), (2, .int i2), (3, .int x1), (4, .int x2), (5, .int x3)]) [3, 4, 5, 2, 1, 0] rfl ?_
  exact hr x1 x2 x3 h
set_option maxRecDepth 100000 in
set_option maxHeartbeats 4000000 in
theorem tX11_lacks_L32 {K : AC} {g : WG} (hg : p_al g = false)  (C : Cx K g cX11_lacks 7 RX11 (some .int) "lacks" 3 0 0) (o0 : Nat) (i1 : Int32) (i2 : Int32) {kx : Int32 → Int32 → PH → Option (Int32 × PH)} (hk : ∀ (i3 : Int32) (i4 : Int32) (h : PH), VX K g 7 0 0 (a_fin K g 0 0 em_i) 104 [(0, p_rf g o0), (3, .int i3), (4, .int i4)] [] h (kx i3 i4 h)) : ∀ (n : Nat) (i3 : Int32) (i4 : Int32) (i5 : Int32) (h : PH), VX K g 7 0 0 (a_fin K g 0 0 em_i) 32 [(0, p_rf g o0), (1, .int i1), (2, .int i2), (3, .int i3), (4, .int i4), (5, .int i5)] [] h (fX11_lacks_L32 o0 i1 i2 kx n i3 i4 i5 h) := by
  intro n
  induction n with
  | zero =>
    intros
    exact r_none
  | succ n ih =>
    intro i3 i4 i5 h
    rw [fX11_lacks_L32]
    refine r_iload C dX11_lacks_32 5 rfl ?_
    refine r_aload_n C dX11_lacks_34 0 rfl ?_
    refine r_gr C wf_X11_73_10 dX11_lacks_35 (fun q1 => ?_)
    refine r_iload_n C dX11_lacks_38 2 rfl ?_
    refine r_cvi (As := [.int i2]) (st := [.int i5]) C wv_X11_290 (tcX0_termsOf K.2.1 g hg q1 i2 h) (Nat.le_of_ble_eq_true rfl) rfl rfl (Nat.le_of_ble_eq_true rfl) dX11_lacks_39 ⟨Nat.le_of_ble_eq_true rfl, Nat.le_of_ble_eq_true rfl⟩ (fun x2 h3 => ?_)
    refine r_icmp_ge (tgt := 104) C dX11_lacks_42 (by decide) ?_ ?_
    · refine r_perm (lv' := [(0, p_rf g o0), (3, .int i3), (4, .int i4)]) [0, 3, 4] rfl ?_
      exact hk i3 i4 h3
    · refine r_aload_n C dX11_lacks_45 0 rfl ?_
      refine r_gr C wf_X11_73_10 dX11_lacks_46 (fun q4 => ?_)
      refine r_iload_n C dX11_lacks_49 2 rfl ?_
      refine r_iload C dX11_lacks_50 5 rfl ?_
      refine r_aload_n C dX11_lacks_52 0 rfl ?_
      refine r_gr C wf_X11_77_10 dX11_lacks_53 (fun q5 => ?_)
      refine r_iload_n C dX11_lacks_56 1 rfl ?_
      refine r_aload_n C dX11_lacks_57 0 rfl ?_
      refine r_gr C wf_X11_73_10 dX11_lacks_58 (fun q6 => ?_)
      refine r_iload_n C dX11_lacks_61 2 rfl ?_
      refine r_iload C dX11_lacks_62 5 rfl ?_
      refine r_cvi (As := [.int i2, .int i5]) (st := [.int i1, p_rf g q5, .int i5, .int i2, p_rf g q4]) C wv_X11_293 (tcX0_humourOfTerm K.2.1 g hg q6 i2 i5 h3) (Nat.le_of_ble_eq_true rfl) rfl rfl (Nat.le_of_ble_eq_true rfl) dX11_lacks_64 ⟨Nat.le_of_ble_eq_true rfl, Nat.le_of_ble_eq_true rfl⟩ (fun x7 h8 => ?_)
      refine r_cvi (As := [.int i1, .int x7]) (st := [.int i5, .int i2, p_rf g q4]) C wv_X11_196 (tcX8_humourOf K.2.1 g hg q5 i1 x7 h8) (Nat.le_of_ble_eq_true rfl) rfl rfl (Nat.le_of_ble_eq_true rfl) dX11_lacks_67 ⟨Nat.le_of_ble_eq_true rfl, Nat.le_of_ble_eq_true rfl⟩ (fun x9 h10 => ?_)
      refine r_cvi (As := [.int i2, .int i5, .int x9]) (st := []) C wv_X11_296 (tcX0_offBy K.2.1 g hg q4 i2 i5 x9 h10) (Nat.le_of_ble_eq_true rfl) rfl rfl (Nat.le_of_ble_eq_true rfl) dX11_lacks_70 ⟨Nat.le_of_ble_eq_true rfl, Nat.le_of_ble_eq_true rfl⟩ (fun x11 h12 => ?_)
      refine r_istore (lv9 := [(6, .int x11), (0, p_rf g o0), (1, .int i1), (2, .int i2), (3, .int i3), (4, .int i4), (5, .int i5)]) C dX11_lacks_73 (by decide) rfl ?_
      refine r_iload_n C dX11_lacks_75 4 rfl ?_
      refine r_iload C dX11_lacks_76 0 rfl ?_
      refine r_if_le (tgt := 88) C dX11_lacks_78 (by decide) ?_ ?_
      · refine r_iconst C dX11_lacks_88 k_i0 ?_
        refine r_perm (lv' := [(0, p_rf g o0), (1, .int i1), (2, .int i2), (4, .int i4), (5, .int i5), (6, .int x11)]) [1, 2, 3, 5, 6, 0] rfl ?_
        exact tX11_lacks_J89_32 hg C o0 i1 i2 i4 i5 x11 (0 : Int32) i3 ih hk h12
      · refine r_iconst C dX11_lacks_81 k_i1 ?_
        refine r_iload C dX11_lacks_82 6 rfl ?_
        refine r_ishl C dX11_lacks_84 ?_
        refine r_goto (tgt := 89) C dX11_lacks_85 (by decide) ?_
        refine r_perm (lv' := [(0, p_rf g o0), (1, .int i1), (2, .int i2), (4, .int i4), (5, .int i5), (6, .int x11)]) [1, 2, 3, 5, 6, 0] rfl ?_
        exact tX11_lacks_J89_32 hg C o0 i1 i2 i4 i5 x11 ((1 : Int32) <<< (i5 &&& 31)) i3 ih hk h12
set_option maxRecDepth 100000 in
set_option maxHeartbeats 4000000 in
theorem tcX11_lacks (l : Launch) (g : WG) (hg : p_al g = false) (o0 : Nat) (i1 : Int32) (i2 : Int32) (h : PH) : CT l g 3 0 0 yX11_lacks cX11_lacks 7 (some .int) em_i [p_rf g o0, .int i1, .int i2] h (fX11_lacks o0 i1 i2 h) := by
  refine CT_of (own := RX11) (nm := "lacks") (by decide +kernel) (Nat.le_of_ble_eq_true rfl) rfl rfl rfl ⟨rfl, rfl⟩ (fun K hK C => ?_)
  subst hK
  unfold fX11_lacks
  show VX K g _ _ _ _ _ [(0, p_rf g o0), (1, .int i1), (2, .int i2)] _ _ _
  refine r_aload_n C dX11_lacks_0 0 rfl ?_
  refine r_gr C wf_X11_73_10 dX11_lacks_1 (fun q1 => ?_)
  refine r_iload_n C dX11_lacks_4 1 rfl ?_
  refine r_cvi (As := [.int i1]) (st := []) C wv_X11_184 (tcX0_hasPerson K.2.1 g hg q1 i1 h) (Nat.le_of_ble_eq_true rfl) rfl rfl (Nat.le_of_ble_eq_true rfl) dX11_lacks_5 ⟨Nat.le_of_ble_eq_true rfl, Nat.le_of_ble_eq_true rfl⟩ (fun x2 h3 => ?_)
  refine r_if_eq (tgt := 22) C dX11_lacks_8 (by decide) ?_ ?_
  · refine r_iconst C dX11_lacks_22 k_im1 ?_
    exact r_iret C dX11_lacks_23
  · refine r_aload_n C dX11_lacks_11 0 rfl ?_
    refine r_gr C wf_X11_73_10 dX11_lacks_12 (fun q4 => ?_)
    refine r_iload_n C dX11_lacks_15 2 rfl ?_
    refine r_cvi (As := [.int i2]) (st := []) C wv_X11_279 (tcX0_hasWant K.2.1 g hg q4 i2 h3) (Nat.le_of_ble_eq_true rfl) rfl rfl (Nat.le_of_ble_eq_true rfl) dX11_lacks_16 ⟨Nat.le_of_ble_eq_true rfl, Nat.le_of_ble_eq_true rfl⟩ (fun x5 h6 => ?_)
    refine r_if_ne (tgt := 24) C dX11_lacks_19 (by decide) ?_ ?_
    · refine r_iconst C dX11_lacks_24 k_i0 ?_
      refine r_istore_n (lv9 := [(3, .int (0 : Int32)), (0, p_rf g o0), (1, .int i1), (2, .int i2)]) C dX11_lacks_25 (by decide) rfl ?_
      refine r_iconst C dX11_lacks_26 k_i0 ?_
      refine r_istore (lv9 := [(4, .int (0 : Int32)), (3, .int (0 : Int32)), (0, p_rf g o0), (1, .int i1), (2, .int i2)]) C dX11_lacks_27 (by decide) rfl ?_
      refine r_iconst C dX11_lacks_29 k_i0 ?_
      refine r_istore (lv9 := [(5, .int (0 : Int32)), (4, .int (0 : Int32)), (3, .int (0 : Int32)), (0, p_rf g o0), (1, .int i1), (2, .int i2)]) C dX11_lacks_30 (by decide) rfl ?_
      refine r_perm (lv' := [(0, p_rf g o0), (1, .int i1), (2, .int i2), (3, .int (0 : Int32)), (4, .int (0 : Int32)), (5, .int (0 : Int32))]) [3, 4, 5, 2, 1, 0] rfl ?_
      refine tX11_lacks_L32 hg C o0 i1 i2 (fun x7 x8 h9 => ?_) FU (0 : Int32) (0 : Int32) (0 : Int32) h6
      refine r_aload_n C dX11_lacks_104 0 rfl ?_
      refine r_gr C wf_X11_69_10 dX11_lacks_105 (fun q10 => ?_)
      refine r_cvv (As := []) (st := []) C wv_X11_242 (tcX3_start K.2.1 g hg q10 h9) (Nat.le_of_ble_eq_true rfl) rfl rfl (Nat.le_of_ble_eq_true rfl) dX11_lacks_108 ⟨Nat.le_of_ble_eq_true rfl, Nat.le_of_ble_eq_true rfl⟩ (fun h11 => ?_)
      refine r_aload_n C dX11_lacks_111 0 rfl ?_
      refine r_gr C wf_X11_69_10 dX11_lacks_112 (fun q12 => ?_)
      refine r_iload C dX11_lacks_115 2 rfl ?_
      refine r_i2l C dX11_lacks_117 ?_
      refine r_cvv (As := [.long (x8.toInt64)]) (st := []) C wv_X11_248 (tcX3_add K.2.1 g hg q12 (x8.toInt64) h11) (Nat.le_of_ble_eq_true rfl) rfl rfl (Nat.le_of_ble_eq_true rfl) dX11_lacks_118 ⟨Nat.le_of_ble_eq_true rfl, Nat.le_of_ble_eq_true rfl⟩ (fun h13 => ?_)
      refine r_iload_n C dX11_lacks_121 1 rfl ?_
      exact r_iret C dX11_lacks_122
    · refine r_iconst C dX11_lacks_22 k_im1 ?_
      exact r_iret C dX11_lacks_23
set_option maxRecDepth 100000 in
set_option maxHeartbeats 4000000 in
theorem tX11_richest_J64_16 {K : AC} {g : WG} (hg : p_al g = false)  (C : Cx K g cX11_richest 6 RX11 (some .int) "richest" 5 0 0) (o0 : Nat) (i1 : Int32) (i2 : Int32) (i3 : Int32) (i4 : Int32)    {rc : Int32 → Int32 → Int32 → Int32 → PH → Option (Int32 × PH)} {kx : Int32 → Int32 → PH → Option (Int32 × PH)} (hr : ∀ (i1' : Int32) (i2' : Int32) (i3' : Int32) (i4' : Int32) (h : PH), VX K g 6 0 0 (a_fin K g 0 0 em_i) 16 [(0, p_rf g o0), (1, .int i1'), (2, .int i2'), (3, .int i3'), (4, .int i4')] [] h (rc i1' i2' i3' i4' h)) (hk : ∀ (i1' : Int32) (i3' : Int32) (h : PH), VX K g 6 0 0 (a_fin K g 0 0 em_i) 70 [(0, p_rf g o0), (1, .int i1'), (3, .int i3')] [] h (kx i1' i3' h)) (h : PH) : VX K g 6 0 0 (a_fin K g 0 0 em_i) 64 [(0, p_rf g o0), (1, .int i1), (2, .int i2), (3, .int i3), (4, .int i4)] [] h (fX11_richest_J64_16 rc kx o0 i1 i2 i3 i4 h) := by
  unfold fX11_richest_J64_16
  refine r_iinc (lv' := [(0, p_rf g o0), (1, .int i1), (2, .int i2), (3, .int i3)]) C dX11_richest_64 4 rfl k_i1 (by decide) (fun _ => rfl) (fun x1 => ?_)
  refine r_goto (tgt := 16) C dX11_richest_67 (by decide) ?_
  refine r_perm (lv' := [(0, p_rf g o0), (1, .int i1), (2, .int i2), (3, .int i3), (4, .int x1)]) [1, 2, 3, 4, 0] rfl ?_
  exact hr i1 i2 i3 x1 h
set_option maxRecDepth 100000 in
set_option maxHeartbeats 4000000 in
theorem tX11_richest_L16 {K : AC} {g : WG} (hg : p_al g = false)  (C : Cx K g cX11_richest 6 RX11 (some .int) "richest" 5 0 0) (o0 : Nat) {kx : Int32 → Int32 → PH → Option (Int32 × PH)} (hk : ∀ (i1 : Int32) (i3 : Int32) (h : PH), VX K g 6 0 0 (a_fin K g 0 0 em_i) 70 [(0, p_rf g o0), (1, .int i1), (3, .int i3)] [] h (kx i1 i3 h)) : ∀ (n : Nat) (i1 : Int32) (i2 : Int32) (i3 : Int32) (i4 : Int32) (h : PH), VX K g 6 0 0 (a_fin K g 0 0 em_i) 16 [(0, p_rf g o0), (1, .int i1), (2, .int i2), (3, .int i3), (4, .int i4)] [] h (fX11_richest_L16 o0 kx n i1 i2 i3 i4 h) := by
  intro n
  induction n with
  | zero =>
    intros
    exact r_none
  | succ n ih =>
    intro i1 i2 i3 i4 h
    rw [fX11_richest_L16]
    refine r_iload C dX11_richest_16 4 rfl ?_
    refine r_aload_n C dX11_richest_18 0 rfl ?_
    refine r_gr C wf_X11_73_10 dX11_richest_19 (fun q1 => ?_)
    refine r_cvi (As := []) (st := [.int i4]) C wv_X11_126 (tcX0_personSize K.2.1 g hg q1 h) (Nat.le_of_ble_eq_true rfl) rfl rfl (Nat.le_of_ble_eq_true rfl) dX11_richest_22 ⟨Nat.le_of_ble_eq_true rfl, Nat.le_of_ble_eq_true rfl⟩ (fun x2 h3 => ?_)
    refine r_icmp_ge (tgt := 70) C dX11_richest_25 (by decide) ?_ ?_
    · refine r_perm (lv' := [(0, p_rf g o0), (1, .int i1), (3, .int i3)]) [0, 1, 3] rfl ?_
      exact hk i1 i3 h3
    · refine r_aload_n C dX11_richest_28 0 rfl ?_
      refine r_gr C wf_X11_77_10 dX11_richest_29 (fun q4 => ?_)
      refine r_iload C dX11_richest_32 4 rfl ?_
      refine r_cvi (As := [.int i4]) (st := []) C wv_X11_193 (tcX8_wantsOf K.2.1 g hg q4 i4 h3) (Nat.le_of_ble_eq_true rfl) rfl rfl (Nat.le_of_ble_eq_true rfl) dX11_richest_34 ⟨Nat.le_of_ble_eq_true rfl, Nat.le_of_ble_eq_true rfl⟩ (fun x5 h6 => ?_)
      refine r_istore (lv9 := [(5, .int x5), (0, p_rf g o0), (1, .int i1), (2, .int i2), (3, .int i3), (4, .int i4)]) C dX11_richest_37 (by decide) rfl ?_
      refine r_iload_n C dX11_richest_39 4 rfl ?_
      refine r_iload C dX11_richest_40 0 rfl ?_
      refine r_iconst C dX11_richest_42 k_im1 ?_
      refine r_ixor C dX11_richest_43 ?_
      refine r_iand C dX11_richest_44 ?_
      refine r_topi (fun x7 => ?_)
      refine r_istore_n (lv9 := [(3, .int x7), (5, .int x5), (0, p_rf g o0), (1, .int i1), (2, .int i2), (4, .int i4)]) C dX11_richest_45 (by decide) rfl ?_
      refine r_iload C dX11_richest_46 1 rfl ?_
      refine r_csi (As := [.int x5]) (st := []) C ws_X11_285 (tcJ6_bitCount_0f7a4 K.2.1 g hg x5 h6) (Nat.le_of_ble_eq_true rfl) rfl rfl (Nat.le_of_ble_eq_true rfl) dX11_richest_48 ⟨Nat.le_of_ble_eq_true rfl, Nat.le_of_ble_eq_true rfl⟩ (fun x8 h9 => ?_)
      refine r_iload_n C dX11_richest_51 4 rfl ?_
      refine r_icmp_le (tgt := 64) C dX11_richest_52 (by decide) ?_ ?_
      · refine r_perm (lv' := [(0, p_rf g o0), (1, .int i1), (2, .int i2), (3, .int x7), (4, .int i4)]) [2, 3, 4, 0, 5] rfl ?_
        exact tX11_richest_J64_16 hg C o0 i1 i2 x7 i4 ih hk h9
      · refine r_iload C dX11_richest_55 1 rfl ?_
        refine r_csi (As := [.int x5]) (st := []) C ws_X11_285 (tcJ6_bitCount_0f7a4 K.2.1 g hg x5 h9) (Nat.le_of_ble_eq_true rfl) rfl rfl (Nat.le_of_ble_eq_true rfl) dX11_richest_57 ⟨Nat.le_of_ble_eq_true rfl, Nat.le_of_ble_eq_true rfl⟩ (fun x10 h11 => ?_)
        refine r_istore_n (lv9 := [(2, .int x10), (3, .int x7), (5, .int x5), (0, p_rf g o0), (1, .int i1), (4, .int i4)]) C dX11_richest_60 (by decide) rfl ?_
        refine r_iload C dX11_richest_61 5 rfl ?_
        refine r_istore_n (lv9 := [(1, .int i4), (2, .int x10), (3, .int x7), (5, .int x5), (0, p_rf g o0), (4, .int i4)]) C dX11_richest_63 (by decide) rfl ?_
        refine r_perm (lv' := [(0, p_rf g o0), (1, .int i4), (2, .int x10), (3, .int x7), (4, .int i4)]) [4, 0, 1, 2, 5] rfl ?_
        exact tX11_richest_J64_16 hg C o0 i4 x10 x7 i4 ih hk h11
set_option maxRecDepth 100000 in
set_option maxHeartbeats 4000000 in
theorem tcX11_richest (l : Launch) (g : WG) (hg : p_al g = false) (o0 : Nat) (h : PH) : CT l g 5 0 0 yX11_richest cX11_richest 6 (some .int) em_i [p_rf g o0] h (fX11_richest o0 h) := by
  refine CT_of (own := RX11) (nm := "richest") (by decide +kernel) (Nat.le_of_ble_eq_true rfl) rfl rfl rfl ⟨rfl, rfl⟩ (fun K hK C => ?_)
  subst hK
  unfold fX11_richest
  show VX K g _ _ _ _ _ [(0, p_rf g o0)] _ _ _
  refine r_bipush C dX11_richest_0 k_bm2 ?_
  refine r_istore_n (lv9 := [(1, .int (-2 : Int32)), (0, p_rf g o0)]) C dX11_richest_2 (by decide) rfl ?_
  refine r_iconst C dX11_richest_3 k_im1 ?_
  refine r_istore_n (lv9 := [(2, .int (-1 : Int32)), (1, .int (-2 : Int32)), (0, p_rf g o0)]) C dX11_richest_4 (by decide) rfl ?_
  refine r_aload_n C dX11_richest_5 2 rfl ?_
  refine r_gr C wf_X11_73_10 dX11_richest_6 (fun q1 => ?_)
  refine r_cvi (As := []) (st := []) C wv_X11_299 (tcX0_allWants K.2.1 g hg q1 h) (Nat.le_of_ble_eq_true rfl) rfl rfl (Nat.le_of_ble_eq_true rfl) dX11_richest_9 ⟨Nat.le_of_ble_eq_true rfl, Nat.le_of_ble_eq_true rfl⟩ (fun x2 h3 => ?_)
  refine r_istore_n (lv9 := [(3, .int x2), (2, .int (-1 : Int32)), (1, .int (-2 : Int32)), (0, p_rf g o0)]) C dX11_richest_12 (by decide) rfl ?_
  refine r_iconst C dX11_richest_13 k_i0 ?_
  refine r_istore (lv9 := [(4, .int (0 : Int32)), (3, .int x2), (2, .int (-1 : Int32)), (1, .int (-2 : Int32)), (0, p_rf g o0)]) C dX11_richest_14 (by decide) rfl ?_
  refine r_perm (lv' := [(0, p_rf g o0), (1, .int (-2 : Int32)), (2, .int (-1 : Int32)), (3, .int x2), (4, .int (0 : Int32))]) [4, 3, 2, 1, 0] rfl ?_
  refine tX11_richest_L16 hg C o0 (fun x4 x5 h6 => ?_) FU (-2 : Int32) (-1 : Int32) x2 (0 : Int32) h3
  refine r_iload_n C dX11_richest_70 1 rfl ?_
  refine r_if_lt (tgt := 106) C dX11_richest_71 (by decide) ?_ ?_
  · refine r_iload_n C dX11_richest_106 1 rfl ?_
    exact r_iret C dX11_richest_107
  · refine r_aload_n C dX11_richest_74 0 rfl ?_
    refine r_gr C wf_X11_69_10 dX11_richest_75 (fun q7 => ?_)
    refine r_cvv (As := []) (st := []) C wv_X11_242 (tcX3_start K.2.1 g hg q7 h6) (Nat.le_of_ble_eq_true rfl) rfl rfl (Nat.le_of_ble_eq_true rfl) dX11_richest_78 ⟨Nat.le_of_ble_eq_true rfl, Nat.le_of_ble_eq_true rfl⟩ (fun h8 => ?_)
    refine r_aload_n C dX11_richest_81 0 rfl ?_
    refine r_gr C wf_X11_69_10 dX11_richest_82 (fun q9 => ?_)
    refine r_aload_n C dX11_richest_85 0 rfl ?_
    refine r_gr C wf_X11_77_10 dX11_richest_86 (fun q10 => ?_)
    refine r_iload_n C dX11_richest_89 1 rfl ?_
    refine r_cvi (As := [.int x4]) (st := [p_rf g q9]) C wv_X11_193 (tcX8_wantsOf K.2.1 g hg q10 x4 h8) (Nat.le_of_ble_eq_true rfl) rfl rfl (Nat.le_of_ble_eq_true rfl) dX11_richest_90 ⟨Nat.le_of_ble_eq_true rfl, Nat.le_of_ble_eq_true rfl⟩ (fun x11 h12 => ?_)
    refine r_i2l C dX11_richest_93 ?_
    refine r_cvv (As := [.long (x11.toInt64)]) (st := []) C wv_X11_248 (tcX3_add K.2.1 g hg q9 (x11.toInt64) h12) (Nat.le_of_ble_eq_true rfl) rfl rfl (Nat.le_of_ble_eq_true rfl) dX11_richest_94 ⟨Nat.le_of_ble_eq_true rfl, Nat.le_of_ble_eq_true rfl⟩ (fun h13 => ?_)
    refine r_aload_n C dX11_richest_97 0 rfl ?_
    refine r_gr C wf_X11_69_10 dX11_richest_98 (fun q14 => ?_)
    refine r_iload_n C dX11_richest_101 2 rfl ?_
    refine r_i2l C dX11_richest_102 ?_
    refine r_cvv (As := [.long (x5.toInt64)]) (st := []) C wv_X11_248 (tcX3_add K.2.1 g hg q14 (x5.toInt64) h13) (Nat.le_of_ble_eq_true rfl) rfl rfl (Nat.le_of_ble_eq_true rfl) dX11_richest_103 ⟨Nat.le_of_ble_eq_true rfl, Nat.le_of_ble_eq_true rfl⟩ (fun h15 => ?_)
    refine r_iload_n C dX11_richest_106 1 rfl ?_
    exact r_iret C dX11_richest_107
set_option maxRecDepth 100000 in
set_option maxHeartbeats 4000000 in
theorem tX11_apart_L78 {K : AC} {g : WG} (hg : p_al g = false)  (C : Cx K g cX11_apart 7 RX11 (some .int) "apart" 7 0 0) (o0 : Nat) (i1 : Int32) (i2 : Int32) {kx : Int32 → PH → Option (Int32 × PH)} (hk : ∀ (i4 : Int32) (h : PH), VX K g 7 0 0 (a_fin K g 0 0 em_i) 133 [(4, .int i4)] [] h (kx i4 h)) : ∀ (n : Nat) (i4 : Int32) (i5 : Int32) (h : PH), VX K g 7 0 0 (a_fin K g 0 0 em_i) 78 [(0, p_rf g o0), (1, .int i1), (2, .int i2), (4, .int i4), (5, .int i5)] [] h (fX11_apart_L78 o0 i1 i2 kx n i4 i5 h) := by
  intro n
  induction n with
  | zero =>
    intros
    exact r_none
  | succ n ih =>
    intro i4 i5 h
    rw [fX11_apart_L78]
    refine r_iload C dX11_apart_78 4 rfl ?_
    refine r_iconst C dX11_apart_80 k_i4 ?_
    refine r_icmp_ge (tgt := 133) C dX11_apart_81 (by decide) ?_ ?_
    · refine r_perm (lv' := [(4, .int i4)]) [3] rfl ?_
      exact hk i4 h
    · refine r_aload_n C dX11_apart_84 0 rfl ?_
      refine r_gr C wf_X11_81_10 dX11_apart_85 (fun q1 => ?_)
      refine r_iload_n C dX11_apart_88 1 rfl ?_
      refine r_iload C dX11_apart_89 4 rfl ?_
      refine r_cvi (As := [.int i1, .int i5]) (st := []) C wv_X11_196 (tcX8_humourOf K.2.1 g hg q1 i1 i5 h) (Nat.le_of_ble_eq_true rfl) rfl rfl (Nat.le_of_ble_eq_true rfl) dX11_apart_91 ⟨Nat.le_of_ble_eq_true rfl, Nat.le_of_ble_eq_true rfl⟩ (fun x2 h3 => ?_)
      refine r_aload_n C dX11_apart_94 0 rfl ?_
      refine r_gr C wf_X11_81_10 dX11_apart_95 (fun q4 => ?_)
      refine r_iload_n C dX11_apart_98 2 rfl ?_
      refine r_iload C dX11_apart_99 4 rfl ?_
      refine r_cvi (As := [.int i2, .int i5]) (st := [.int x2]) C wv_X11_196 (tcX8_humourOf K.2.1 g hg q4 i2 i5 h3) (Nat.le_of_ble_eq_true rfl) rfl rfl (Nat.le_of_ble_eq_true rfl) dX11_apart_101 ⟨Nat.le_of_ble_eq_true rfl, Nat.le_of_ble_eq_true rfl⟩ (fun x5 h6 => ?_)
      refine r_isub C dX11_apart_104 ?_
      refine r_topi (fun x7 => ?_)
      refine r_istore (lv9 := [(6, .int x7), (0, p_rf g o0), (1, .int i1), (2, .int i2), (4, .int i4), (5, .int i5)]) C dX11_apart_105 (by decide) rfl ?_
      refine r_aload_n C dX11_apart_107 1 rfl ?_
      refine r_gr C wf_X11_69_10 dX11_apart_108 (fun q8 => ?_)
      refine r_iload C dX11_apart_111 0 rfl ?_
      refine r_i2l C dX11_apart_113 ?_
      refine r_cvv (As := [.long (x7.toInt64)]) (st := []) C wv_X11_248 (tcX3_add K.2.1 g hg q8 (x7.toInt64) h6) (Nat.le_of_ble_eq_true rfl) rfl rfl (Nat.le_of_ble_eq_true rfl) dX11_apart_114 ⟨Nat.le_of_ble_eq_true rfl, Nat.le_of_ble_eq_true rfl⟩ (fun h9 => ?_)
      refine r_iload C dX11_apart_117 4 rfl ?_
      refine r_iload C dX11_apart_119 0 rfl ?_
      refine r_abs C wm_X11_306 (Nat.le_of_ble_eq_true rfl) (Nat.le_of_ble_eq_true rfl) ⟨Nat.le_of_ble_eq_true rfl, Nat.le_of_ble_eq_true rfl⟩ dX11_apart_121 ?_
      refine r_iadd C dX11_apart_124 ?_
      refine r_topi (fun x10 => ?_)
      refine r_istore (lv9 := [(4, .int x10), (6, .int x7), (0, p_rf g o0), (1, .int i1), (2, .int i2), (5, .int i5)]) C dX11_apart_125 (by decide) rfl ?_
      refine r_iinc (lv' := [(4, .int x10), (6, .int x7), (0, p_rf g o0), (1, .int i1), (2, .int i2)]) C dX11_apart_127 5 rfl k_i1 (by decide) (fun _ => rfl) (fun x11 => ?_)
      refine r_goto (tgt := 78) C dX11_apart_130 (by decide) ?_
      refine r_perm (lv' := [(0, p_rf g o0), (1, .int i1), (2, .int i2), (4, .int x10), (5, .int x11)]) [3, 4, 5, 1, 0] rfl ?_
      exact ih x10 x11 h9
set_option maxRecDepth 100000 in
set_option maxHeartbeats 4000000 in
theorem tcX11_apart (l : Launch) (g : WG) (hg : p_al g = false) (o0 : Nat) (i1 : Int32) (i2 : Int32) (i3 : Int32) (h : PH) : CT l g 7 0 0 yX11_apart cX11_apart 7 (some .int) em_i [p_rf g o0, .int i1, .int i2, .int i3] h (fX11_apart o0 i1 i2 i3 h) := by
  refine CT_of (own := RX11) (nm := "apart") (by decide +kernel) (Nat.le_of_ble_eq_true rfl) rfl rfl rfl ⟨rfl, rfl⟩ (fun K hK C => ?_)
  subst hK
  unfold fX11_apart
  show VX K g _ _ _ _ _ [(0, p_rf g o0), (1, .int i1), (2, .int i2), (3, .int i3)] _ _ _
  refine r_aload_n C dX11_apart_0 0 rfl ?_
  refine r_gr C wf_X11_73_10 dX11_apart_1 (fun q1 => ?_)
  refine r_iload_n C dX11_apart_4 1 rfl ?_
  refine r_cvi (As := [.int i1]) (st := []) C wv_X11_184 (tcX0_hasPerson K.2.1 g hg q1 i1 h) (Nat.le_of_ble_eq_true rfl) rfl rfl (Nat.le_of_ble_eq_true rfl) dX11_apart_5 ⟨Nat.le_of_ble_eq_true rfl, Nat.le_of_ble_eq_true rfl⟩ (fun x2 h3 => ?_)
  refine r_if_eq (tgt := 37) C dX11_apart_8 (by decide) ?_ ?_
  · refine r_iconst C dX11_apart_37 k_im1 ?_
    exact r_iret C dX11_apart_38
  · refine r_aload_n C dX11_apart_11 0 rfl ?_
    refine r_gr C wf_X11_73_10 dX11_apart_12 (fun q4 => ?_)
    refine r_iload_n C dX11_apart_15 2 rfl ?_
    refine r_cvi (As := [.int i2]) (st := []) C wv_X11_184 (tcX0_hasPerson K.2.1 g hg q4 i2 h3) (Nat.le_of_ble_eq_true rfl) rfl rfl (Nat.le_of_ble_eq_true rfl) dX11_apart_16 ⟨Nat.le_of_ble_eq_true rfl, Nat.le_of_ble_eq_true rfl⟩ (fun x5 h6 => ?_)
    refine r_if_eq (tgt := 37) C dX11_apart_19 (by decide) ?_ ?_
    · refine r_iconst C dX11_apart_37 k_im1 ?_
      exact r_iret C dX11_apart_38
    · refine r_iload_n C dX11_apart_22 1 rfl ?_
      refine r_iload_n C dX11_apart_23 2 rfl ?_
      refine r_icmp_eq (tgt := 37) C dX11_apart_24 (by decide) ?_ ?_
      · refine r_iconst C dX11_apart_37 k_im1 ?_
        exact r_iret C dX11_apart_38
      · refine r_iload_n C dX11_apart_27 3 rfl ?_
        refine r_iconst C dX11_apart_28 k_i0 ?_
        refine r_bipush C dX11_apart_29 k_b99 ?_
        refine r_csi (As := [.int i3, .int (0 : Int32), .int (99 : Int32)]) (st := []) C ws_X11_164 (tcX11_within K.2.1 g hg i3 (0 : Int32) (99 : Int32) h6) (Nat.le_of_ble_eq_true rfl) rfl rfl (Nat.le_of_ble_eq_true rfl) dX11_apart_31 ⟨Nat.le_of_ble_eq_true rfl, Nat.le_of_ble_eq_true rfl⟩ (fun x7 h8 => ?_)
        refine r_if_ne (tgt := 39) C dX11_apart_34 (by decide) ?_ ?_
        · refine r_aload_n C dX11_apart_39 0 rfl ?_
          refine r_gr C wf_X11_81_10 dX11_apart_40 (fun q9 => ?_)
          refine r_aload_n C dX11_apart_43 0 rfl ?_
          refine r_gr C wf_X11_77_10 dX11_apart_44 (fun q10 => ?_)
          refine r_cvv (As := [p_rf g q10]) (st := []) C wv_X11_216 (tcX8_copy K.2.1 g hg q9 q10 h8) (Nat.le_of_ble_eq_true rfl) rfl rfl (Nat.le_of_ble_eq_true rfl) dX11_apart_47 ⟨Nat.le_of_ble_eq_true rfl, Nat.le_of_ble_eq_true rfl⟩ (fun h11 => ?_)
          refine r_aload_n C dX11_apart_50 0 rfl ?_
          refine r_gr C wf_X11_81_10 dX11_apart_51 (fun q12 => ?_)
          refine r_iload_n C dX11_apart_54 3 rfl ?_
          refine r_aload_n C dX11_apart_55 0 rfl ?_
          refine r_gr C wf_X11_73_10 dX11_apart_56 (fun q13 => ?_)
          refine r_cvr (As := []) (st := [.int i3, p_rf g q12]) C wv_X11_235 (tcX0_presentRule K.2.1 g hg q13 h11) (Nat.le_of_ble_eq_true rfl) rfl rfl (Nat.le_of_ble_eq_true rfl) dX11_apart_59 ⟨Nat.le_of_ble_eq_true rfl, Nat.le_of_ble_eq_true rfl⟩ (fun q14 h15 => ?_)
          refine r_cvv (As := [.int i3, p_rf g q14]) (st := []) C wv_X11_302 (tcX8_passAll K.2.1 g hg q12 i3 q14 h15) (Nat.le_of_ble_eq_true rfl) rfl rfl (Nat.le_of_ble_eq_true rfl) dX11_apart_62 ⟨Nat.le_of_ble_eq_true rfl, Nat.le_of_ble_eq_true rfl⟩ (fun h16 => ?_)
          refine r_iconst C dX11_apart_65 k_i0 ?_
          refine r_istore (lv9 := [(4, .int (0 : Int32)), (0, p_rf g o0), (1, .int i1), (2, .int i2), (3, .int i3)]) C dX11_apart_66 (by decide) rfl ?_
          refine r_aload_n C dX11_apart_68 1 rfl ?_
          refine r_gr C wf_X11_69_10 dX11_apart_69 (fun q17 => ?_)
          refine r_cvv (As := []) (st := []) C wv_X11_242 (tcX3_start K.2.1 g hg q17 h16) (Nat.le_of_ble_eq_true rfl) rfl rfl (Nat.le_of_ble_eq_true rfl) dX11_apart_72 ⟨Nat.le_of_ble_eq_true rfl, Nat.le_of_ble_eq_true rfl⟩ (fun h18 => ?_)
          refine r_iconst C dX11_apart_75 k_i0 ?_
          refine r_istore (lv9 := [(5, .int (0 : Int32)), (4, .int (0 : Int32)), (0, p_rf g o0), (1, .int i1), (2, .int i2), (3, .int i3)]) C dX11_apart_76 (by decide) rfl ?_
          refine r_perm (lv' := [(0, p_rf g o0), (1, .int i1), (2, .int i2), (4, .int (0 : Int32)), (5, .int (0 : Int32))]) [2, 3, 4, 1, 0] rfl ?_
          refine tX11_apart_L78 hg C o0 i1 i2 (fun x19 h20 => ?_) FU (0 : Int32) (0 : Int32) h18
          refine r_iload C dX11_apart_133 0 rfl ?_
          exact r_iret C dX11_apart_135
        · refine r_iconst C dX11_apart_37 k_im1 ?_
          exact r_iret C dX11_apart_38
set_option maxRecDepth 100000 in
set_option maxHeartbeats 4000000 in
theorem tcX11_fewest (l : Launch) (g : WG) (hg : p_al g = false) (o0 : Nat) (i1 : Int32) (i2 : Int32) (i3 : Int32) (h : PH) : CT l g 8 0 0 yX11_fewest cX11_fewest 4 (some .int) em_i [p_rf g o0, .int i1, .int i2, .int i3] h (fX11_fewest o0 i1 i2 i3 h) := by
  refine CT_of (own := RX11) (nm := "fewest") (by decide +kernel) (Nat.le_of_ble_eq_true rfl) rfl rfl rfl ⟨rfl, rfl⟩ (fun K hK C => ?_)
  subst hK
  unfold fX11_fewest
  show VX K g _ _ _ _ _ [(0, p_rf g o0), (1, .int i1), (2, .int i2), (3, .int i3)] _ _ _
  refine r_aload_n C dX11_fewest_0 0 rfl ?_
  refine r_gr C wf_X11_73_10 dX11_fewest_1 (fun q1 => ?_)
  refine r_iload_n C dX11_fewest_4 1 rfl ?_
  refine r_cvi (As := [.int i1]) (st := []) C wv_X11_184 (tcX0_hasPerson K.2.1 g hg q1 i1 h) (Nat.le_of_ble_eq_true rfl) rfl rfl (Nat.le_of_ble_eq_true rfl) dX11_fewest_5 ⟨Nat.le_of_ble_eq_true rfl, Nat.le_of_ble_eq_true rfl⟩ (fun x2 h3 => ?_)
  refine r_if_eq (tgt := 32) C dX11_fewest_8 (by decide) ?_ ?_
  · refine r_iconst C dX11_fewest_32 k_im1 ?_
    exact r_iret C dX11_fewest_33
  · refine r_aload_n C dX11_fewest_11 0 rfl ?_
    refine r_gr C wf_X11_73_10 dX11_fewest_12 (fun q4 => ?_)
    refine r_iload_n C dX11_fewest_15 2 rfl ?_
    refine r_cvi (As := [.int i2]) (st := []) C wv_X11_279 (tcX0_hasWant K.2.1 g hg q4 i2 h3) (Nat.le_of_ble_eq_true rfl) rfl rfl (Nat.le_of_ble_eq_true rfl) dX11_fewest_16 ⟨Nat.le_of_ble_eq_true rfl, Nat.le_of_ble_eq_true rfl⟩ (fun x5 h6 => ?_)
    refine r_if_eq (tgt := 32) C dX11_fewest_19 (by decide) ?_ ?_
    · refine r_iconst C dX11_fewest_32 k_im1 ?_
      exact r_iret C dX11_fewest_33
    · refine r_iload_n C dX11_fewest_22 3 rfl ?_
      refine r_iconst C dX11_fewest_23 k_i0 ?_
      refine r_bipush C dX11_fewest_24 k_b20 ?_
      refine r_csi (As := [.int i3, .int (0 : Int32), .int (20 : Int32)]) (st := []) C ws_X11_164 (tcX11_within K.2.1 g hg i3 (0 : Int32) (20 : Int32) h6) (Nat.le_of_ble_eq_true rfl) rfl rfl (Nat.le_of_ble_eq_true rfl) dX11_fewest_26 ⟨Nat.le_of_ble_eq_true rfl, Nat.le_of_ble_eq_true rfl⟩ (fun x7 h8 => ?_)
      refine r_if_ne (tgt := 34) C dX11_fewest_29 (by decide) ?_ ?_
      · refine r_aload_n C dX11_fewest_34 0 rfl ?_
        refine r_gr C wf_X11_65_10 dX11_fewest_35 (fun q9 => ?_)
        refine r_iload_n C dX11_fewest_38 1 rfl ?_
        refine r_iload_n C dX11_fewest_39 2 rfl ?_
        refine r_iload_n C dX11_fewest_40 3 rfl ?_
        refine r_cvi (As := [.int i1, .int i2, .int i3]) (st := []) C wv_X11_311 (tcX4_fewestFor K.2.1 g hg q9 i1 i2 i3 h8) (Nat.le_of_ble_eq_true rfl) rfl rfl (Nat.le_of_ble_eq_true rfl) dX11_fewest_41 ⟨Nat.le_of_ble_eq_true rfl, Nat.le_of_ble_eq_true rfl⟩ (fun x10 h11 => ?_)
        exact r_iret C dX11_fewest_44
      · refine r_iconst C dX11_fewest_32 k_im1 ?_
        exact r_iret C dX11_fewest_33
set_option maxRecDepth 100000 in
set_option maxHeartbeats 4000000 in
theorem tcX11_serves (l : Launch) (g : WG) (hg : p_al g = false) (o0 : Nat) (i1 : Int32) (i2 : Int32) (h : PH) : CT l g 8 0 0 yX11_serves cX11_serves 3 (some .int) em_i [p_rf g o0, .int i1, .int i2] h (fX11_serves o0 i1 i2 h) := by
  refine CT_of (own := RX11) (nm := "serves") (by decide +kernel) (Nat.le_of_ble_eq_true rfl) rfl rfl rfl ⟨rfl, rfl⟩ (fun K hK C => ?_)
  subst hK
  unfold fX11_serves
  show VX K g _ _ _ _ _ [(0, p_rf g o0), (1, .int i1), (2, .int i2)] _ _ _
  refine r_aload_n C dX11_serves_0 0 rfl ?_
  refine r_gr C wf_X11_73_10 dX11_serves_1 (fun q1 => ?_)
  refine r_iload_n C dX11_serves_4 1 rfl ?_
  refine r_cvi (As := [.int i1]) (st := []) C wv_X11_184 (tcX0_hasPerson K.2.1 g hg q1 i1 h) (Nat.le_of_ble_eq_true rfl) rfl rfl (Nat.le_of_ble_eq_true rfl) dX11_serves_5 ⟨Nat.le_of_ble_eq_true rfl, Nat.le_of_ble_eq_true rfl⟩ (fun x2 h3 => ?_)
  refine r_if_eq (tgt := 21) C dX11_serves_8 (by decide) ?_ ?_
  · refine r_iconst C dX11_serves_21 k_im1 ?_
    exact r_iret C dX11_serves_22
  · refine r_iload_n C dX11_serves_11 2 rfl ?_
    refine r_iconst C dX11_serves_12 k_i0 ?_
    refine r_bipush C dX11_serves_13 k_b60 ?_
    refine r_csi (As := [.int i2, .int (0 : Int32), .int (60 : Int32)]) (st := []) C ws_X11_164 (tcX11_within K.2.1 g hg i2 (0 : Int32) (60 : Int32) h3) (Nat.le_of_ble_eq_true rfl) rfl rfl (Nat.le_of_ble_eq_true rfl) dX11_serves_15 ⟨Nat.le_of_ble_eq_true rfl, Nat.le_of_ble_eq_true rfl⟩ (fun x4 h5 => ?_)
    refine r_if_ne (tgt := 23) C dX11_serves_18 (by decide) ?_ ?_
    · refine r_aload_n C dX11_serves_23 0 rfl ?_
      refine r_gr C wf_X11_65_10 dX11_serves_24 (fun q6 => ?_)
      refine r_iload_n C dX11_serves_27 1 rfl ?_
      refine r_iload_n C dX11_serves_28 2 rfl ?_
      refine r_cvi (As := [.int i1, .int i2]) (st := []) C wv_X11_314 (tcX4_bestServing K.2.1 g hg q6 i1 i2 h5) (Nat.le_of_ble_eq_true rfl) rfl rfl (Nat.le_of_ble_eq_true rfl) dX11_serves_29 ⟨Nat.le_of_ble_eq_true rfl, Nat.le_of_ble_eq_true rfl⟩ (fun x7 h8 => ?_)
      exact r_iret C dX11_serves_32
    · refine r_iconst C dX11_serves_21 k_im1 ?_
      exact r_iret C dX11_serves_22
set_option maxRecDepth 100000 in
set_option maxHeartbeats 4000000 in
theorem tcX11_burdens (l : Launch) (g : WG) (hg : p_al g = false) (o0 : Nat) (i1 : Int32) (i2 : Int32) (h : PH) : CT l g 8 0 0 yX11_burdens cX11_burdens 3 (some .int) em_i [p_rf g o0, .int i1, .int i2] h (fX11_burdens o0 i1 i2 h) := by
  refine CT_of (own := RX11) (nm := "burdens") (by decide +kernel) (Nat.le_of_ble_eq_true rfl) rfl rfl rfl ⟨rfl, rfl⟩ (fun K hK C => ?_)
  subst hK
  unfold fX11_burdens
  show VX K g _ _ _ _ _ [(0, p_rf g o0), (1, .int i1), (2, .int i2)] _ _ _
  refine r_aload_n C dX11_burdens_0 0 rfl ?_
  refine r_gr C wf_X11_73_10 dX11_burdens_1 (fun q1 => ?_)
  refine r_iload_n C dX11_burdens_4 1 rfl ?_
  refine r_cvi (As := [.int i1]) (st := []) C wv_X11_184 (tcX0_hasPerson K.2.1 g hg q1 i1 h) (Nat.le_of_ble_eq_true rfl) rfl rfl (Nat.le_of_ble_eq_true rfl) dX11_burdens_5 ⟨Nat.le_of_ble_eq_true rfl, Nat.le_of_ble_eq_true rfl⟩ (fun x2 h3 => ?_)
  refine r_if_eq (tgt := 21) C dX11_burdens_8 (by decide) ?_ ?_
  · refine r_iconst C dX11_burdens_21 k_im1 ?_
    exact r_iret C dX11_burdens_22
  · refine r_iload_n C dX11_burdens_11 2 rfl ?_
    refine r_iconst C dX11_burdens_12 k_i0 ?_
    refine r_bipush C dX11_burdens_13 k_b60 ?_
    refine r_csi (As := [.int i2, .int (0 : Int32), .int (60 : Int32)]) (st := []) C ws_X11_164 (tcX11_within K.2.1 g hg i2 (0 : Int32) (60 : Int32) h3) (Nat.le_of_ble_eq_true rfl) rfl rfl (Nat.le_of_ble_eq_true rfl) dX11_burdens_15 ⟨Nat.le_of_ble_eq_true rfl, Nat.le_of_ble_eq_true rfl⟩ (fun x4 h5 => ?_)
    refine r_if_ne (tgt := 23) C dX11_burdens_18 (by decide) ?_ ?_
    · refine r_aload_n C dX11_burdens_23 0 rfl ?_
      refine r_gr C wf_X11_65_10 dX11_burdens_24 (fun q6 => ?_)
      refine r_iload_n C dX11_burdens_27 1 rfl ?_
      refine r_iload_n C dX11_burdens_28 2 rfl ?_
      refine r_cvi (As := [.int i1, .int i2]) (st := []) C wv_X11_317 (tcX4_worstHeld K.2.1 g hg q6 i1 i2 h5) (Nat.le_of_ble_eq_true rfl) rfl rfl (Nat.le_of_ble_eq_true rfl) dX11_burdens_29 ⟨Nat.le_of_ble_eq_true rfl, Nat.le_of_ble_eq_true rfl⟩ (fun x7 h8 => ?_)
      exact r_iret C dX11_burdens_32
    · refine r_iconst C dX11_burdens_21 k_im1 ?_
      exact r_iret C dX11_burdens_22
set_option maxRecDepth 100000 in
set_option maxHeartbeats 4000000 in
theorem tcX11_tellFirstPair (l : Launch) (g : WG) (hg : p_al g = false) (o0 : Nat) (i1 : Int32) (i2 : Int32) (i3 : Int32) (h : PH) : CT l g 2 0 0 yX11_tellFirstPair cX11_tellFirstPair 4 none em_v [p_rf g o0, .int i1, .int i2, .int i3] h (fX11_tellFirstPair o0 i1 i2 i3 h) := by
  refine CT_of (own := RX11) (nm := "tellFirstPair") (by decide +kernel) (Nat.le_of_ble_eq_true rfl) rfl rfl rfl ⟨rfl, rfl⟩ (fun K hK C => ?_)
  subst hK
  unfold fX11_tellFirstPair
  show VX K g _ _ _ _ _ [(0, p_rf g o0), (1, .int i1), (2, .int i2), (3, .int i3)] _ _ _
  refine r_iload_n C dX11_tellFirstPair_0 1 rfl ?_
  refine r_if_ne (tgt := 22) C dX11_tellFirstPair_1 (by decide) ?_ ?_
  · exact r_vret C dX11_tellFirstPair_22
  · refine r_aload_n C dX11_tellFirstPair_4 0 rfl ?_
    refine r_gr C wf_X11_69_10 dX11_tellFirstPair_5 (fun q1 => ?_)
    refine r_iload_n C dX11_tellFirstPair_8 2 rfl ?_
    refine r_i2l C dX11_tellFirstPair_9 ?_
    refine r_cvv (As := [.long (i2.toInt64)]) (st := []) C wv_X11_248 (tcX3_add K.2.1 g hg q1 (i2.toInt64) h) (Nat.le_of_ble_eq_true rfl) rfl rfl (Nat.le_of_ble_eq_true rfl) dX11_tellFirstPair_10 ⟨Nat.le_of_ble_eq_true rfl, Nat.le_of_ble_eq_true rfl⟩ (fun h2 => ?_)
    refine r_aload_n C dX11_tellFirstPair_13 0 rfl ?_
    refine r_gr C wf_X11_69_10 dX11_tellFirstPair_14 (fun q3 => ?_)
    refine r_iload_n C dX11_tellFirstPair_17 3 rfl ?_
    refine r_i2l C dX11_tellFirstPair_18 ?_
    refine r_cvv (As := [.long (i3.toInt64)]) (st := []) C wv_X11_248 (tcX3_add K.2.1 g hg q3 (i3.toInt64) h2) (Nat.le_of_ble_eq_true rfl) rfl rfl (Nat.le_of_ble_eq_true rfl) dX11_tellFirstPair_19 ⟨Nat.le_of_ble_eq_true rfl, Nat.le_of_ble_eq_true rfl⟩ (fun h4 => ?_)
    exact r_vret C dX11_tellFirstPair_22
set_option maxRecDepth 100000 in
set_option maxHeartbeats 4000000 in
theorem tX11_quarrels_J76_39 {K : AC} {g : WG} (hg : p_al g = false)  (C : Cx K g cX11_quarrels 5 RX11 (some .int) "quarrels" 4 0 0) (o0 : Nat) (i1 : Int32) (i2 : Int32) (i3 : Int32) (i4 : Int32)    {rc : Int32 → Int32 → PH → Option (Int32 × PH)} {kx : Int32 → PH → Option (Int32 × PH)} (hr : ∀ (i2' : Int32) (i4' : Int32) (h : PH), VX K g 5 0 0 (a_fin K g 0 0 em_i) 39 [(0, p_rf g o0), (1, .int i1), (2, .int i2'), (3, .int i3), (4, .int i4')] [] h (rc i2' i4' h)) (hk : ∀ (i2' : Int32) (h : PH), VX K g 5 0 0 (a_fin K g 0 0 em_i) 82 [(0, p_rf g o0), (1, .int i1), (2, .int i2'), (3, .int i3)] [] h (kx i2' h)) (h : PH) : VX K g 5 0 0 (a_fin K g 0 0 em_i) 76 [(0, p_rf g o0), (1, .int i1), (2, .int i2), (3, .int i3), (4, .int i4)] [] h (fX11_quarrels_J76_39 rc kx o0 i1 i2 i3 i4 h) := by
  unfold fX11_quarrels_J76_39
  refine r_iinc (lv' := [(0, p_rf g o0), (1, .int i1), (2, .int i2), (3, .int i3)]) C dX11_quarrels_76 4 rfl k_i1 (by decide) (fun _ => rfl) (fun x1 => ?_)
  refine r_goto (tgt := 39) C dX11_quarrels_79 (by decide) ?_
  refine r_perm (lv' := [(0, p_rf g o0), (1, .int i1), (2, .int i2), (3, .int i3), (4, .int x1)]) [1, 2, 3, 4, 0] rfl ?_
  exact hr i2 x1 h
set_option maxRecDepth 100000 in
set_option maxHeartbeats 4000000 in
theorem tX11_quarrels_L39 {K : AC} {g : WG} (hg : p_al g = false)  (C : Cx K g cX11_quarrels 5 RX11 (some .int) "quarrels" 4 0 0) (o0 : Nat) (i1 : Int32) (i3 : Int32) {kx : Int32 → PH → Option (Int32 × PH)} (hk : ∀ (i2 : Int32) (h : PH), VX K g 5 0 0 (a_fin K g 0 0 em_i) 82 [(0, p_rf g o0), (1, .int i1), (2, .int i2), (3, .int i3)] [] h (kx i2 h)) : ∀ (n : Nat) (i2 : Int32) (i4 : Int32) (h : PH), VX K g 5 0 0 (a_fin K g 0 0 em_i) 39 [(0, p_rf g o0), (1, .int i1), (2, .int i2), (3, .int i3), (4, .int i4)] [] h (fX11_quarrels_L39 o0 i1 i3 kx n i2 i4 h) := by
  intro n
  induction n with
  | zero =>
    intros
    exact r_none
  | succ n ih =>
    intro i2 i4 h
    rw [fX11_quarrels_L39]
    refine r_iload C dX11_quarrels_39 4 rfl ?_
    refine r_aload_n C dX11_quarrels_41 0 rfl ?_
    refine r_gr C wf_X11_73_10 dX11_quarrels_42 (fun q1 => ?_)
    refine r_cvi (As := []) (st := [.int i4]) C wv_X11_98 (tcX0_groundSize K.2.1 g hg q1 h) (Nat.le_of_ble_eq_true rfl) rfl rfl (Nat.le_of_ble_eq_true rfl) dX11_quarrels_45 ⟨Nat.le_of_ble_eq_true rfl, Nat.le_of_ble_eq_true rfl⟩ (fun x2 h3 => ?_)
    refine r_icmp_ge (tgt := 82) C dX11_quarrels_48 (by decide) ?_ ?_
    · refine r_perm (lv' := [(0, p_rf g o0), (1, .int i1), (2, .int i2), (3, .int i3)]) [0, 1, 2, 3] rfl ?_
      exact hk i2 h3
    · refine r_aload_n C dX11_quarrels_51 0 rfl ?_
      refine r_gr C wf_X11_73_10 dX11_quarrels_52 (fun q4 => ?_)
      refine r_iload_n C dX11_quarrels_55 3 rfl ?_
      refine r_iload C dX11_quarrels_56 4 rfl ?_
      refine r_iload_n C dX11_quarrels_58 1 rfl ?_
      refine r_cvi (As := [.int i3, .int i4, .int i1]) (st := []) C wv_X11_320 (tcX0_areAtOdds K.2.1 g hg q4 i3 i4 i1 h3) (Nat.le_of_ble_eq_true rfl) rfl rfl (Nat.le_of_ble_eq_true rfl) dX11_quarrels_59 ⟨Nat.le_of_ble_eq_true rfl, Nat.le_of_ble_eq_true rfl⟩ (fun x5 h6 => ?_)
      refine r_if_eq (tgt := 76) C dX11_quarrels_62 (by decide) ?_ ?_
      · exact tX11_quarrels_J76_39 hg C o0 i1 i2 i3 i4 ih hk h6
      · refine r_aload_n C dX11_quarrels_65 0 rfl ?_
        refine r_iload_n C dX11_quarrels_66 2 rfl ?_
        refine r_iload_n C dX11_quarrels_67 3 rfl ?_
        refine r_iload C dX11_quarrels_68 4 rfl ?_
        refine r_cvv (As := [.int i2, .int i3, .int i4]) (st := []) C wv_X11_323 (tcX11_tellFirstPair K.2.1 g hg o0 i2 i3 i4 h6) (Nat.le_of_ble_eq_true rfl) rfl rfl (Nat.le_of_ble_eq_true rfl) dX11_quarrels_70 ⟨Nat.le_of_ble_eq_true rfl, Nat.le_of_ble_eq_true rfl⟩ (fun h7 => ?_)
        refine r_iinc (lv' := [(0, p_rf g o0), (1, .int i1), (3, .int i3), (4, .int i4)]) C dX11_quarrels_73 2 rfl k_i1 (by decide) (fun _ => rfl) (fun x8 => ?_)
        refine r_perm (lv' := [(0, p_rf g o0), (1, .int i1), (2, .int x8), (3, .int i3), (4, .int i4)]) [1, 2, 0, 3, 4] rfl ?_
        exact tX11_quarrels_J76_39 hg C o0 i1 x8 i3 i4 ih hk h7
set_option maxRecDepth 100000 in
set_option maxHeartbeats 4000000 in
theorem tX11_quarrels_L23 {K : AC} {g : WG} (hg : p_al g = false)  (C : Cx K g cX11_quarrels 5 RX11 (some .int) "quarrels" 4 0 0) (o0 : Nat) (i1 : Int32) {kx : Int32 → PH → Option (Int32 × PH)} (hk : ∀ (i2 : Int32) (h : PH), VX K g 5 0 0 (a_fin K g 0 0 em_i) 88 [(2, .int i2)] [] h (kx i2 h)) : ∀ (n : Nat) (i2 : Int32) (i3 : Int32) (h : PH), VX K g 5 0 0 (a_fin K g 0 0 em_i) 23 [(0, p_rf g o0), (1, .int i1), (2, .int i2), (3, .int i3)] [] h (fX11_quarrels_L23 o0 i1 kx n i2 i3 h) := by
  intro n
  induction n with
  | zero =>
    intros
    exact r_none
  | succ n ih =>
    intro i2 i3 h
    rw [fX11_quarrels_L23]
    refine r_iload_n C dX11_quarrels_23 3 rfl ?_
    refine r_aload_n C dX11_quarrels_24 0 rfl ?_
    refine r_gr C wf_X11_73_10 dX11_quarrels_25 (fun q1 => ?_)
    refine r_cvi (As := []) (st := [.int i3]) C wv_X11_98 (tcX0_groundSize K.2.1 g hg q1 h) (Nat.le_of_ble_eq_true rfl) rfl rfl (Nat.le_of_ble_eq_true rfl) dX11_quarrels_28 ⟨Nat.le_of_ble_eq_true rfl, Nat.le_of_ble_eq_true rfl⟩ (fun x2 h3 => ?_)
    refine r_icmp_ge (tgt := 88) C dX11_quarrels_31 (by decide) ?_ ?_
    · refine r_perm (lv' := [(2, .int i2)]) [2] rfl ?_
      exact hk i2 h3
    · refine r_iload_n C dX11_quarrels_34 3 rfl ?_
      refine r_iconst C dX11_quarrels_35 k_i1 ?_
      refine r_iadd C dX11_quarrels_36 ?_
      refine r_topi (fun x4 => ?_)
      refine r_istore (lv9 := [(4, .int x4), (0, p_rf g o0), (1, .int i1), (2, .int i2), (3, .int i3)]) C dX11_quarrels_37 (by decide) rfl ?_
      refine r_perm (lv' := [(0, p_rf g o0), (1, .int i1), (2, .int i2), (3, .int i3), (4, .int x4)]) [1, 2, 3, 4, 0] rfl ?_
      refine tX11_quarrels_L39 hg C o0 i1 i3 (fun x5 h6 => ?_) FU i2 x4 h3
      refine r_iinc (lv' := [(0, p_rf g o0), (1, .int i1), (2, .int x5)]) C dX11_quarrels_82 3 rfl k_i1 (by decide) (fun _ => rfl) (fun x7 => ?_)
      refine r_goto (tgt := 23) C dX11_quarrels_85 (by decide) ?_
      refine r_perm (lv' := [(0, p_rf g o0), (1, .int i1), (2, .int x5), (3, .int x7)]) [1, 2, 3, 0] rfl ?_
      exact ih x5 x7 h6
set_option maxRecDepth 100000 in
set_option maxHeartbeats 4000000 in
theorem tcX11_quarrels (l : Launch) (g : WG) (hg : p_al g = false) (o0 : Nat) (i1 : Int32) (h : PH) : CT l g 4 0 0 yX11_quarrels cX11_quarrels 5 (some .int) em_i [p_rf g o0, .int i1] h (fX11_quarrels o0 i1 h) := by
  refine CT_of (own := RX11) (nm := "quarrels") (by decide +kernel) (Nat.le_of_ble_eq_true rfl) rfl rfl rfl ⟨rfl, rfl⟩ (fun K hK C => ?_)
  subst hK
  unfold fX11_quarrels
  show VX K g _ _ _ _ _ [(0, p_rf g o0), (1, .int i1)] _ _ _
  refine r_iload_n C dX11_quarrels_0 1 rfl ?_
  refine r_iconst C dX11_quarrels_1 k_i0 ?_
  refine r_bipush C dX11_quarrels_2 k_b9 ?_
  refine r_csi (As := [.int i1, .int (0 : Int32), .int (9 : Int32)]) (st := []) C ws_X11_164 (tcX11_within K.2.1 g hg i1 (0 : Int32) (9 : Int32) h) (Nat.le_of_ble_eq_true rfl) rfl rfl (Nat.le_of_ble_eq_true rfl) dX11_quarrels_4 ⟨Nat.le_of_ble_eq_true rfl, Nat.le_of_ble_eq_true rfl⟩ (fun x1 h2 => ?_)
  refine r_if_ne (tgt := 12) C dX11_quarrels_7 (by decide) ?_ ?_
  · refine r_iconst C dX11_quarrels_12 k_i0 ?_
    refine r_istore_n (lv9 := [(2, .int (0 : Int32)), (0, p_rf g o0), (1, .int i1)]) C dX11_quarrels_13 (by decide) rfl ?_
    refine r_aload_n C dX11_quarrels_14 1 rfl ?_
    refine r_gr C wf_X11_69_10 dX11_quarrels_15 (fun q3 => ?_)
    refine r_cvv (As := []) (st := []) C wv_X11_242 (tcX3_start K.2.1 g hg q3 h2) (Nat.le_of_ble_eq_true rfl) rfl rfl (Nat.le_of_ble_eq_true rfl) dX11_quarrels_18 ⟨Nat.le_of_ble_eq_true rfl, Nat.le_of_ble_eq_true rfl⟩ (fun h4 => ?_)
    refine r_iconst C dX11_quarrels_21 k_i0 ?_
    refine r_istore_n (lv9 := [(3, .int (0 : Int32)), (2, .int (0 : Int32)), (0, p_rf g o0), (1, .int i1)]) C dX11_quarrels_22 (by decide) rfl ?_
    refine r_perm (lv' := [(0, p_rf g o0), (1, .int i1), (2, .int (0 : Int32)), (3, .int (0 : Int32))]) [2, 3, 1, 0] rfl ?_
    refine tX11_quarrels_L23 hg C o0 i1 (fun x5 h6 => ?_) FU (0 : Int32) (0 : Int32) h4
    refine r_iload_n C dX11_quarrels_88 0 rfl ?_
    exact r_iret C dX11_quarrels_89
  · refine r_iconst C dX11_quarrels_10 k_im1 ?_
    exact r_iret C dX11_quarrels_11
set_option maxRecDepth 100000 in
set_option maxHeartbeats 4000000 in
theorem tX11_peace_J54_16 {K : AC} {g : WG} (hg : p_al g = false)  (C : Cx K g cX11_peace 4 RX11 (some .int) "peace" 5 0 0) (o0 : Nat) (i1 : Int32) (i2 : Int32) (i3 : Int32)    {rc : Int32 → Int32 → PH → Option (Int32 × PH)} {kx : Int32 → PH → Option (Int32 × PH)} (hr : ∀ (i2' : Int32) (i3' : Int32) (h : PH), VX K g 4 0 0 (a_fin K g 0 0 em_i) 16 [(0, p_rf g o0), (1, .int i1), (2, .int i2'), (3, .int i3')] [] h (rc i2' i3' h)) (hk : ∀ (i2' : Int32) (h : PH), VX K g 4 0 0 (a_fin K g 0 0 em_i) 60 [(0, p_rf g o0), (2, .int i2')] [] h (kx i2' h)) (h : PH) : VX K g 4 0 0 (a_fin K g 0 0 em_i) 54 [(0, p_rf g o0), (1, .int i1), (2, .int i2), (3, .int i3)] [] h (fX11_peace_J54_16 rc kx o0 i1 i2 i3 h) := by
  unfold fX11_peace_J54_16
  refine r_iinc (lv' := [(0, p_rf g o0), (1, .int i1), (2, .int i2)]) C dX11_peace_54 3 rfl k_i1 (by decide) (fun _ => rfl) (fun x1 => ?_)
  refine r_goto (tgt := 16) C dX11_peace_57 (by decide) ?_
  refine r_perm (lv' := [(0, p_rf g o0), (1, .int i1), (2, .int i2), (3, .int x1)]) [1, 2, 3, 0] rfl ?_
  exact hr i2 x1 h
set_option maxRecDepth 100000 in
set_option maxHeartbeats 4000000 in
theorem tX11_peace_L16 {K : AC} {g : WG} (hg : p_al g = false)  (C : Cx K g cX11_peace 4 RX11 (some .int) "peace" 5 0 0) (o0 : Nat) (i1 : Int32) {kx : Int32 → PH → Option (Int32 × PH)} (hk : ∀ (i2 : Int32) (h : PH), VX K g 4 0 0 (a_fin K g 0 0 em_i) 60 [(0, p_rf g o0), (2, .int i2)] [] h (kx i2 h)) : ∀ (n : Nat) (i2 : Int32) (i3 : Int32) (h : PH), VX K g 4 0 0 (a_fin K g 0 0 em_i) 16 [(0, p_rf g o0), (1, .int i1), (2, .int i2), (3, .int i3)] [] h (fX11_peace_L16 o0 i1 kx n i2 i3 h) := by
  intro n
  induction n with
  | zero =>
    intros
    exact r_none
  | succ n ih =>
    intro i2 i3 h
    rw [fX11_peace_L16]
    refine r_iload_n C dX11_peace_16 3 rfl ?_
    refine r_iconst C dX11_peace_17 k_i1 ?_
    refine r_aload_n C dX11_peace_18 0 rfl ?_
    refine r_gr C wf_X11_73_10 dX11_peace_19 (fun q1 => ?_)
    refine r_cvi (As := []) (st := [.int (1 : Int32), .int i3]) C wv_X11_98 (tcX0_groundSize K.2.1 g hg q1 h) (Nat.le_of_ble_eq_true rfl) rfl rfl (Nat.le_of_ble_eq_true rfl) dX11_peace_22 ⟨Nat.le_of_ble_eq_true rfl, Nat.le_of_ble_eq_true rfl⟩ (fun x2 h3 => ?_)
    refine r_ishl C dX11_peace_25 ?_
    refine r_icmp_ge (tgt := 60) C dX11_peace_26 (by decide) ?_ ?_
    · refine r_perm (lv' := [(0, p_rf g o0), (2, .int i2)]) [0, 2] rfl ?_
      exact hk i2 h3
    · refine r_iload_n C dX11_peace_29 3 rfl ?_
      refine r_csi (As := [.int i3]) (st := []) C ws_X11_285 (tcJ6_bitCount_0f7a4 K.2.1 g hg i3 h3) (Nat.le_of_ble_eq_true rfl) rfl rfl (Nat.le_of_ble_eq_true rfl) dX11_peace_30 ⟨Nat.le_of_ble_eq_true rfl, Nat.le_of_ble_eq_true rfl⟩ (fun x4 h5 => ?_)
      refine r_iload_n C dX11_peace_33 2 rfl ?_
      refine r_csi (As := [.int i2]) (st := [.int x4]) C ws_X11_285 (tcJ6_bitCount_0f7a4 K.2.1 g hg i2 h5) (Nat.le_of_ble_eq_true rfl) rfl rfl (Nat.le_of_ble_eq_true rfl) dX11_peace_34 ⟨Nat.le_of_ble_eq_true rfl, Nat.le_of_ble_eq_true rfl⟩ (fun x6 h7 => ?_)
      refine r_icmp_le (tgt := 54) C dX11_peace_37 (by decide) ?_ ?_
      · exact tX11_peace_J54_16 hg C o0 i1 i2 i3 ih hk h7
      · refine r_aload_n C dX11_peace_40 0 rfl ?_
        refine r_gr C wf_X11_73_10 dX11_peace_41 (fun q8 => ?_)
        refine r_iload_n C dX11_peace_44 3 rfl ?_
        refine r_iload_n C dX11_peace_45 1 rfl ?_
        refine r_cvi (As := [.int i3, .int i1]) (st := []) C wv_X11_326 (tcX0_areAtPeace K.2.1 g hg q8 i3 i1 h7) (Nat.le_of_ble_eq_true rfl) rfl rfl (Nat.le_of_ble_eq_true rfl) dX11_peace_46 ⟨Nat.le_of_ble_eq_true rfl, Nat.le_of_ble_eq_true rfl⟩ (fun x9 h10 => ?_)
        refine r_if_eq (tgt := 54) C dX11_peace_49 (by decide) ?_ ?_
        · exact tX11_peace_J54_16 hg C o0 i1 i2 i3 ih hk h10
        · refine r_iload_n C dX11_peace_52 3 rfl ?_
          refine r_istore_n (lv9 := [(2, .int i3), (0, p_rf g o0), (1, .int i1), (3, .int i3)]) C dX11_peace_53 (by decide) rfl ?_
          refine r_perm (lv' := [(0, p_rf g o0), (1, .int i1), (2, .int i3), (3, .int i3)]) [1, 2, 0, 3] rfl ?_
          exact tX11_peace_J54_16 hg C o0 i1 i3 i3 ih hk h10
set_option maxRecDepth 100000 in
set_option maxHeartbeats 4000000 in
theorem tcX11_peace (l : Launch) (g : WG) (hg : p_al g = false) (o0 : Nat) (i1 : Int32) (h : PH) : CT l g 5 0 0 yX11_peace cX11_peace 4 (some .int) em_i [p_rf g o0, .int i1] h (fX11_peace o0 i1 h) := by
  refine CT_of (own := RX11) (nm := "peace") (by decide +kernel) (Nat.le_of_ble_eq_true rfl) rfl rfl rfl ⟨rfl, rfl⟩ (fun K hK C => ?_)
  subst hK
  unfold fX11_peace
  show VX K g _ _ _ _ _ [(0, p_rf g o0), (1, .int i1)] _ _ _
  refine r_iload_n C dX11_peace_0 1 rfl ?_
  refine r_iconst C dX11_peace_1 k_i0 ?_
  refine r_bipush C dX11_peace_2 k_b9 ?_
  refine r_csi (As := [.int i1, .int (0 : Int32), .int (9 : Int32)]) (st := []) C ws_X11_164 (tcX11_within K.2.1 g hg i1 (0 : Int32) (9 : Int32) h) (Nat.le_of_ble_eq_true rfl) rfl rfl (Nat.le_of_ble_eq_true rfl) dX11_peace_4 ⟨Nat.le_of_ble_eq_true rfl, Nat.le_of_ble_eq_true rfl⟩ (fun x1 h2 => ?_)
  refine r_if_ne (tgt := 12) C dX11_peace_7 (by decide) ?_ ?_
  · refine r_iconst C dX11_peace_12 k_i0 ?_
    refine r_istore_n (lv9 := [(2, .int (0 : Int32)), (0, p_rf g o0), (1, .int i1)]) C dX11_peace_13 (by decide) rfl ?_
    refine r_iconst C dX11_peace_14 k_i1 ?_
    refine r_istore_n (lv9 := [(3, .int (1 : Int32)), (2, .int (0 : Int32)), (0, p_rf g o0), (1, .int i1)]) C dX11_peace_15 (by decide) rfl ?_
    refine r_perm (lv' := [(0, p_rf g o0), (1, .int i1), (2, .int (0 : Int32)), (3, .int (1 : Int32))]) [2, 3, 1, 0] rfl ?_
    refine tX11_peace_L16 hg C o0 i1 (fun x3 h4 => ?_) FU (0 : Int32) (1 : Int32) h2
    refine r_aload_n C dX11_peace_60 0 rfl ?_
    refine r_gr C wf_X11_69_10 dX11_peace_61 (fun q5 => ?_)
    refine r_cvv (As := []) (st := []) C wv_X11_242 (tcX3_start K.2.1 g hg q5 h4) (Nat.le_of_ble_eq_true rfl) rfl rfl (Nat.le_of_ble_eq_true rfl) dX11_peace_64 ⟨Nat.le_of_ble_eq_true rfl, Nat.le_of_ble_eq_true rfl⟩ (fun h6 => ?_)
    refine r_aload_n C dX11_peace_67 0 rfl ?_
    refine r_gr C wf_X11_69_10 dX11_peace_68 (fun q7 => ?_)
    refine r_iload_n C dX11_peace_71 1 rfl ?_
    refine r_i2l C dX11_peace_72 ?_
    refine r_cvv (As := [.long (x3.toInt64)]) (st := []) C wv_X11_248 (tcX3_add K.2.1 g hg q7 (x3.toInt64) h6) (Nat.le_of_ble_eq_true rfl) rfl rfl (Nat.le_of_ble_eq_true rfl) dX11_peace_73 ⟨Nat.le_of_ble_eq_true rfl, Nat.le_of_ble_eq_true rfl⟩ (fun h8 => ?_)
    refine r_iload_n C dX11_peace_76 1 rfl ?_
    refine r_csi (As := [.int x3]) (st := []) C ws_X11_285 (tcJ6_bitCount_0f7a4 K.2.1 g hg x3 h8) (Nat.le_of_ble_eq_true rfl) rfl rfl (Nat.le_of_ble_eq_true rfl) dX11_peace_77 ⟨Nat.le_of_ble_eq_true rfl, Nat.le_of_ble_eq_true rfl⟩ (fun x9 h10 => ?_)
    exact r_iret C dX11_peace_80
  · refine r_iconst C dX11_peace_10 k_im1 ?_
    exact r_iret C dX11_peace_11
set_option maxRecDepth 100000 in
set_option maxHeartbeats 4000000 in
theorem tX11_pulls_J69_30 {K : AC} {g : WG} (hg : p_al g = false)  (C : Cx K g cX11_pulls 5 RX11 (some .int) "pulls" 4 0 0) (o0 : Nat) (i1 : Int32) (i3 : Int32) (s0 : Int32) (s1 : Int32)    {rc : Int32 → Int32 → PH → Option (Int32 × PH)} {kx : Int32 → PH → Option (Int32 × PH)} (hr : ∀ (i2' : Int32) (i3' : Int32) (h : PH), VX K g 5 0 0 (a_fin K g 0 0 em_i) 30 [(0, p_rf g o0), (1, .int i1), (2, .int i2'), (3, .int i3')] [] h (rc i2' i3' h)) (hk : ∀ (i2' : Int32) (h : PH), VX K g 5 0 0 (a_fin K g 0 0 em_i) 77 [(2, .int i2')] [] h (kx i2' h)) (h : PH) : VX K g 5 0 0 (a_fin K g 0 0 em_i) 69 [(0, p_rf g o0), (1, .int i1), (3, .int i3)] [.int s0, .int s1] h (fX11_pulls_J69_30 rc kx o0 i1 i3 s0 s1 h) := by
  unfold fX11_pulls_J69_30
  refine r_ior C dX11_pulls_69 ?_
  refine r_topi (fun x1 => ?_)
  refine r_istore_n (lv9 := [(2, .int x1), (0, p_rf g o0), (1, .int i1), (3, .int i3)]) C dX11_pulls_70 (by decide) rfl ?_
  refine r_iinc (lv' := [(2, .int x1), (0, p_rf g o0), (1, .int i1)]) C dX11_pulls_71 3 rfl k_i1 (by decide) (fun _ => rfl) (fun x2 => ?_)
  refine r_goto (tgt := 30) C dX11_pulls_74 (by decide) ?_
  refine r_perm (lv' := [(0, p_rf g o0), (1, .int i1), (2, .int x1), (3, .int x2)]) [2, 3, 1, 0] rfl ?_
  exact hr x1 x2 h
set_option maxRecDepth 100000 in
set_option maxHeartbeats 4000000 in
theorem tX11_pulls_L30 {K : AC} {g : WG} (hg : p_al g = false)  (C : Cx K g cX11_pulls 5 RX11 (some .int) "pulls" 4 0 0) (o0 : Nat) (i1 : Int32) {kx : Int32 → PH → Option (Int32 × PH)} (hk : ∀ (i2 : Int32) (h : PH), VX K g 5 0 0 (a_fin K g 0 0 em_i) 77 [(2, .int i2)] [] h (kx i2 h)) : ∀ (n : Nat) (i2 : Int32) (i3 : Int32) (h : PH), VX K g 5 0 0 (a_fin K g 0 0 em_i) 30 [(0, p_rf g o0), (1, .int i1), (2, .int i2), (3, .int i3)] [] h (fX11_pulls_L30 o0 i1 kx n i2 i3 h) := by
  intro n
  induction n with
  | zero =>
    intros
    exact r_none
  | succ n ih =>
    intro i2 i3 h
    rw [fX11_pulls_L30]
    refine r_iload_n C dX11_pulls_30 3 rfl ?_
    refine r_iconst C dX11_pulls_31 k_i4 ?_
    refine r_icmp_ge (tgt := 77) C dX11_pulls_32 (by decide) ?_ ?_
    · refine r_perm (lv' := [(2, .int i2)]) [2] rfl ?_
      exact hk i2 h
    · refine r_aload_n C dX11_pulls_35 0 rfl ?_
      refine r_gr C wf_X11_73_10 dX11_pulls_36 (fun q1 => ?_)
      refine r_iload_n C dX11_pulls_39 1 rfl ?_
      refine r_iload_n C dX11_pulls_40 3 rfl ?_
      refine r_cvi (As := [.int i1, .int i3]) (st := []) C wv_X11_329 (tcX0_meanPull K.2.1 g hg q1 i1 i3 h) (Nat.le_of_ble_eq_true rfl) rfl rfl (Nat.le_of_ble_eq_true rfl) dX11_pulls_41 ⟨Nat.le_of_ble_eq_true rfl, Nat.le_of_ble_eq_true rfl⟩ (fun x2 h3 => ?_)
      refine r_istore (lv9 := [(4, .int x2), (0, p_rf g o0), (1, .int i1), (2, .int i2), (3, .int i3)]) C dX11_pulls_44 (by decide) rfl ?_
      refine r_aload_n C dX11_pulls_46 1 rfl ?_
      refine r_gr C wf_X11_69_10 dX11_pulls_47 (fun q4 => ?_)
      refine r_iload C dX11_pulls_50 0 rfl ?_
      refine r_i2l C dX11_pulls_52 ?_
      refine r_cvv (As := [.long (x2.toInt64)]) (st := []) C wv_X11_248 (tcX3_add K.2.1 g hg q4 (x2.toInt64) h3) (Nat.le_of_ble_eq_true rfl) rfl rfl (Nat.le_of_ble_eq_true rfl) dX11_pulls_53 ⟨Nat.le_of_ble_eq_true rfl, Nat.le_of_ble_eq_true rfl⟩ (fun h5 => ?_)
      refine r_iload_n C dX11_pulls_56 3 rfl ?_
      refine r_iload C dX11_pulls_57 0 rfl ?_
      refine r_if_lt (tgt := 68) C dX11_pulls_59 (by decide) ?_ ?_
      · refine r_iconst C dX11_pulls_68 k_i0 ?_
        refine r_perm (lv' := [(0, p_rf g o0), (1, .int i1), (3, .int i3)]) [1, 2, 4] rfl ?_
        exact tX11_pulls_J69_30 hg C o0 i1 i3 (0 : Int32) i2 ih hk h5
      · refine r_iconst C dX11_pulls_62 k_i1 ?_
        refine r_iload_n C dX11_pulls_63 4 rfl ?_
        refine r_ishl C dX11_pulls_64 ?_
        refine r_goto (tgt := 69) C dX11_pulls_65 (by decide) ?_
        refine r_perm (lv' := [(0, p_rf g o0), (1, .int i1), (3, .int i3)]) [1, 2, 4] rfl ?_
        exact tX11_pulls_J69_30 hg C o0 i1 i3 ((1 : Int32) <<< (i3 &&& 31)) i2 ih hk h5
set_option maxRecDepth 100000 in
set_option maxHeartbeats 4000000 in
theorem tcX11_pulls (l : Launch) (g : WG) (hg : p_al g = false) (o0 : Nat) (i1 : Int32) (h : PH) : CT l g 4 0 0 yX11_pulls cX11_pulls 5 (some .int) em_i [p_rf g o0, .int i1] h (fX11_pulls o0 i1 h) := by
  refine CT_of (own := RX11) (nm := "pulls") (by decide +kernel) (Nat.le_of_ble_eq_true rfl) rfl rfl rfl ⟨rfl, rfl⟩ (fun K hK C => ?_)
  subst hK
  unfold fX11_pulls
  show VX K g _ _ _ _ _ [(0, p_rf g o0), (1, .int i1)] _ _ _
  refine r_iload_n C dX11_pulls_0 1 rfl ?_
  refine r_if_lt (tgt := 17) C dX11_pulls_1 (by decide) ?_ ?_
  · refine r_iconst C dX11_pulls_17 k_im1 ?_
    exact r_iret C dX11_pulls_18
  · refine r_iload_n C dX11_pulls_4 1 rfl ?_
    refine r_iconst C dX11_pulls_5 k_i1 ?_
    refine r_aload_n C dX11_pulls_6 0 rfl ?_
    refine r_gr C wf_X11_73_10 dX11_pulls_7 (fun q1 => ?_)
    refine r_cvi (As := []) (st := [.int (1 : Int32), .int i1]) C wv_X11_98 (tcX0_groundSize K.2.1 g hg q1 h) (Nat.le_of_ble_eq_true rfl) rfl rfl (Nat.le_of_ble_eq_true rfl) dX11_pulls_10 ⟨Nat.le_of_ble_eq_true rfl, Nat.le_of_ble_eq_true rfl⟩ (fun x2 h3 => ?_)
    refine r_ishl C dX11_pulls_13 ?_
    refine r_icmp_lt (tgt := 19) C dX11_pulls_14 (by decide) ?_ ?_
    · refine r_iconst C dX11_pulls_19 k_i0 ?_
      refine r_istore_n (lv9 := [(2, .int (0 : Int32)), (0, p_rf g o0), (1, .int i1)]) C dX11_pulls_20 (by decide) rfl ?_
      refine r_aload_n C dX11_pulls_21 1 rfl ?_
      refine r_gr C wf_X11_69_10 dX11_pulls_22 (fun q4 => ?_)
      refine r_cvv (As := []) (st := []) C wv_X11_242 (tcX3_start K.2.1 g hg q4 h3) (Nat.le_of_ble_eq_true rfl) rfl rfl (Nat.le_of_ble_eq_true rfl) dX11_pulls_25 ⟨Nat.le_of_ble_eq_true rfl, Nat.le_of_ble_eq_true rfl⟩ (fun h5 => ?_)
      refine r_iconst C dX11_pulls_28 k_i0 ?_
      refine r_istore_n (lv9 := [(3, .int (0 : Int32)), (2, .int (0 : Int32)), (0, p_rf g o0), (1, .int i1)]) C dX11_pulls_29 (by decide) rfl ?_
      refine r_perm (lv' := [(0, p_rf g o0), (1, .int i1), (2, .int (0 : Int32)), (3, .int (0 : Int32))]) [2, 3, 1, 0] rfl ?_
      refine tX11_pulls_L30 hg C o0 i1 (fun x6 h7 => ?_) FU (0 : Int32) (0 : Int32) h5
      refine r_iload_n C dX11_pulls_77 0 rfl ?_
      exact r_iret C dX11_pulls_78
    · refine r_iconst C dX11_pulls_17 k_im1 ?_
      exact r_iret C dX11_pulls_18
set_option maxRecDepth 100000 in
set_option maxHeartbeats 4000000 in
theorem tcX11_seen (l : Launch) (g : WG) (hg : p_al g = false) (o0 : Nat) (i1 : Int32) (i2 : Int32) (i3 : Int32) (h : PH) : CT l g 2 0 0 yX11_seen cX11_seen 4 (some .int) em_i [p_rf g o0, .int i1, .int i2, .int i3] h (fX11_seen o0 i1 i2 i3 h) := by
  refine CT_of (own := RX11) (nm := "seen") (by decide +kernel) (Nat.le_of_ble_eq_true rfl) rfl rfl rfl ⟨rfl, rfl⟩ (fun K hK C => ?_)
  subst hK
  unfold fX11_seen
  show VX K g _ _ _ _ _ [(0, p_rf g o0), (1, .int i1), (2, .int i2), (3, .int i3)] _ _ _
  refine r_iload_n C dX11_seen_0 1 rfl ?_
  refine r_iconst C dX11_seen_1 k_i0 ?_
  refine r_bipush C dX11_seen_2 k_b30 ?_
  refine r_csi (As := [.int i1, .int (0 : Int32), .int (30 : Int32)]) (st := []) C ws_X11_164 (tcX11_within K.2.1 g hg i1 (0 : Int32) (30 : Int32) h) (Nat.le_of_ble_eq_true rfl) rfl rfl (Nat.le_of_ble_eq_true rfl) dX11_seen_4 ⟨Nat.le_of_ble_eq_true rfl, Nat.le_of_ble_eq_true rfl⟩ (fun x1 h2 => ?_)
  refine r_if_eq (tgt := 29) C dX11_seen_7 (by decide) ?_ ?_
  · refine r_iconst C dX11_seen_29 k_im1 ?_
    exact r_iret C dX11_seen_30
  · refine r_iload_n C dX11_seen_10 2 rfl ?_
    refine r_iconst C dX11_seen_11 k_i0 ?_
    refine r_iconst C dX11_seen_12 k_i3 ?_
    refine r_csi (As := [.int i2, .int (0 : Int32), .int (3 : Int32)]) (st := []) C ws_X11_164 (tcX11_within K.2.1 g hg i2 (0 : Int32) (3 : Int32) h2) (Nat.le_of_ble_eq_true rfl) rfl rfl (Nat.le_of_ble_eq_true rfl) dX11_seen_13 ⟨Nat.le_of_ble_eq_true rfl, Nat.le_of_ble_eq_true rfl⟩ (fun x3 h4 => ?_)
    refine r_if_eq (tgt := 29) C dX11_seen_16 (by decide) ?_ ?_
    · refine r_iconst C dX11_seen_29 k_im1 ?_
      exact r_iret C dX11_seen_30
    · refine r_iload_n C dX11_seen_19 3 rfl ?_
      refine r_iconst C dX11_seen_20 k_i0 ?_
      refine r_bipush C dX11_seen_21 k_b9 ?_
      refine r_csi (As := [.int i3, .int (0 : Int32), .int (9 : Int32)]) (st := []) C ws_X11_164 (tcX11_within K.2.1 g hg i3 (0 : Int32) (9 : Int32) h4) (Nat.le_of_ble_eq_true rfl) rfl rfl (Nat.le_of_ble_eq_true rfl) dX11_seen_23 ⟨Nat.le_of_ble_eq_true rfl, Nat.le_of_ble_eq_true rfl⟩ (fun x5 h6 => ?_)
      refine r_if_ne (tgt := 31) C dX11_seen_26 (by decide) ?_ ?_
      · refine r_aload_n C dX11_seen_31 0 rfl ?_
        refine r_gr C wf_X11_65_10 dX11_seen_32 (fun q7 => ?_)
        refine r_iload_n C dX11_seen_35 1 rfl ?_
        refine r_iload_n C dX11_seen_36 2 rfl ?_
        refine r_iload_n C dX11_seen_37 3 rfl ?_
        refine r_cvi (As := [.int i1, .int i2, .int i3]) (st := []) C wv_X11_332 (tcX4_note K.2.1 g hg q7 i1 i2 i3 h6) (Nat.le_of_ble_eq_true rfl) rfl rfl (Nat.le_of_ble_eq_true rfl) dX11_seen_38 ⟨Nat.le_of_ble_eq_true rfl, Nat.le_of_ble_eq_true rfl⟩ (fun x8 h9 => ?_)
        refine r_if_eq (tgt := 54) C dX11_seen_41 (by decide) ?_ ?_
        · refine r_iconst C dX11_seen_54 k_im1 ?_
          exact r_iret C dX11_seen_55
        · refine r_aload_n C dX11_seen_44 0 rfl ?_
          refine r_gr C wf_X11_65_10 dX11_seen_45 (fun q10 => ?_)
          refine r_cvi (As := []) (st := []) C wv_X11_335 (tcX4_notes K.2.1 g hg q10 h9) (Nat.le_of_ble_eq_true rfl) rfl rfl (Nat.le_of_ble_eq_true rfl) dX11_seen_48 ⟨Nat.le_of_ble_eq_true rfl, Nat.le_of_ble_eq_true rfl⟩ (fun x11 h12 => ?_)
          refine r_goto (tgt := 55) C dX11_seen_51 (by decide) ?_
          exact r_iret C dX11_seen_55
      · refine r_iconst C dX11_seen_29 k_im1 ?_
        exact r_iret C dX11_seen_30
set_option maxRecDepth 100000 in
set_option maxHeartbeats 4000000 in
theorem tcX11_forget (l : Launch) (g : WG) (hg : p_al g = false) (o0 : Nat) (h : PH) : CT l g 2 0 0 yX11_forget cX11_forget 1 (some .int) em_i [p_rf g o0] h (fX11_forget o0 h) := by
  refine CT_of (own := RX11) (nm := "forget") (by decide +kernel) (Nat.le_of_ble_eq_true rfl) rfl rfl rfl ⟨rfl, rfl⟩ (fun K hK C => ?_)
  subst hK
  unfold fX11_forget
  show VX K g _ _ _ _ _ [(0, p_rf g o0)] _ _ _
  refine r_aload_n C dX11_forget_0 0 rfl ?_
  refine r_gr C wf_X11_65_10 dX11_forget_1 (fun q1 => ?_)
  refine r_cvi (As := []) (st := []) C wv_X11_338 (tcX4_dropNotes K.2.1 g hg q1 h) (Nat.le_of_ble_eq_true rfl) rfl rfl (Nat.le_of_ble_eq_true rfl) dX11_forget_4 ⟨Nat.le_of_ble_eq_true rfl, Nat.le_of_ble_eq_true rfl⟩ (fun x2 h3 => ?_)
  exact r_iret C dX11_forget_7
set_option maxRecDepth 100000 in
set_option maxHeartbeats 4000000 in
theorem tX11_fits_J61 {K : AC} {g : WG} (hg : p_al g = false)  (C : Cx K g cX11_fits 3 RX11 (some .int) "fits" 8 0 0) (i2 : Int32) (s0 : Int64) (s1 : Nat)  (h : PH) : VX K g 3 0 0 (a_fin K g 0 0 em_i) 61 [(2, .int i2)] [.long s0, p_rf g s1] h (fX11_fits_J61 i2 s0 s1 h) := by
  unfold fX11_fits_J61
  refine r_cvv (As := [.long s0]) (st := []) C wv_X11_248 (tcX3_add K.2.1 g hg s1 s0 h) (Nat.le_of_ble_eq_true rfl) rfl rfl (Nat.le_of_ble_eq_true rfl) dX11_fits_61 ⟨Nat.le_of_ble_eq_true rfl, Nat.le_of_ble_eq_true rfl⟩ (fun h1 => ?_)
  refine r_iload_n C dX11_fits_64 0 rfl ?_
  exact r_iret C dX11_fits_65
set_option maxRecDepth 100000 in
set_option maxHeartbeats 4000000 in
theorem tcX11_fits (l : Launch) (g : WG) (hg : p_al g = false) (o0 : Nat) (i1 : Int32) (h : PH) : CT l g 8 0 0 yX11_fits cX11_fits 3 (some .int) em_i [p_rf g o0, .int i1] h (fX11_fits o0 i1 h) := by
  refine CT_of (own := RX11) (nm := "fits") (by decide +kernel) (Nat.le_of_ble_eq_true rfl) rfl rfl rfl ⟨rfl, rfl⟩ (fun K hK C => ?_)
  subst hK
  unfold fX11_fits
  show VX K g _ _ _ _ _ [(0, p_rf g o0), (1, .int i1)] _ _ _
  refine r_aload_n C dX11_fits_0 0 rfl ?_
  refine r_gr C wf_X11_73_10 dX11_fits_1 (fun q1 => ?_)
  refine r_iload_n C dX11_fits_4 1 rfl ?_
  refine r_cvi (As := [.int i1]) (st := []) C wv_X11_184 (tcX0_hasPerson K.2.1 g hg q1 i1 h) (Nat.le_of_ble_eq_true rfl) rfl rfl (Nat.le_of_ble_eq_true rfl) dX11_fits_5 ⟨Nat.le_of_ble_eq_true rfl, Nat.le_of_ble_eq_true rfl⟩ (fun x2 h3 => ?_)
  refine r_if_ne (tgt := 13) C dX11_fits_8 (by decide) ?_ ?_
  · refine r_aload_n C dX11_fits_13 0 rfl ?_
    refine r_gr C wf_X11_65_10 dX11_fits_14 (fun q4 => ?_)
    refine r_iload_n C dX11_fits_17 1 rfl ?_
    refine r_cvi (As := [.int i1]) (st := []) C wv_X11_341 (tcX4_fitting K.2.1 g hg q4 i1 h3) (Nat.le_of_ble_eq_true rfl) rfl rfl (Nat.le_of_ble_eq_true rfl) dX11_fits_18 ⟨Nat.le_of_ble_eq_true rfl, Nat.le_of_ble_eq_true rfl⟩ (fun x5 h6 => ?_)
    refine r_istore_n (lv9 := [(2, .int x5), (0, p_rf g o0), (1, .int i1)]) C dX11_fits_21 (by decide) rfl ?_
    refine r_aload_n C dX11_fits_22 1 rfl ?_
    refine r_gr C wf_X11_69_10 dX11_fits_23 (fun q7 => ?_)
    refine r_cvv (As := []) (st := []) C wv_X11_242 (tcX3_start K.2.1 g hg q7 h6) (Nat.le_of_ble_eq_true rfl) rfl rfl (Nat.le_of_ble_eq_true rfl) dX11_fits_26 ⟨Nat.le_of_ble_eq_true rfl, Nat.le_of_ble_eq_true rfl⟩ (fun h8 => ?_)
    refine r_aload_n C dX11_fits_29 1 rfl ?_
    refine r_gr C wf_X11_69_10 dX11_fits_30 (fun q9 => ?_)
    refine r_iload_n C dX11_fits_33 0 rfl ?_
    refine r_csi (As := [.int x5]) (st := [p_rf g q9]) C ws_X11_285 (tcJ6_bitCount_0f7a4 K.2.1 g hg x5 h8) (Nat.le_of_ble_eq_true rfl) rfl rfl (Nat.le_of_ble_eq_true rfl) dX11_fits_34 ⟨Nat.le_of_ble_eq_true rfl, Nat.le_of_ble_eq_true rfl⟩ (fun x10 h11 => ?_)
    refine r_i2l C dX11_fits_37 ?_
    refine r_cvv (As := [.long (x10.toInt64)]) (st := []) C wv_X11_248 (tcX3_add K.2.1 g hg q9 (x10.toInt64) h11) (Nat.le_of_ble_eq_true rfl) rfl rfl (Nat.le_of_ble_eq_true rfl) dX11_fits_38 ⟨Nat.le_of_ble_eq_true rfl, Nat.le_of_ble_eq_true rfl⟩ (fun h12 => ?_)
    refine r_aload_n C dX11_fits_41 1 rfl ?_
    refine r_gr C wf_X11_69_10 dX11_fits_42 (fun q13 => ?_)
    refine r_aload_n C dX11_fits_45 1 rfl ?_
    refine r_gr C wf_X11_65_10 dX11_fits_46 (fun q14 => ?_)
    refine r_iload_n C dX11_fits_49 2 rfl ?_
    refine r_cvi (As := [.int i1]) (st := [p_rf g q13]) C wv_X11_344 (tcX4_fitsBare K.2.1 g hg q14 i1 h12) (Nat.le_of_ble_eq_true rfl) rfl rfl (Nat.le_of_ble_eq_true rfl) dX11_fits_50 ⟨Nat.le_of_ble_eq_true rfl, Nat.le_of_ble_eq_true rfl⟩ (fun x15 h16 => ?_)
    refine r_if_eq (tgt := 60) C dX11_fits_53 (by decide) ?_ ?_
    · refine r_lconst (v := (0 : Int64)) C dX11_fits_60 (by decide) ?_
      refine r_perm (lv' := [(2, .int x5)]) [0] rfl ?_
      exact tX11_fits_J61 hg C x5 (0 : Int64) q13 h16
    · refine r_lconst (v := (1 : Int64)) C dX11_fits_56 (by decide) ?_
      refine r_goto (tgt := 61) C dX11_fits_57 (by decide) ?_
      refine r_perm (lv' := [(2, .int x5)]) [0] rfl ?_
      exact tX11_fits_J61 hg C x5 (1 : Int64) q13 h16
  · refine r_iconst C dX11_fits_11 k_im1 ?_
    exact r_iret C dX11_fits_12
set_option maxRecDepth 100000 in
set_option maxHeartbeats 4000000 in
theorem tcX11_looks (l : Launch) (g : WG) (hg : p_al g = false) (o0 : Nat) (i1 : Int32) (i2 : Int32) (h : PH) : CT l g 8 0 0 yX11_looks cX11_looks 4 (some .int) em_i [p_rf g o0, .int i1, .int i2] h (fX11_looks o0 i1 i2 h) := by
  refine CT_of (own := RX11) (nm := "looks") (by decide +kernel) (Nat.le_of_ble_eq_true rfl) rfl rfl rfl ⟨rfl, rfl⟩ (fun K hK C => ?_)
  subst hK
  unfold fX11_looks
  show VX K g _ _ _ _ _ [(0, p_rf g o0), (1, .int i1), (2, .int i2)] _ _ _
  refine r_aload_n C dX11_looks_0 0 rfl ?_
  refine r_gr C wf_X11_73_10 dX11_looks_1 (fun q1 => ?_)
  refine r_iload_n C dX11_looks_4 1 rfl ?_
  refine r_cvi (As := [.int i1]) (st := []) C wv_X11_184 (tcX0_hasPerson K.2.1 g hg q1 i1 h) (Nat.le_of_ble_eq_true rfl) rfl rfl (Nat.le_of_ble_eq_true rfl) dX11_looks_5 ⟨Nat.le_of_ble_eq_true rfl, Nat.le_of_ble_eq_true rfl⟩ (fun x2 h3 => ?_)
  refine r_if_eq (tgt := 21) C dX11_looks_8 (by decide) ?_ ?_
  · refine r_iconst C dX11_looks_21 k_im1 ?_
    exact r_iret C dX11_looks_22
  · refine r_iload_n C dX11_looks_11 2 rfl ?_
    refine r_iconst C dX11_looks_12 k_i0 ?_
    refine r_bipush C dX11_looks_13 k_b30 ?_
    refine r_csi (As := [.int i2, .int (0 : Int32), .int (30 : Int32)]) (st := []) C ws_X11_164 (tcX11_within K.2.1 g hg i2 (0 : Int32) (30 : Int32) h3) (Nat.le_of_ble_eq_true rfl) rfl rfl (Nat.le_of_ble_eq_true rfl) dX11_looks_15 ⟨Nat.le_of_ble_eq_true rfl, Nat.le_of_ble_eq_true rfl⟩ (fun x4 h5 => ?_)
    refine r_if_ne (tgt := 23) C dX11_looks_18 (by decide) ?_ ?_
    · refine r_aload_n C dX11_looks_23 0 rfl ?_
      refine r_gr C wf_X11_65_10 dX11_looks_24 (fun q6 => ?_)
      refine r_iload_n C dX11_looks_27 1 rfl ?_
      refine r_cvi (As := [.int i1]) (st := []) C wv_X11_341 (tcX4_fitting K.2.1 g hg q6 i1 h5) (Nat.le_of_ble_eq_true rfl) rfl rfl (Nat.le_of_ble_eq_true rfl) dX11_looks_28 ⟨Nat.le_of_ble_eq_true rfl, Nat.le_of_ble_eq_true rfl⟩ (fun x7 h8 => ?_)
      refine r_istore_n (lv9 := [(3, .int x7), (0, p_rf g o0), (1, .int i1), (2, .int i2)]) C dX11_looks_31 (by decide) rfl ?_
      refine r_iload_n C dX11_looks_32 0 rfl ?_
      refine r_if_ne (tgt := 41) C dX11_looks_33 (by decide) ?_ ?_
      · refine r_aload_n C dX11_looks_41 1 rfl ?_
        refine r_gr C wf_X11_65_10 dX11_looks_42 (fun q9 => ?_)
        refine r_iload_n C dX11_looks_45 2 rfl ?_
        refine r_iload_n C dX11_looks_46 3 rfl ?_
        refine r_iload_n C dX11_looks_47 0 rfl ?_
        refine r_cvi (As := [.int i1, .int i2, .int x7]) (st := []) C wv_X11_347 (tcX4_bestLook K.2.1 g hg q9 i1 i2 x7 h8) (Nat.le_of_ble_eq_true rfl) rfl rfl (Nat.le_of_ble_eq_true rfl) dX11_looks_48 ⟨Nat.le_of_ble_eq_true rfl, Nat.le_of_ble_eq_true rfl⟩ (fun x10 h11 => ?_)
        exact r_iret C dX11_looks_51
      · refine r_bipush C dX11_looks_36 k_bm2 ?_
        refine r_goto (tgt := 51) C dX11_looks_38 (by decide) ?_
        exact r_iret C dX11_looks_51
    · refine r_iconst C dX11_looks_21 k_im1 ?_
      exact r_iret C dX11_looks_22
set_option maxRecDepth 100000 in
set_option maxHeartbeats 4000000 in
theorem tcX11_covers (l : Launch) (g : WG) (hg : p_al g = false) (o0 : Nat) (i1 : Int32) (h : PH) : CT l g 8 0 0 yX11_covers cX11_covers 2 (some .int) em_i [p_rf g o0, .int i1] h (fX11_covers o0 i1 h) := by
  refine CT_of (own := RX11) (nm := "covers") (by decide +kernel) (Nat.le_of_ble_eq_true rfl) rfl rfl rfl ⟨rfl, rfl⟩ (fun K hK C => ?_)
  subst hK
  unfold fX11_covers
  show VX K g _ _ _ _ _ [(0, p_rf g o0), (1, .int i1)] _ _ _
  refine r_iload_n C dX11_covers_0 1 rfl ?_
  refine r_iconst C dX11_covers_1 k_i0 ?_
  refine r_bipush C dX11_covers_2 k_b20 ?_
  refine r_csi (As := [.int i1, .int (0 : Int32), .int (20 : Int32)]) (st := []) C ws_X11_164 (tcX11_within K.2.1 g hg i1 (0 : Int32) (20 : Int32) h) (Nat.le_of_ble_eq_true rfl) rfl rfl (Nat.le_of_ble_eq_true rfl) dX11_covers_4 ⟨Nat.le_of_ble_eq_true rfl, Nat.le_of_ble_eq_true rfl⟩ (fun x1 h2 => ?_)
  refine r_if_eq (tgt := 21) C dX11_covers_7 (by decide) ?_ ?_
  · refine r_iconst C dX11_covers_21 k_im1 ?_
    exact r_iret C dX11_covers_22
  · refine r_aload_n C dX11_covers_10 0 rfl ?_
    refine r_gr C wf_X11_65_10 dX11_covers_11 (fun q3 => ?_)
    refine r_iload_n C dX11_covers_14 1 rfl ?_
    refine r_cvi (As := [.int i1]) (st := []) C wv_X11_350 (tcX4_fewestForAll K.2.1 g hg q3 i1 h2) (Nat.le_of_ble_eq_true rfl) rfl rfl (Nat.le_of_ble_eq_true rfl) dX11_covers_15 ⟨Nat.le_of_ble_eq_true rfl, Nat.le_of_ble_eq_true rfl⟩ (fun x4 h5 => ?_)
    refine r_goto (tgt := 22) C dX11_covers_18 (by decide) ?_
    exact r_iret C dX11_covers_22
set_option maxRecDepth 100000 in
set_option maxHeartbeats 4000000 in
theorem tcX11_shares (l : Launch) (g : WG) (hg : p_al g = false) (o0 : Nat) (i1 : Int32) (h : PH) : CT l g 8 0 0 yX11_shares cX11_shares 2 (some .int) em_i [p_rf g o0, .int i1] h (fX11_shares o0 i1 h) := by
  refine CT_of (own := RX11) (nm := "shares") (by decide +kernel) (Nat.le_of_ble_eq_true rfl) rfl rfl rfl ⟨rfl, rfl⟩ (fun K hK C => ?_)
  subst hK
  unfold fX11_shares
  show VX K g _ _ _ _ _ [(0, p_rf g o0), (1, .int i1)] _ _ _
  refine r_iload_n C dX11_shares_0 1 rfl ?_
  refine r_iconst C dX11_shares_1 k_i0 ?_
  refine r_bipush C dX11_shares_2 k_b20 ?_
  refine r_csi (As := [.int i1, .int (0 : Int32), .int (20 : Int32)]) (st := []) C ws_X11_164 (tcX11_within K.2.1 g hg i1 (0 : Int32) (20 : Int32) h) (Nat.le_of_ble_eq_true rfl) rfl rfl (Nat.le_of_ble_eq_true rfl) dX11_shares_4 ⟨Nat.le_of_ble_eq_true rfl, Nat.le_of_ble_eq_true rfl⟩ (fun x1 h2 => ?_)
  refine r_if_ne (tgt := 12) C dX11_shares_7 (by decide) ?_ ?_
  · refine r_aload_n C dX11_shares_12 0 rfl ?_
    refine r_gr C wf_X11_65_10 dX11_shares_13 (fun q3 => ?_)
    refine r_iload_n C dX11_shares_16 1 rfl ?_
    refine r_cvi (As := [.int i1]) (st := []) C wv_X11_353 (tcX4_reckonGains K.2.1 g hg q3 i1 h2) (Nat.le_of_ble_eq_true rfl) rfl rfl (Nat.le_of_ble_eq_true rfl) dX11_shares_17 ⟨Nat.le_of_ble_eq_true rfl, Nat.le_of_ble_eq_true rfl⟩ (fun x4 h5 => ?_)
    refine r_aload_n C dX11_shares_20 0 rfl ?_
    refine r_gr C wf_X11_65_10 dX11_shares_21 (fun q6 => ?_)
    refine r_cvi (As := []) (st := [.int x4]) C wv_X11_356 (tcX4_shareOut K.2.1 g hg q6 h5) (Nat.le_of_ble_eq_true rfl) rfl rfl (Nat.le_of_ble_eq_true rfl) dX11_shares_24 ⟨Nat.le_of_ble_eq_true rfl, Nat.le_of_ble_eq_true rfl⟩ (fun x7 h8 => ?_)
    refine r_iadd C dX11_shares_27 ?_
    exact r_iret C dX11_shares_28
  · refine r_iconst C dX11_shares_10 k_im1 ?_
    exact r_iret C dX11_shares_11
set_option maxRecDepth 100000 in
set_option maxHeartbeats 4000000 in
theorem tX11_winsAt_J57_18 {K : AC} {g : WG} (hg : p_al g = false)  (C : Cx K g cX11_winsAt 7 RX11 (some .boolean) "winsAt" 1 0 0) (i2 : Int32) (i3 : Int32) (i5 : Int32) (s0 : Int32)    {rc : Int32 → Int32 → Int32 → Int32 → PH → Option (Int32 × PH)} {kx : Int32 → Int32 → PH → Option (Int32 × PH)} (hr : ∀ (i2' : Int32) (i3' : Int32) (i4' : Int32) (i5' : Int32) (h : PH), VX K g 7 0 0 (a_fin K g 0 0 em_i) 18 [(2, .int i2'), (3, .int i3'), (4, .int i4'), (5, .int i5')] [] h (rc i2' i3' i4' i5' h)) (hk : ∀ (i3' : Int32) (i4' : Int32) (h : PH), VX K g 7 0 0 (a_fin K g 0 0 em_i) 65 [(3, .int i3'), (4, .int i4')] [] h (kx i3' i4' h)) (h : PH) : VX K g 7 0 0 (a_fin K g 0 0 em_i) 57 [(2, .int i2), (3, .int i3), (5, .int i5)] [.int s0] h (fX11_winsAt_J57_18 rc kx i2 i3 i5 s0 h) := by
  unfold fX11_winsAt_J57_18
  refine r_istore (lv9 := [(4, .int s0), (2, .int i2), (3, .int i3), (5, .int i5)]) C dX11_winsAt_57 (by decide) rfl ?_
  refine r_iinc (lv' := [(4, .int s0), (2, .int i2), (3, .int i3)]) C dX11_winsAt_59 3 rfl k_i1 (by decide) (fun _ => rfl) (fun x1 => ?_)
  refine r_goto (tgt := 18) C dX11_winsAt_62 (by decide) ?_
  refine r_perm (lv' := [(2, .int i2), (3, .int i3), (4, .int s0), (5, .int x1)]) [2, 3, 1, 0] rfl ?_
  exact hr i2 i3 s0 x1 h
set_option maxRecDepth 100000 in
set_option maxHeartbeats 4000000 in
theorem tX11_winsAt_L18 {K : AC} {g : WG} (hg : p_al g = false)  (C : Cx K g cX11_winsAt 7 RX11 (some .boolean) "winsAt" 1 0 0)  {kx : Int32 → Int32 → PH → Option (Int32 × PH)} (hk : ∀ (i3 : Int32) (i4 : Int32) (h : PH), VX K g 7 0 0 (a_fin K g 0 0 em_i) 65 [(3, .int i3), (4, .int i4)] [] h (kx i3 i4 h)) : ∀ (n : Nat) (i2 : Int32) (i3 : Int32) (i4 : Int32) (i5 : Int32) (h : PH), VX K g 7 0 0 (a_fin K g 0 0 em_i) 18 [(2, .int i2), (3, .int i3), (4, .int i4), (5, .int i5)] [] h (fX11_winsAt_L18 kx n i2 i3 i4 i5 h) := by
  intro n
  induction n with
  | zero =>
    intros
    exact r_none
  | succ n ih =>
    intro i2 i3 i4 i5 h
    rw [fX11_winsAt_L18]
    refine r_iload C dX11_winsAt_18 3 rfl ?_
    refine r_sipush C dX11_winsAt_20 k_s1000 ?_
    refine r_icmp_ge (tgt := 65) C dX11_winsAt_23 (by decide) ?_ ?_
    · refine r_perm (lv' := [(3, .int i3), (4, .int i4)]) [1, 2] rfl ?_
      exact hk i3 i4 h
    · refine r_iload_n C dX11_winsAt_26 1 rfl ?_
      refine r_if_le (tgt := 65) C dX11_winsAt_27 (by decide) ?_ ?_
      · refine r_perm (lv' := [(3, .int i3), (4, .int i4)]) [1, 2] rfl ?_
        exact hk i3 i4 h
      · refine r_iload_n C dX11_winsAt_30 0 rfl ?_
        refine r_iconst C dX11_winsAt_31 k_i2 ?_
        refine r_iload_n C dX11_winsAt_32 1 rfl ?_
        refine r_imul C dX11_winsAt_33 ?_
        refine r_icmp_ge (tgt := 65) C dX11_winsAt_34 (by decide) ?_ ?_
        · refine r_perm (lv' := [(3, .int i3), (4, .int i4)]) [1, 2] rfl ?_
          exact hk i3 i4 h
        · refine r_iload_n C dX11_winsAt_37 0 rfl ?_
          refine r_iload_n C dX11_winsAt_38 1 rfl ?_
          refine r_isub C dX11_winsAt_39 ?_
          refine r_topi (fun x1 => ?_)
          refine r_istore (lv9 := [(6, .int x1), (2, .int i2), (3, .int i3), (4, .int i4), (5, .int i5)]) C dX11_winsAt_40 (by decide) rfl ?_
          refine r_iload_n C dX11_winsAt_42 2 rfl ?_
          refine r_istore_n (lv9 := [(2, .int i3), (6, .int x1), (3, .int i3), (4, .int i4), (5, .int i5)]) C dX11_winsAt_43 (by decide) rfl ?_
          refine r_iload C dX11_winsAt_44 1 rfl ?_
          refine r_istore_n (lv9 := [(3, .int x1), (2, .int i3), (6, .int x1), (4, .int i4), (5, .int i5)]) C dX11_winsAt_46 (by decide) rfl ?_
          refine r_iload C dX11_winsAt_47 3 rfl ?_
          refine r_if_ne (tgt := 56) C dX11_winsAt_49 (by decide) ?_ ?_
          · refine r_iconst C dX11_winsAt_56 k_i0 ?_
            refine r_perm (lv' := [(2, .int i3), (3, .int x1), (5, .int i5)]) [1, 0, 4] rfl ?_
            exact tX11_winsAt_J57_18 hg C i3 x1 i5 (0 : Int32) ih hk h
          · refine r_iconst C dX11_winsAt_52 k_i1 ?_
            refine r_goto (tgt := 57) C dX11_winsAt_53 (by decide) ?_
            refine r_perm (lv' := [(2, .int i3), (3, .int x1), (5, .int i5)]) [1, 0, 4] rfl ?_
            exact tX11_winsAt_J57_18 hg C i3 x1 i5 (1 : Int32) ih hk h
set_option maxRecDepth 100000 in
set_option maxHeartbeats 4000000 in
theorem tcX11_winsAt (l : Launch) (g : WG) (hg : p_al g = false) (i0 : Int32) (i1 : Int32) (h : PH) : CT l g 1 0 0 yX11_winsAt cX11_winsAt 7 (some .boolean) em_i [.int i0, .int i1] h (fX11_winsAt i0 i1 h) := by
  refine CT_of (own := RX11) (nm := "winsAt") (by decide +kernel) (Nat.le_of_ble_eq_true rfl) rfl rfl rfl ⟨rfl, rfl⟩ (fun K hK C => ?_)
  subst hK
  unfold fX11_winsAt
  show VX K g _ _ _ _ _ [(0, .int i0), (1, .int i1)] _ _ _
  refine r_iload_n C dX11_winsAt_0 0 rfl ?_
  refine r_iload_n C dX11_winsAt_1 1 rfl ?_
  refine r_max C wm_X11_359 (Nat.le_of_ble_eq_true rfl) (Nat.le_of_ble_eq_true rfl) ⟨Nat.le_of_ble_eq_true rfl, Nat.le_of_ble_eq_true rfl⟩ dX11_winsAt_2 ?_
  refine r_topi (fun x1 => ?_)
  refine r_istore_n (lv9 := [(2, .int x1), (0, .int i0), (1, .int i1)]) C dX11_winsAt_5 (by decide) rfl ?_
  refine r_iload_n C dX11_winsAt_6 1 rfl ?_
  refine r_iload_n C dX11_winsAt_7 2 rfl ?_
  refine r_min C wm_X11_362 (Nat.le_of_ble_eq_true rfl) (Nat.le_of_ble_eq_true rfl) ⟨Nat.le_of_ble_eq_true rfl, Nat.le_of_ble_eq_true rfl⟩ dX11_winsAt_8 ?_
  refine r_topi (fun x2 => ?_)
  refine r_istore_n (lv9 := [(3, .int x2), (2, .int x1), (0, .int i0), (1, .int i1)]) C dX11_winsAt_11 (by decide) rfl ?_
  refine r_iconst C dX11_winsAt_12 k_i1 ?_
  refine r_istore (lv9 := [(4, .int (1 : Int32)), (3, .int x2), (2, .int x1), (0, .int i0), (1, .int i1)]) C dX11_winsAt_13 (by decide) rfl ?_
  refine r_iconst C dX11_winsAt_15 k_i0 ?_
  refine r_istore (lv9 := [(5, .int (0 : Int32)), (4, .int (1 : Int32)), (3, .int x2), (2, .int x1), (0, .int i0), (1, .int i1)]) C dX11_winsAt_16 (by decide) rfl ?_
  refine r_perm (lv' := [(2, .int x1), (3, .int x2), (4, .int (1 : Int32)), (5, .int (0 : Int32))]) [3, 2, 1, 0] rfl ?_
  refine tX11_winsAt_L18 hg C  (fun x3 x4 h5 => ?_) FU x1 x2 (1 : Int32) (0 : Int32) h
  refine r_iload_n C dX11_winsAt_65 0 rfl ?_
  refine r_if_le (tgt := 74) C dX11_winsAt_66 (by decide) ?_ ?_
  · refine r_iload C dX11_winsAt_74 1 rfl ?_
    refine r_if_ne (tgt := 83) C dX11_winsAt_76 (by decide) ?_ ?_
    · refine r_iconst C dX11_winsAt_83 k_i0 ?_
      exact r_zret C dX11_winsAt_84
    · refine r_iconst C dX11_winsAt_79 k_i1 ?_
      refine r_goto (tgt := 84) C dX11_winsAt_80 (by decide) ?_
      exact r_zret C dX11_winsAt_84
  · refine r_iload C dX11_winsAt_69 1 rfl ?_
    refine r_goto (tgt := 84) C dX11_winsAt_71 (by decide) ?_
    exact r_zret C dX11_winsAt_84
set_option maxRecDepth 100000 in
set_option maxHeartbeats 4000000 in
theorem tX11_counter_L56 {K : AC} {g : WG} (hg : p_al g = false)  (C : Cx K g cX11_counter 6 RX11 (some .int) "counter" 2 0 0) (o0 : Nat) (i3 : Int32) (i4 : Int32) {kx : PH → Option (Int32 × PH)} (hk : ∀  (h : PH), VX K g 6 0 0 (a_fin K g 0 0 em_i) 98 [] [] h (kx h)) : ∀ (n : Nat) (i5 : Int32) (h : PH), VX K g 6 0 0 (a_fin K g 0 0 em_i) 56 [(0, p_rf g o0), (3, .int i3), (4, .int i4), (5, .int i5)] [] h (fX11_counter_L56 o0 i3 i4 kx n i5 h) := by
  intro n
  induction n with
  | zero =>
    intros
    exact r_none
  | succ n ih =>
    intro i5 h
    rw [fX11_counter_L56]
    refine r_iload C dX11_counter_56 3 rfl ?_
    refine r_iload C dX11_counter_58 2 rfl ?_
    refine r_imul C dX11_counter_60 ?_
    refine r_iload_n C dX11_counter_61 1 rfl ?_
    refine r_icmp_gt (tgt := 98) C dX11_counter_62 (by decide) ?_ ?_
    · refine r_perm (lv' := []) [] rfl ?_
      exact hk h
    · refine r_iload_n C dX11_counter_65 1 rfl ?_
      refine r_iload C dX11_counter_66 3 rfl ?_
      refine r_iload C dX11_counter_68 2 rfl ?_
      refine r_imul C dX11_counter_70 ?_
      refine r_isub C dX11_counter_71 ?_
      refine r_iload C dX11_counter_72 2 rfl ?_
      refine r_csi (As := [.int (i3 - (i5 * i4)), .int i4]) (st := []) C ws_X11_365 (tcX11_winsAt K.2.1 g hg (i3 - (i5 * i4)) i4 h) (Nat.le_of_ble_eq_true rfl) rfl rfl (Nat.le_of_ble_eq_true rfl) dX11_counter_74 ⟨Nat.le_of_ble_eq_true rfl, Nat.le_of_ble_eq_true rfl⟩ (fun x1 h2 => ?_)
      refine r_if_ne (tgt := 92) C dX11_counter_77 (by decide) ?_ ?_
      · refine r_iinc (lv' := [(0, p_rf g o0), (3, .int i3), (4, .int i4)]) C dX11_counter_92 3 rfl k_i1 (by decide) (fun _ => rfl) (fun x3 => ?_)
        refine r_goto (tgt := 56) C dX11_counter_95 (by decide) ?_
        refine r_perm (lv' := [(0, p_rf g o0), (3, .int i3), (4, .int i4), (5, .int x3)]) [1, 2, 3, 0] rfl ?_
        exact ih x3 h2
      · refine r_aload_n C dX11_counter_80 0 rfl ?_
        refine r_gr C wf_X11_69_10 dX11_counter_81 (fun q4 => ?_)
        refine r_iload C dX11_counter_84 3 rfl ?_
        refine r_i2l C dX11_counter_86 ?_
        refine r_cvv (As := [.long (i5.toInt64)]) (st := []) C wv_X11_248 (tcX3_add K.2.1 g hg q4 (i5.toInt64) h2) (Nat.le_of_ble_eq_true rfl) rfl rfl (Nat.le_of_ble_eq_true rfl) dX11_counter_87 ⟨Nat.le_of_ble_eq_true rfl, Nat.le_of_ble_eq_true rfl⟩ (fun h5 => ?_)
        refine r_iconst C dX11_counter_90 k_i1 ?_
        exact r_iret C dX11_counter_91
set_option maxRecDepth 100000 in
set_option maxHeartbeats 4000000 in
theorem tcX11_counter (l : Launch) (g : WG) (hg : p_al g = false) (o0 : Nat) (i1 : Int32) (i2 : Int32) (h : PH) : CT l g 2 0 0 yX11_counter cX11_counter 6 (some .int) em_i [p_rf g o0, .int i1, .int i2] h (fX11_counter o0 i1 i2 h) := by
  refine CT_of (own := RX11) (nm := "counter") (by decide +kernel) (Nat.le_of_ble_eq_true rfl) rfl rfl rfl ⟨rfl, rfl⟩ (fun K hK C => ?_)
  subst hK
  unfold fX11_counter
  show VX K g _ _ _ _ _ [(0, p_rf g o0), (1, .int i1), (2, .int i2)] _ _ _
  refine r_iload_n C dX11_counter_0 1 rfl ?_
  refine r_iconst C dX11_counter_1 k_i0 ?_
  refine r_bipush C dX11_counter_2 k_b99 ?_
  refine r_csi (As := [.int i1, .int (0 : Int32), .int (99 : Int32)]) (st := []) C ws_X11_164 (tcX11_within K.2.1 g hg i1 (0 : Int32) (99 : Int32) h) (Nat.le_of_ble_eq_true rfl) rfl rfl (Nat.le_of_ble_eq_true rfl) dX11_counter_4 ⟨Nat.le_of_ble_eq_true rfl, Nat.le_of_ble_eq_true rfl⟩ (fun x1 h2 => ?_)
  refine r_if_eq (tgt := 20) C dX11_counter_7 (by decide) ?_ ?_
  · refine r_iconst C dX11_counter_20 k_im1 ?_
    exact r_iret C dX11_counter_21
  · refine r_iload_n C dX11_counter_10 2 rfl ?_
    refine r_iconst C dX11_counter_11 k_i0 ?_
    refine r_bipush C dX11_counter_12 k_b99 ?_
    refine r_csi (As := [.int i2, .int (0 : Int32), .int (99 : Int32)]) (st := []) C ws_X11_164 (tcX11_within K.2.1 g hg i2 (0 : Int32) (99 : Int32) h2) (Nat.le_of_ble_eq_true rfl) rfl rfl (Nat.le_of_ble_eq_true rfl) dX11_counter_14 ⟨Nat.le_of_ble_eq_true rfl, Nat.le_of_ble_eq_true rfl⟩ (fun x3 h4 => ?_)
    refine r_if_ne (tgt := 22) C dX11_counter_17 (by decide) ?_ ?_
    · refine r_iload_n C dX11_counter_22 1 rfl ?_
      refine r_if_eq (tgt := 30) C dX11_counter_23 (by decide) ?_ ?_
      · refine r_bipush C dX11_counter_30 k_bm2 ?_
        exact r_iret C dX11_counter_32
      · refine r_iload_n C dX11_counter_26 2 rfl ?_
        refine r_if_ne (tgt := 33) C dX11_counter_27 (by decide) ?_ ?_
        · refine r_iload_n C dX11_counter_33 1 rfl ?_
          refine r_iload_n C dX11_counter_34 2 rfl ?_
          refine r_max C wm_X11_359 (Nat.le_of_ble_eq_true rfl) (Nat.le_of_ble_eq_true rfl) ⟨Nat.le_of_ble_eq_true rfl, Nat.le_of_ble_eq_true rfl⟩ dX11_counter_35 ?_
          refine r_topi (fun x5 => ?_)
          refine r_istore_n (lv9 := [(3, .int x5), (0, p_rf g o0), (1, .int i1), (2, .int i2)]) C dX11_counter_38 (by decide) rfl ?_
          refine r_iload_n C dX11_counter_39 2 rfl ?_
          refine r_iload_n C dX11_counter_40 3 rfl ?_
          refine r_min C wm_X11_362 (Nat.le_of_ble_eq_true rfl) (Nat.le_of_ble_eq_true rfl) ⟨Nat.le_of_ble_eq_true rfl, Nat.le_of_ble_eq_true rfl⟩ dX11_counter_41 ?_
          refine r_topi (fun x6 => ?_)
          refine r_istore (lv9 := [(4, .int x6), (3, .int x5), (0, p_rf g o0), (1, .int i1), (2, .int i2)]) C dX11_counter_44 (by decide) rfl ?_
          refine r_aload_n C dX11_counter_46 2 rfl ?_
          refine r_gr C wf_X11_69_10 dX11_counter_47 (fun q7 => ?_)
          refine r_cvv (As := []) (st := []) C wv_X11_242 (tcX3_start K.2.1 g hg q7 h4) (Nat.le_of_ble_eq_true rfl) rfl rfl (Nat.le_of_ble_eq_true rfl) dX11_counter_50 ⟨Nat.le_of_ble_eq_true rfl, Nat.le_of_ble_eq_true rfl⟩ (fun h8 => ?_)
          refine r_iconst C dX11_counter_53 k_i1 ?_
          refine r_istore (lv9 := [(5, .int (1 : Int32)), (4, .int x6), (3, .int x5), (0, p_rf g o0), (1, .int i1), (2, .int i2)]) C dX11_counter_54 (by decide) rfl ?_
          refine r_perm (lv' := [(0, p_rf g o0), (3, .int x5), (4, .int x6), (5, .int (1 : Int32))]) [3, 2, 1, 0] rfl ?_
          refine tX11_counter_L56 hg C o0 x5 x6 (fun h9 => ?_) FU (1 : Int32) h8
          refine r_iconst C dX11_counter_98 k_i0 ?_
          exact r_iret C dX11_counter_99
        · refine r_bipush C dX11_counter_30 k_bm2 ?_
          exact r_iret C dX11_counter_32
    · refine r_iconst C dX11_counter_20 k_im1 ?_
      exact r_iret C dX11_counter_21
set_option maxRecDepth 100000 in
set_option maxHeartbeats 4000000 in
theorem tX11_tellFraction_L9 {K : AC} {g : WG} (hg : p_al g = false)  (C : Cx K g cX11_tellFraction 12 RX11 none "tellFraction" 2 0 0) (o0 : Nat) (l1 : Int64) (l3 : Int64) {kx : Int64 → PH → Option (Unit × PH)} (hk : ∀ (l5 : Int64) (h : PH), VX K g 12 0 0 (a_fin K g 0 0 em_v) 45 [(0, p_rf g o0), (1, .long l1), (3, .long l3), (5, .long l5)] [] h (kx l5 h)) : ∀ (n : Nat) (l5 : Int64) (l7 : Int64) (i9 : Int32) (h : PH), VX K g 12 0 0 (a_fin K g 0 0 em_v) 9 [(0, p_rf g o0), (1, .long l1), (3, .long l3), (5, .long l5), (7, .long l7), (9, .int i9)] [] h (fX11_tellFraction_L9 o0 l1 l3 kx n l5 l7 i9 h) := by
  intro n
  induction n with
  | zero =>
    intros
    exact r_none
  | succ n ih =>
    intro l5 l7 i9 h
    rw [fX11_tellFraction_L9]
    refine r_iload C dX11_tellFraction_9 5 rfl ?_
    refine r_sipush C dX11_tellFraction_11 k_s1000 ?_
    refine r_icmp_ge (tgt := 45) C dX11_tellFraction_14 (by decide) ?_ ?_
    · refine r_perm (lv' := [(0, p_rf g o0), (1, .long l1), (3, .long l3), (5, .long l5)]) [0, 1, 2, 3] rfl ?_
      exact hk l5 h
    · refine r_lload C dX11_tellFraction_17 4 rfl ?_
      refine r_lconst (v := (0 : Int64)) C dX11_tellFraction_19 (by decide) ?_
      refine r_lcmp C dX11_tellFraction_20 ?_
      refine r_if_le (tgt := 45) C dX11_tellFraction_21 (by decide) ?_ ?_
      · refine r_perm (lv' := [(0, p_rf g o0), (1, .long l1), (3, .long l3), (5, .long l5)]) [0, 1, 2, 3] rfl ?_
        exact hk l5 h
      · refine r_lload C dX11_tellFraction_24 3 rfl ?_
        refine r_lload C dX11_tellFraction_26 4 rfl ?_
        refine r_lrem C dX11_tellFraction_28 ?_
        refine r_topl (fun y1 => ?_)
        refine r_lstore (lv9 := [(10, .long y1), (0, p_rf g o0), (1, .long l1), (3, .long l3), (5, .long l5), (7, .long l7), (9, .int i9)]) C dX11_tellFraction_29 (by decide) rfl ?_
        refine r_lload C dX11_tellFraction_31 5 rfl ?_
        refine r_lstore (lv9 := [(5, .long l7), (10, .long y1), (0, p_rf g o0), (1, .long l1), (3, .long l3), (7, .long l7), (9, .int i9)]) C dX11_tellFraction_33 (by decide) rfl ?_
        refine r_lload C dX11_tellFraction_35 1 rfl ?_
        refine r_lstore (lv9 := [(7, .long y1), (5, .long l7), (10, .long y1), (0, p_rf g o0), (1, .long l1), (3, .long l3), (9, .int i9)]) C dX11_tellFraction_37 (by decide) rfl ?_
        refine r_iinc (lv' := [(7, .long y1), (5, .long l7), (10, .long y1), (0, p_rf g o0), (1, .long l1), (3, .long l3)]) C dX11_tellFraction_39 6 rfl k_i1 (by decide) (fun _ => rfl) (fun x2 => ?_)
        refine r_goto (tgt := 9) C dX11_tellFraction_42 (by decide) ?_
        refine r_perm (lv' := [(0, p_rf g o0), (1, .long l1), (3, .long l3), (5, .long l7), (7, .long y1), (9, .int x2)]) [4, 5, 6, 2, 1, 0] rfl ?_
        exact ih l7 y1 x2 h
set_option maxRecDepth 100000 in
set_option maxHeartbeats 4000000 in
theorem tX11_tellFraction_J93 {K : AC} {g : WG} (hg : p_al g = false)  (C : Cx K g cX11_tellFraction 12 RX11 none "tellFraction" 2 0 0) (s0 : Int64) (s1 : Nat)  (h : PH) : VX K g 12 0 0 (a_fin K g 0 0 em_v) 93 [] [.long s0, p_rf g s1] h (fX11_tellFraction_J93 s0 s1 h) := by
  unfold fX11_tellFraction_J93
  refine r_cvv (As := [.long s0]) (st := []) C wv_X11_248 (tcX3_add K.2.1 g hg s1 s0 h) (Nat.le_of_ble_eq_true rfl) rfl rfl (Nat.le_of_ble_eq_true rfl) dX11_tellFraction_93 ⟨Nat.le_of_ble_eq_true rfl, Nat.le_of_ble_eq_true rfl⟩ (fun h1 => ?_)
  exact r_vret C dX11_tellFraction_96
set_option maxRecDepth 100000 in
set_option maxHeartbeats 4000000 in
theorem tX11_tellFraction_J71 {K : AC} {g : WG} (hg : p_al g = false)  (C : Cx K g cX11_tellFraction 12 RX11 none "tellFraction" 2 0 0) (o0 : Nat) (l3 : Int64) (l5 : Int64) (s0 : Int64) (s1 : Nat)  (h : PH) : VX K g 12 0 0 (a_fin K g 0 0 em_v) 71 [(0, p_rf g o0), (3, .long l3), (5, .long l5)] [.long s0, p_rf g s1] h (fX11_tellFraction_J71 o0 l3 l5 s0 s1 h) := by
  unfold fX11_tellFraction_J71
  refine r_cvv (As := [.long s0]) (st := []) C wv_X11_248 (tcX3_add K.2.1 g hg s1 s0 h) (Nat.le_of_ble_eq_true rfl) rfl rfl (Nat.le_of_ble_eq_true rfl) dX11_tellFraction_71 ⟨Nat.le_of_ble_eq_true rfl, Nat.le_of_ble_eq_true rfl⟩ (fun h1 => ?_)
  refine r_aload_n C dX11_tellFraction_74 0 rfl ?_
  refine r_gr C wf_X11_69_10 dX11_tellFraction_75 (fun q2 => ?_)
  refine r_lload C dX11_tellFraction_78 2 rfl ?_
  refine r_lconst (v := (0 : Int64)) C dX11_tellFraction_80 (by decide) ?_
  refine r_lcmp C dX11_tellFraction_81 ?_
  refine r_if_le (tgt := 92) C dX11_tellFraction_82 (by decide) ?_ ?_
  · refine r_lload_n C dX11_tellFraction_92 1 rfl ?_
    refine r_perm (lv' := []) [] rfl ?_
    exact tX11_tellFraction_J93 hg C l3 q2 h1
  · refine r_lload_n C dX11_tellFraction_85 1 rfl ?_
    refine r_lload C dX11_tellFraction_86 2 rfl ?_
    refine r_ldiv C dX11_tellFraction_88 ?_
    refine r_goto (tgt := 93) C dX11_tellFraction_89 (by decide) ?_
    refine r_perm (lv' := []) [] rfl ?_
    exact tX11_tellFraction_J93 hg C (l3 / l5) q2 h1
set_option maxRecDepth 100000 in
set_option maxHeartbeats 4000000 in
theorem tcX11_tellFraction (l : Launch) (g : WG) (hg : p_al g = false) (o0 : Nat) (l1 : Int64) (l3 : Int64) (h : PH) : CT l g 2 0 0 yX11_tellFraction cX11_tellFraction 12 none em_v [p_rf g o0, .long l1, .long l3] h (fX11_tellFraction o0 l1 l3 h) := by
  refine CT_of (own := RX11) (nm := "tellFraction") (by decide +kernel) (Nat.le_of_ble_eq_true rfl) rfl rfl rfl ⟨rfl, rfl⟩ (fun K hK C => ?_)
  subst hK
  unfold fX11_tellFraction
  show VX K g _ _ _ _ _ [(0, p_rf g o0), (1, .long l1), (3, .long l3)] _ _ _
  refine r_lload_n C dX11_tellFraction_0 2 rfl ?_
  refine r_lstore (lv9 := [(5, .long l3), (0, p_rf g o0), (1, .long l1), (3, .long l3)]) C dX11_tellFraction_1 (by decide) rfl ?_
  refine r_lload_n C dX11_tellFraction_3 2 rfl ?_
  refine r_lstore (lv9 := [(7, .long l1), (5, .long l3), (0, p_rf g o0), (1, .long l1), (3, .long l3)]) C dX11_tellFraction_4 (by decide) rfl ?_
  refine r_iconst C dX11_tellFraction_6 k_i0 ?_
  refine r_istore (lv9 := [(9, .int (0 : Int32)), (7, .long l1), (5, .long l3), (0, p_rf g o0), (1, .long l1), (3, .long l3)]) C dX11_tellFraction_7 (by decide) rfl ?_
  refine r_perm (lv' := [(0, p_rf g o0), (1, .long l1), (3, .long l3), (5, .long l3), (7, .long l1), (9, .int (0 : Int32))]) [3, 4, 5, 2, 1, 0] rfl ?_
  refine tX11_tellFraction_L9 hg C o0 l1 l3 (fun y1 h2 => ?_) FU l3 l1 (0 : Int32) h
  refine r_aload_n C dX11_tellFraction_45 0 rfl ?_
  refine r_gr C wf_X11_69_10 dX11_tellFraction_46 (fun q3 => ?_)
  refine r_cvv (As := []) (st := []) C wv_X11_242 (tcX3_start K.2.1 g hg q3 h2) (Nat.le_of_ble_eq_true rfl) rfl rfl (Nat.le_of_ble_eq_true rfl) dX11_tellFraction_49 ⟨Nat.le_of_ble_eq_true rfl, Nat.le_of_ble_eq_true rfl⟩ (fun h4 => ?_)
  refine r_aload_n C dX11_tellFraction_52 0 rfl ?_
  refine r_gr C wf_X11_69_10 dX11_tellFraction_53 (fun q5 => ?_)
  refine r_lload C dX11_tellFraction_56 3 rfl ?_
  refine r_lconst (v := (0 : Int64)) C dX11_tellFraction_58 (by decide) ?_
  refine r_lcmp C dX11_tellFraction_59 ?_
  refine r_if_le (tgt := 70) C dX11_tellFraction_60 (by decide) ?_ ?_
  · refine r_lload_n C dX11_tellFraction_70 1 rfl ?_
    refine r_perm (lv' := [(0, p_rf g o0), (3, .long l3), (5, .long y1)]) [0, 2, 3] rfl ?_
    exact tX11_tellFraction_J71 hg C o0 l3 y1 l1 q5 h4
  · refine r_lload_n C dX11_tellFraction_63 1 rfl ?_
    refine r_lload C dX11_tellFraction_64 3 rfl ?_
    refine r_ldiv C dX11_tellFraction_66 ?_
    refine r_goto (tgt := 71) C dX11_tellFraction_67 (by decide) ?_
    refine r_perm (lv' := [(0, p_rf g o0), (3, .long l3), (5, .long y1)]) [0, 2, 3] rfl ?_
    exact tX11_tellFraction_J71 hg C o0 l3 y1 (l1 / y1) q5 h4
set_option maxRecDepth 100000 in
set_option maxHeartbeats 4000000 in
theorem tX11_allAstray_J24_4 {K : AC} {g : WG} (hg : p_al g = false)  (C : Cx K g cX11_allAstray 4 RX11 (some .long) "allAstray" 1 0 0) (i0 : Int32) (i3 : Int32) (s0 : Int32) (s1 : Int64)    {rc : Int64 → Int32 → PH → Option (Int64 × PH)} {kx : Int64 → PH → Option (Int64 × PH)} (hr : ∀ (l1' : Int64) (i3' : Int32) (h : PH), VX K g 4 0 0 (a_fin K g 0 0 em_l) 4 [(0, .int i0), (1, .long l1'), (3, .int i3')] [] h (rc l1' i3' h)) (hk : ∀ (l1' : Int64) (h : PH), VX K g 4 0 0 (a_fin K g 0 0 em_l) 33 [(1, .long l1')] [] h (kx l1' h)) (h : PH) : VX K g 4 0 0 (a_fin K g 0 0 em_l) 24 [(0, .int i0), (3, .int i3)] [.int s0, .long s1] h (fX11_allAstray_J24_4 rc kx i0 i3 s0 s1 h) := by
  unfold fX11_allAstray_J24_4
  refine r_i2l C dX11_allAstray_24 ?_
  refine r_ladd C dX11_allAstray_25 ?_
  refine r_topl (fun y1 => ?_)
  refine r_lstore_n (lv9 := [(1, .long y1), (0, .int i0), (3, .int i3)]) C dX11_allAstray_26 (by decide) rfl ?_
  refine r_iinc (lv' := [(1, .long y1), (0, .int i0)]) C dX11_allAstray_27 2 rfl k_i1 (by decide) (fun _ => rfl) (fun x2 => ?_)
  refine r_goto (tgt := 4) C dX11_allAstray_30 (by decide) ?_
  refine r_perm (lv' := [(0, .int i0), (1, .long y1), (3, .int x2)]) [2, 1, 0] rfl ?_
  exact hr y1 x2 h
set_option maxRecDepth 100000 in
set_option maxHeartbeats 4000000 in
theorem tX11_allAstray_L4 {K : AC} {g : WG} (hg : p_al g = false)  (C : Cx K g cX11_allAstray 4 RX11 (some .long) "allAstray" 1 0 0) (i0 : Int32) {kx : Int64 → PH → Option (Int64 × PH)} (hk : ∀ (l1 : Int64) (h : PH), VX K g 4 0 0 (a_fin K g 0 0 em_l) 33 [(1, .long l1)] [] h (kx l1 h)) : ∀ (n : Nat) (l1 : Int64) (i3 : Int32) (h : PH), VX K g 4 0 0 (a_fin K g 0 0 em_l) 4 [(0, .int i0), (1, .long l1), (3, .int i3)] [] h (fX11_allAstray_L4 i0 kx n l1 i3 h) := by
  intro n
  induction n with
  | zero =>
    intros
    exact r_none
  | succ n ih =>
    intro l1 i3 h
    rw [fX11_allAstray_L4]
    refine r_iload_n C dX11_allAstray_4 2 rfl ?_
    refine r_iload_n C dX11_allAstray_5 0 rfl ?_
    refine r_icmp_gt (tgt := 33) C dX11_allAstray_6 (by decide) ?_ ?_
    · refine r_perm (lv' := [(1, .long l1)]) [1] rfl ?_
      exact hk l1 h
    · refine r_lload_n C dX11_allAstray_9 1 rfl ?_
      refine r_iload_n C dX11_allAstray_10 2 rfl ?_
      refine r_i2l C dX11_allAstray_11 ?_
      refine r_lmul C dX11_allAstray_12 ?_
      refine r_iload_n C dX11_allAstray_13 2 rfl ?_
      refine r_iconst C dX11_allAstray_14 k_i2 ?_
      refine r_irem C dX11_allAstray_15 ?_
      refine r_if_ne (tgt := 23) C dX11_allAstray_16 (by decide) ?_ ?_
      · refine r_iconst C dX11_allAstray_23 k_im1 ?_
        refine r_perm (lv' := [(0, .int i0), (3, .int i3)]) [0, 2] rfl ?_
        exact tX11_allAstray_J24_4 hg C i0 i3 (-1 : Int32) (l1 * (i3.toInt64)) ih hk h
      · refine r_iconst C dX11_allAstray_19 k_i1 ?_
        refine r_goto (tgt := 24) C dX11_allAstray_20 (by decide) ?_
        refine r_perm (lv' := [(0, .int i0), (3, .int i3)]) [0, 2] rfl ?_
        exact tX11_allAstray_J24_4 hg C i0 i3 (1 : Int32) (l1 * (i3.toInt64)) ih hk h
set_option maxRecDepth 100000 in
set_option maxHeartbeats 4000000 in
theorem tcX11_allAstray (l : Launch) (g : WG) (hg : p_al g = false) (i0 : Int32) (h : PH) : CT l g 1 0 0 yX11_allAstray cX11_allAstray 4 (some .long) em_l [.int i0] h (fX11_allAstray i0 h) := by
  refine CT_of (own := RX11) (nm := "allAstray") (by decide +kernel) (Nat.le_of_ble_eq_true rfl) rfl rfl rfl ⟨rfl, rfl⟩ (fun K hK C => ?_)
  subst hK
  unfold fX11_allAstray
  show VX K g _ _ _ _ _ [(0, .int i0)] _ _ _
  refine r_lconst (v := (1 : Int64)) C dX11_allAstray_0 (by decide) ?_
  refine r_lstore_n (lv9 := [(1, .long (1 : Int64)), (0, .int i0)]) C dX11_allAstray_1 (by decide) rfl ?_
  refine r_iconst C dX11_allAstray_2 k_i1 ?_
  refine r_istore_n (lv9 := [(3, .int (1 : Int32)), (1, .long (1 : Int64)), (0, .int i0)]) C dX11_allAstray_3 (by decide) rfl ?_
  refine r_perm (lv' := [(0, .int i0), (1, .long (1 : Int64)), (3, .int (1 : Int32))]) [2, 1, 0] rfl ?_
  refine tX11_allAstray_L4 hg C i0 (fun y1 h2 => ?_) FU (1 : Int64) (1 : Int32) h
  refine r_lload_n C dX11_allAstray_33 0 rfl ?_
  exact r_lret C dX11_allAstray_34
set_option maxRecDepth 100000 in
set_option maxHeartbeats 4000000 in
theorem tX11_right_L43 {K : AC} {g : WG} (hg : p_al g = false)  (C : Cx K g cX11_right 8 RX11 (some .int) "right" 3 0 0) (o0 : Nat) (i1 : Int32) (i2 : Int32) (l3 : Int64) {kx : Int64 → PH → Option (Int32 × PH)} (hk : ∀ (l5 : Int64) (h : PH), VX K g 8 0 0 (a_fin K g 0 0 em_i) 63 [(0, p_rf g o0), (1, .int i1), (2, .int i2), (3, .long l3), (5, .long l5)] [] h (kx l5 h)) : ∀ (n : Nat) (l5 : Int64) (i7 : Int32) (h : PH), VX K g 8 0 0 (a_fin K g 0 0 em_i) 43 [(0, p_rf g o0), (1, .int i1), (2, .int i2), (3, .long l3), (5, .long l5), (7, .int i7)] [] h (fX11_right_L43 o0 i1 i2 l3 kx n l5 i7 h) := by
  intro n
  induction n with
  | zero =>
    intros
    exact r_none
  | succ n ih =>
    intro l5 i7 h
    rw [fX11_right_L43]
    refine r_iload C dX11_right_43 5 rfl ?_
    refine r_iload_n C dX11_right_45 1 rfl ?_
    refine r_icmp_gt (tgt := 63) C dX11_right_46 (by decide) ?_ ?_
    · refine r_perm (lv' := [(0, p_rf g o0), (1, .int i1), (2, .int i2), (3, .long l3), (5, .long l5)]) [0, 1, 2, 3, 4] rfl ?_
      exact hk l5 h
    · refine r_lload C dX11_right_49 4 rfl ?_
      refine r_iload C dX11_right_51 5 rfl ?_
      refine r_i2l C dX11_right_53 ?_
      refine r_lmul C dX11_right_54 ?_
      refine r_topl (fun y1 => ?_)
      refine r_lstore (lv9 := [(5, .long y1), (0, p_rf g o0), (1, .int i1), (2, .int i2), (3, .long l3), (7, .int i7)]) C dX11_right_55 (by decide) rfl ?_
      refine r_iinc (lv' := [(5, .long y1), (0, p_rf g o0), (1, .int i1), (2, .int i2), (3, .long l3)]) C dX11_right_57 5 rfl k_i1 (by decide) (fun _ => rfl) (fun x2 => ?_)
      refine r_goto (tgt := 43) C dX11_right_60 (by decide) ?_
      refine r_perm (lv' := [(0, p_rf g o0), (1, .int i1), (2, .int i2), (3, .long l3), (5, .long y1), (7, .int x2)]) [2, 3, 4, 5, 1, 0] rfl ?_
      exact ih y1 x2 h
set_option maxRecDepth 100000 in
set_option maxHeartbeats 4000000 in
theorem tX11_right_L66 {K : AC} {g : WG} (hg : p_al g = false)  (C : Cx K g cX11_right 8 RX11 (some .int) "right" 3 0 0) (o0 : Nat) (i1 : Int32) (i2 : Int32) (l5 : Int64) {kx : Int64 → PH → Option (Int32 × PH)} (hk : ∀ (l3 : Int64) (h : PH), VX K g 8 0 0 (a_fin K g 0 0 em_i) 92 [(0, p_rf g o0), (1, .int i1), (2, .int i2), (3, .long l3), (5, .long l5)] [] h (kx l3 h)) : ∀ (n : Nat) (l3 : Int64) (i7 : Int32) (h : PH), VX K g 8 0 0 (a_fin K g 0 0 em_i) 66 [(0, p_rf g o0), (1, .int i1), (2, .int i2), (3, .long l3), (5, .long l5), (7, .int i7)] [] h (fX11_right_L66 o0 i1 i2 l5 kx n l3 i7 h) := by
  intro n
  induction n with
  | zero =>
    intros
    exact r_none
  | succ n ih =>
    intro l3 i7 h
    rw [fX11_right_L66]
    refine r_iload C dX11_right_66 5 rfl ?_
    refine r_iload_n C dX11_right_68 2 rfl ?_
    refine r_icmp_gt (tgt := 92) C dX11_right_69 (by decide) ?_ ?_
    · refine r_perm (lv' := [(0, p_rf g o0), (1, .int i1), (2, .int i2), (3, .long l3), (5, .long l5)]) [0, 1, 2, 3, 4] rfl ?_
      exact hk l3 h
    · refine r_lload_n C dX11_right_72 3 rfl ?_
      refine r_iload_n C dX11_right_73 1 rfl ?_
      refine r_iload_n C dX11_right_74 2 rfl ?_
      refine r_isub C dX11_right_75 ?_
      refine r_iload C dX11_right_76 5 rfl ?_
      refine r_iadd C dX11_right_78 ?_
      refine r_i2l C dX11_right_79 ?_
      refine r_lmul C dX11_right_80 ?_
      refine r_iload C dX11_right_81 5 rfl ?_
      refine r_i2l C dX11_right_83 ?_
      refine r_ldiv C dX11_right_84 ?_
      refine r_topl (fun y1 => ?_)
      refine r_lstore_n (lv9 := [(3, .long y1), (0, p_rf g o0), (1, .int i1), (2, .int i2), (5, .long l5), (7, .int i7)]) C dX11_right_85 (by decide) rfl ?_
      refine r_iinc (lv' := [(3, .long y1), (0, p_rf g o0), (1, .int i1), (2, .int i2), (5, .long l5)]) C dX11_right_86 5 rfl k_i1 (by decide) (fun _ => rfl) (fun x2 => ?_)
      refine r_goto (tgt := 66) C dX11_right_89 (by decide) ?_
      refine r_perm (lv' := [(0, p_rf g o0), (1, .int i1), (2, .int i2), (3, .long y1), (5, .long l5), (7, .int x2)]) [2, 3, 4, 1, 5, 0] rfl ?_
      exact ih y1 x2 h
set_option maxRecDepth 100000 in
set_option maxHeartbeats 4000000 in
theorem tcX11_right (l : Launch) (g : WG) (hg : p_al g = false) (o0 : Nat) (i1 : Int32) (i2 : Int32) (h : PH) : CT l g 3 0 0 yX11_right cX11_right 8 (some .int) em_i [p_rf g o0, .int i1, .int i2] h (fX11_right o0 i1 i2 h) := by
  refine CT_of (own := RX11) (nm := "right") (by decide +kernel) (Nat.le_of_ble_eq_true rfl) rfl rfl rfl ⟨rfl, rfl⟩ (fun K hK C => ?_)
  subst hK
  unfold fX11_right
  show VX K g _ _ _ _ _ [(0, p_rf g o0), (1, .int i1), (2, .int i2)] _ _ _
  refine r_iload_n C dX11_right_0 1 rfl ?_
  refine r_iconst C dX11_right_1 k_i1 ?_
  refine r_bipush C dX11_right_2 k_b8 ?_
  refine r_csi (As := [.int i1, .int (1 : Int32), .int (8 : Int32)]) (st := []) C ws_X11_164 (tcX11_within K.2.1 g hg i1 (1 : Int32) (8 : Int32) h) (Nat.le_of_ble_eq_true rfl) rfl rfl (Nat.le_of_ble_eq_true rfl) dX11_right_4 ⟨Nat.le_of_ble_eq_true rfl, Nat.le_of_ble_eq_true rfl⟩ (fun x1 h2 => ?_)
  refine r_if_eq (tgt := 20) C dX11_right_7 (by decide) ?_ ?_
  · refine r_iconst C dX11_right_20 k_im1 ?_
    exact r_iret C dX11_right_21
  · refine r_iload_n C dX11_right_10 2 rfl ?_
    refine r_iconst C dX11_right_11 k_i0 ?_
    refine r_bipush C dX11_right_12 k_b8 ?_
    refine r_csi (As := [.int i2, .int (0 : Int32), .int (8 : Int32)]) (st := []) C ws_X11_164 (tcX11_within K.2.1 g hg i2 (0 : Int32) (8 : Int32) h2) (Nat.le_of_ble_eq_true rfl) rfl rfl (Nat.le_of_ble_eq_true rfl) dX11_right_14 ⟨Nat.le_of_ble_eq_true rfl, Nat.le_of_ble_eq_true rfl⟩ (fun x3 h4 => ?_)
    refine r_if_ne (tgt := 22) C dX11_right_17 (by decide) ?_ ?_
    · refine r_iload_n C dX11_right_22 2 rfl ?_
      refine r_iload_n C dX11_right_23 1 rfl ?_
      refine r_icmp_le (tgt := 35) C dX11_right_24 (by decide) ?_ ?_
      · refine r_lconst (v := (1 : Int64)) C dX11_right_35 (by decide) ?_
        refine r_lstore_n (lv9 := [(3, .long (1 : Int64)), (0, p_rf g o0), (1, .int i1), (2, .int i2)]) C dX11_right_36 (by decide) rfl ?_
        refine r_lconst (v := (1 : Int64)) C dX11_right_37 (by decide) ?_
        refine r_lstore (lv9 := [(5, .long (1 : Int64)), (3, .long (1 : Int64)), (0, p_rf g o0), (1, .int i1), (2, .int i2)]) C dX11_right_38 (by decide) rfl ?_
        refine r_iconst C dX11_right_40 k_i1 ?_
        refine r_istore (lv9 := [(7, .int (1 : Int32)), (5, .long (1 : Int64)), (3, .long (1 : Int64)), (0, p_rf g o0), (1, .int i1), (2, .int i2)]) C dX11_right_41 (by decide) rfl ?_
        refine r_perm (lv' := [(0, p_rf g o0), (1, .int i1), (2, .int i2), (3, .long (1 : Int64)), (5, .long (1 : Int64)), (7, .int (1 : Int32))]) [3, 4, 5, 2, 1, 0] rfl ?_
        refine tX11_right_L43 hg C o0 i1 i2 (1 : Int64) (fun y5 h6 => ?_) FU (1 : Int64) (1 : Int32) h4
        refine r_iconst C dX11_right_63 k_i1 ?_
        refine r_istore (lv9 := [(7, .int (1 : Int32)), (0, p_rf g o0), (1, .int i1), (2, .int i2), (3, .long (1 : Int64)), (5, .long y5)]) C dX11_right_64 (by decide) rfl ?_
        refine r_perm (lv' := [(0, p_rf g o0), (1, .int i1), (2, .int i2), (3, .long (1 : Int64)), (5, .long y5), (7, .int (1 : Int32))]) [1, 2, 3, 4, 5, 0] rfl ?_
        refine tX11_right_L66 hg C o0 i1 i2 y5 (fun y7 h8 => ?_) FU (1 : Int64) (1 : Int32) h6
        refine r_aload_n C dX11_right_92 0 rfl ?_
        refine r_lload_n C dX11_right_93 3 rfl ?_
        refine r_iload_n C dX11_right_94 1 rfl ?_
        refine r_iload_n C dX11_right_95 2 rfl ?_
        refine r_isub C dX11_right_96 ?_
        refine r_csl (As := [.int (i1 - i2)]) (st := [.long y7, p_rf g o0]) C ws_X11_372 (tcX11_allAstray K.2.1 g hg (i1 - i2) h8) (Nat.le_of_ble_eq_true rfl) rfl rfl (Nat.le_of_ble_eq_true rfl) dX11_right_97 ⟨Nat.le_of_ble_eq_true rfl, Nat.le_of_ble_eq_true rfl⟩ (fun y9 h10 => ?_)
        refine r_lmul C dX11_right_100 ?_
        refine r_lload C dX11_right_101 4 rfl ?_
        refine r_cvv (As := [.long (y7 * y9), .long y5]) (st := []) C wv_X11_368 (tcX11_tellFraction K.2.1 g hg o0 (y7 * y9) y5 h10) (Nat.le_of_ble_eq_true rfl) rfl rfl (Nat.le_of_ble_eq_true rfl) dX11_right_103 ⟨Nat.le_of_ble_eq_true rfl, Nat.le_of_ble_eq_true rfl⟩ (fun h11 => ?_)
        refine r_iconst C dX11_right_106 k_i0 ?_
        exact r_iret C dX11_right_107
      · refine r_aload_n C dX11_right_27 0 rfl ?_
        refine r_lconst (v := (0 : Int64)) C dX11_right_28 (by decide) ?_
        refine r_lconst (v := (1 : Int64)) C dX11_right_29 (by decide) ?_
        refine r_cvv (As := [.long (0 : Int64), .long (1 : Int64)]) (st := []) C wv_X11_368 (tcX11_tellFraction K.2.1 g hg o0 (0 : Int64) (1 : Int64) h4) (Nat.le_of_ble_eq_true rfl) rfl rfl (Nat.le_of_ble_eq_true rfl) dX11_right_30 ⟨Nat.le_of_ble_eq_true rfl, Nat.le_of_ble_eq_true rfl⟩ (fun h12 => ?_)
        refine r_iconst C dX11_right_33 k_i0 ?_
        exact r_iret C dX11_right_34
    · refine r_iconst C dX11_right_20 k_im1 ?_
      exact r_iret C dX11_right_21
set_option maxRecDepth 100000 in
set_option maxHeartbeats 4000000 in
theorem tX11_drawings_L5 {K : AC} {g : WG} (hg : p_al g = false)  (C : Cx K g cX11_drawings 5 RX11 (some .long) "drawings" 1 0 0) (i0 : Int32) (i1 : Int32) {kx : Int64 → PH → Option (Int64 × PH)} (hk : ∀ (l2 : Int64) (h : PH), VX K g 5 0 0 (a_fin K g 0 0 em_l) 29 [(2, .long l2)] [] h (kx l2 h)) : ∀ (n : Nat) (l2 : Int64) (i4 : Int32) (h : PH), VX K g 5 0 0 (a_fin K g 0 0 em_l) 5 [(0, .int i0), (1, .int i1), (2, .long l2), (4, .int i4)] [] h (fX11_drawings_L5 i0 i1 kx n l2 i4 h) := by
  intro n
  induction n with
  | zero =>
    intros
    exact r_none
  | succ n ih =>
    intro l2 i4 h
    rw [fX11_drawings_L5]
    refine r_iload C dX11_drawings_5 3 rfl ?_
    refine r_iload_n C dX11_drawings_7 1 rfl ?_
    refine r_icmp_ge (tgt := 29) C dX11_drawings_8 (by decide) ?_ ?_
    · refine r_perm (lv' := [(2, .long l2)]) [2] rfl ?_
      exact hk l2 h
    · refine r_lload_n C dX11_drawings_11 2 rfl ?_
      refine r_iconst C dX11_drawings_12 k_i0 ?_
      refine r_iload_n C dX11_drawings_13 0 rfl ?_
      refine r_iload C dX11_drawings_14 3 rfl ?_
      refine r_isub C dX11_drawings_16 ?_
      refine r_topi (fun x1 => ?_)
      refine r_max C wm_X11_359 (Nat.le_of_ble_eq_true rfl) (Nat.le_of_ble_eq_true rfl) ⟨Nat.le_of_ble_eq_true rfl, Nat.le_of_ble_eq_true rfl⟩ dX11_drawings_17 ?_
      refine r_i2l C dX11_drawings_20 ?_
      refine r_lmul C dX11_drawings_21 ?_
      refine r_topl (fun y2 => ?_)
      refine r_lstore_n (lv9 := [(2, .long y2), (0, .int i0), (1, .int i1), (4, .int i4)]) C dX11_drawings_22 (by decide) rfl ?_
      refine r_iinc (lv' := [(2, .long y2), (0, .int i0), (1, .int i1)]) C dX11_drawings_23 3 rfl k_i1 (by decide) (fun _ => rfl) (fun x3 => ?_)
      refine r_goto (tgt := 5) C dX11_drawings_26 (by decide) ?_
      refine r_perm (lv' := [(0, .int i0), (1, .int i1), (2, .long y2), (4, .int x3)]) [2, 3, 1, 0] rfl ?_
      exact ih y2 x3 h
set_option maxRecDepth 100000 in
set_option maxHeartbeats 4000000 in
theorem tcX11_drawings (l : Launch) (g : WG) (hg : p_al g = false) (i0 : Int32) (i1 : Int32) (h : PH) : CT l g 1 0 0 yX11_drawings cX11_drawings 5 (some .long) em_l [.int i0, .int i1] h (fX11_drawings i0 i1 h) := by
  refine CT_of (own := RX11) (nm := "drawings") (by decide +kernel) (Nat.le_of_ble_eq_true rfl) rfl rfl rfl ⟨rfl, rfl⟩ (fun K hK C => ?_)
  subst hK
  unfold fX11_drawings
  show VX K g _ _ _ _ _ [(0, .int i0), (1, .int i1)] _ _ _
  refine r_lconst (v := (1 : Int64)) C dX11_drawings_0 (by decide) ?_
  refine r_lstore_n (lv9 := [(2, .long (1 : Int64)), (0, .int i0), (1, .int i1)]) C dX11_drawings_1 (by decide) rfl ?_
  refine r_iconst C dX11_drawings_2 k_i0 ?_
  refine r_istore (lv9 := [(4, .int (0 : Int32)), (2, .long (1 : Int64)), (0, .int i0), (1, .int i1)]) C dX11_drawings_3 (by decide) rfl ?_
  refine r_perm (lv' := [(0, .int i0), (1, .int i1), (2, .long (1 : Int64)), (4, .int (0 : Int32))]) [2, 3, 1, 0] rfl ?_
  refine tX11_drawings_L5 hg C i0 i1 (fun y1 h2 => ?_) FU (1 : Int64) (0 : Int32) h
  refine r_lload_n C dX11_drawings_29 0 rfl ?_
  exact r_lret C dX11_drawings_30
set_option maxRecDepth 100000 in
set_option maxHeartbeats 4000000 in
theorem tX11_same_L32 {K : AC} {g : WG} (hg : p_al g = false)  (C : Cx K g cX11_same 6 RX11 (some .int) "same" 3 0 0) (o0 : Nat) (i1 : Int32) (i2 : Int32) {kx : Int64 → PH → Option (Int32 × PH)} (hk : ∀ (l3 : Int64) (h : PH), VX K g 6 0 0 (a_fin K g 0 0 em_i) 66 [(0, p_rf g o0), (1, .int i1), (2, .int i2), (3, .long l3)] [] h (kx l3 h)) : ∀ (n : Nat) (l3 : Int64) (i5 : Int32) (h : PH), VX K g 6 0 0 (a_fin K g 0 0 em_i) 32 [(0, p_rf g o0), (1, .int i1), (2, .int i2), (3, .long l3), (5, .int i5)] [] h (fX11_same_L32 o0 i1 i2 kx n l3 i5 h) := by
  intro n
  induction n with
  | zero =>
    intros
    exact r_none
  | succ n ih =>
    intro l3 i5 h
    rw [fX11_same_L32]
    refine r_iload C dX11_same_32 4 rfl ?_
    refine r_aload_n C dX11_same_34 0 rfl ?_
    refine r_gr C wf_X11_73_10 dX11_same_35 (fun q1 => ?_)
    refine r_cvi (As := []) (st := [.int i5]) C wv_X11_98 (tcX0_groundSize K.2.1 g hg q1 h) (Nat.le_of_ble_eq_true rfl) rfl rfl (Nat.le_of_ble_eq_true rfl) dX11_same_38 ⟨Nat.le_of_ble_eq_true rfl, Nat.le_of_ble_eq_true rfl⟩ (fun x2 h3 => ?_)
    refine r_icmp_ge (tgt := 66) C dX11_same_41 (by decide) ?_ ?_
    · refine r_perm (lv' := [(0, p_rf g o0), (1, .int i1), (2, .int i2), (3, .long l3)]) [0, 1, 2, 3] rfl ?_
      exact hk l3 h3
    · refine r_lload_n C dX11_same_44 3 rfl ?_
      refine r_aload_n C dX11_same_45 0 rfl ?_
      refine r_gr C wf_X11_77_10 dX11_same_46 (fun q4 => ?_)
      refine r_iload C dX11_same_49 4 rfl ?_
      refine r_cvi (As := [.int i5]) (st := [.long l3]) C wv_X11_174 (tcX8_stockOf K.2.1 g hg q4 i5 h3) (Nat.le_of_ble_eq_true rfl) rfl rfl (Nat.le_of_ble_eq_true rfl) dX11_same_51 ⟨Nat.le_of_ble_eq_true rfl, Nat.le_of_ble_eq_true rfl⟩ (fun x5 h6 => ?_)
      refine r_iload_n C dX11_same_54 1 rfl ?_
      refine r_csl (As := [.int x5, .int i1]) (st := [.long l3]) C ws_X11_376 (tcX11_drawings K.2.1 g hg x5 i1 h6) (Nat.le_of_ble_eq_true rfl) rfl rfl (Nat.le_of_ble_eq_true rfl) dX11_same_55 ⟨Nat.le_of_ble_eq_true rfl, Nat.le_of_ble_eq_true rfl⟩ (fun y7 h8 => ?_)
      refine r_ladd C dX11_same_58 ?_
      refine r_topl (fun y9 => ?_)
      refine r_lstore_n (lv9 := [(3, .long y9), (0, p_rf g o0), (1, .int i1), (2, .int i2), (5, .int i5)]) C dX11_same_59 (by decide) rfl ?_
      refine r_iinc (lv' := [(3, .long y9), (0, p_rf g o0), (1, .int i1), (2, .int i2)]) C dX11_same_60 4 rfl k_i1 (by decide) (fun _ => rfl) (fun x10 => ?_)
      refine r_goto (tgt := 32) C dX11_same_63 (by decide) ?_
      refine r_perm (lv' := [(0, p_rf g o0), (1, .int i1), (2, .int i2), (3, .long y9), (5, .int x10)]) [2, 3, 4, 1, 0] rfl ?_
      exact ih y9 x10 h8
set_option maxRecDepth 100000 in
set_option maxHeartbeats 4000000 in
theorem tcX11_same (l : Launch) (g : WG) (hg : p_al g = false) (o0 : Nat) (i1 : Int32) (h : PH) : CT l g 3 0 0 yX11_same cX11_same 6 (some .int) em_i [p_rf g o0, .int i1] h (fX11_same o0 i1 h) := by
  refine CT_of (own := RX11) (nm := "same") (by decide +kernel) (Nat.le_of_ble_eq_true rfl) rfl rfl rfl ⟨rfl, rfl⟩ (fun K hK C => ?_)
  subst hK
  unfold fX11_same
  show VX K g _ _ _ _ _ [(0, p_rf g o0), (1, .int i1)] _ _ _
  refine r_iload_n C dX11_same_0 1 rfl ?_
  refine r_iconst C dX11_same_1 k_i1 ?_
  refine r_iconst C dX11_same_2 k_i4 ?_
  refine r_csi (As := [.int i1, .int (1 : Int32), .int (4 : Int32)]) (st := []) C ws_X11_164 (tcX11_within K.2.1 g hg i1 (1 : Int32) (4 : Int32) h) (Nat.le_of_ble_eq_true rfl) rfl rfl (Nat.le_of_ble_eq_true rfl) dX11_same_3 ⟨Nat.le_of_ble_eq_true rfl, Nat.le_of_ble_eq_true rfl⟩ (fun x1 h2 => ?_)
  refine r_if_ne (tgt := 11) C dX11_same_6 (by decide) ?_ ?_
  · refine r_aload_n C dX11_same_11 0 rfl ?_
    refine r_gr C wf_X11_77_10 dX11_same_12 (fun q3 => ?_)
    refine r_cvi (As := []) (st := []) C wv_X11_213 (tcX8_stockOfAll K.2.1 g hg q3 h2) (Nat.le_of_ble_eq_true rfl) rfl rfl (Nat.le_of_ble_eq_true rfl) dX11_same_15 ⟨Nat.le_of_ble_eq_true rfl, Nat.le_of_ble_eq_true rfl⟩ (fun x4 h5 => ?_)
    refine r_istore_n (lv9 := [(2, .int x4), (0, p_rf g o0), (1, .int i1)]) C dX11_same_18 (by decide) rfl ?_
    refine r_iload_n C dX11_same_19 0 rfl ?_
    refine r_iload_n C dX11_same_20 2 rfl ?_
    refine r_icmp_ge (tgt := 27) C dX11_same_21 (by decide) ?_ ?_
    · refine r_lconst (v := (0 : Int64)) C dX11_same_27 (by decide) ?_
      refine r_lstore_n (lv9 := [(3, .long (0 : Int64)), (2, .int x4), (0, p_rf g o0), (1, .int i1)]) C dX11_same_28 (by decide) rfl ?_
      refine r_iconst C dX11_same_29 k_i0 ?_
      refine r_istore (lv9 := [(5, .int (0 : Int32)), (3, .long (0 : Int64)), (2, .int x4), (0, p_rf g o0), (1, .int i1)]) C dX11_same_30 (by decide) rfl ?_
      refine r_perm (lv' := [(0, p_rf g o0), (1, .int i1), (2, .int x4), (3, .long (0 : Int64)), (5, .int (0 : Int32))]) [3, 4, 2, 1, 0] rfl ?_
      refine tX11_same_L32 hg C o0 i1 x4 (fun y6 h7 => ?_) FU (0 : Int64) (0 : Int32) h5
      refine r_aload_n C dX11_same_66 0 rfl ?_
      refine r_lload_n C dX11_same_67 3 rfl ?_
      refine r_iload_n C dX11_same_68 2 rfl ?_
      refine r_iload_n C dX11_same_69 1 rfl ?_
      refine r_csl (As := [.int x4, .int i1]) (st := [.long y6, p_rf g o0]) C ws_X11_376 (tcX11_drawings K.2.1 g hg x4 i1 h7) (Nat.le_of_ble_eq_true rfl) rfl rfl (Nat.le_of_ble_eq_true rfl) dX11_same_70 ⟨Nat.le_of_ble_eq_true rfl, Nat.le_of_ble_eq_true rfl⟩ (fun y8 h9 => ?_)
      refine r_cvv (As := [.long y6, .long y8]) (st := []) C wv_X11_368 (tcX11_tellFraction K.2.1 g hg o0 y6 y8 h9) (Nat.le_of_ble_eq_true rfl) rfl rfl (Nat.le_of_ble_eq_true rfl) dX11_same_73 ⟨Nat.le_of_ble_eq_true rfl, Nat.le_of_ble_eq_true rfl⟩ (fun h10 => ?_)
      refine r_iconst C dX11_same_76 k_i0 ?_
      exact r_iret C dX11_same_77
    · refine r_bipush C dX11_same_24 k_bm2 ?_
      exact r_iret C dX11_same_26
  · refine r_iconst C dX11_same_9 k_im1 ?_
    exact r_iret C dX11_same_10
set_option maxRecDepth 100000 in
set_option maxHeartbeats 4000000 in
theorem tX11_clerkStays_J9 {K : AC} {g : WG} (hg : p_al g = false)  (C : Cx K g cX11_clerkStays 2 RX11 (some .boolean) "clerkStays" 1 0 0)   (h : PH) : VX K g 2 0 0 (a_fin K g 0 0 em_i) 9 [] [] h (fX11_clerkStays_J9  h) := by
  unfold fX11_clerkStays_J9
  refine r_iconst C dX11_clerkStays_9 k_i1 ?_
  refine r_goto (tgt := 14) C dX11_clerkStays_10 (by decide) ?_
  exact r_zret C dX11_clerkStays_14
set_option maxRecDepth 100000 in
set_option maxHeartbeats 4000000 in
theorem tcX11_clerkStays (l : Launch) (g : WG) (hg : p_al g = false) (i0 : Int32) (i1 : Int32) (h : PH) : CT l g 1 0 0 yX11_clerkStays cX11_clerkStays 2 (some .boolean) em_i [.int i0, .int i1] h (fX11_clerkStays i0 i1 h) := by
  refine CT_of (own := RX11) (nm := "clerkStays") (by decide +kernel) (Nat.le_of_ble_eq_true rfl) rfl rfl rfl ⟨rfl, rfl⟩ (fun K hK C => ?_)
  subst hK
  unfold fX11_clerkStays
  show VX K g _ _ _ _ _ [(0, .int i0), (1, .int i1)] _ _ _
  refine r_iload_n C dX11_clerkStays_0 1 rfl ?_
  refine r_if_eq (tgt := 9) C dX11_clerkStays_1 (by decide) ?_ ?_
  · refine r_perm (lv' := []) [] rfl ?_
    exact tX11_clerkStays_J9 hg C  h
  · refine r_iload_n C dX11_clerkStays_4 0 rfl ?_
    refine r_iload_n C dX11_clerkStays_5 1 rfl ?_
    refine r_icmp_ne (tgt := 13) C dX11_clerkStays_6 (by decide) ?_ ?_
    · refine r_iconst C dX11_clerkStays_13 k_i0 ?_
      exact r_zret C dX11_clerkStays_14
    · refine r_perm (lv' := []) [] rfl ?_
      exact tX11_clerkStays_J9 hg C  h
set_option maxRecDepth 100000 in
set_option maxHeartbeats 4000000 in
theorem tX11_manStays_J37_19 {K : AC} {g : WG} (hg : p_al g = false)  (C : Cx K g cX11_manStays 6 RX11 (some .boolean) "manStays" 1 0 0) (i0 : Int32) (i2 : Int32) (i3 : Int32) (i4 : Int32) (i5 : Int32) (s0 : Int32)    {rc : Int32 → PH → Option (Int32 × PH)} {kx : PH → Option (Int32 × PH)} (hr : ∀ (i5' : Int32) (h : PH), VX K g 6 0 0 (a_fin K g 0 0 em_i) 19 [(0, .int i0), (2, .int i2), (3, .int i3), (4, .int i4), (5, .int i5')] [] h (rc i5' h)) (hk : ∀  (h : PH), VX K g 6 0 0 (a_fin K g 0 0 em_i) 55 [] [] h (kx  h)) (h : PH) : VX K g 6 0 0 (a_fin K g 0 0 em_i) 37 [(0, .int i0), (2, .int i2), (3, .int i3), (4, .int i4), (5, .int i5)] [.int s0] h (fX11_manStays_J37_19 rc kx i0 i2 i3 i4 i5 s0 h) := by
  unfold fX11_manStays_J37_19
  refine r_iload_n C dX11_manStays_37 2 rfl ?_
  refine r_iload C dX11_manStays_38 4 rfl ?_
  refine r_imul C dX11_manStays_40 ?_
  refine r_isub C dX11_manStays_41 ?_
  refine r_iload C dX11_manStays_42 3 rfl ?_
  refine r_icmp_le (tgt := 49) C dX11_manStays_44 (by decide) ?_ ?_
  · refine r_iinc (lv' := [(0, .int i0), (2, .int i2), (3, .int i3), (4, .int i4)]) C dX11_manStays_49 4 rfl k_i1 (by decide) (fun _ => rfl) (fun x1 => ?_)
    refine r_goto (tgt := 19) C dX11_manStays_52 (by decide) ?_
    refine r_perm (lv' := [(0, .int i0), (2, .int i2), (3, .int i3), (4, .int i4), (5, .int x1)]) [1, 2, 3, 4, 0] rfl ?_
    exact hr x1 h
  · refine r_iconst C dX11_manStays_47 k_i0 ?_
    exact r_zret C dX11_manStays_48
set_option maxRecDepth 100000 in
set_option maxHeartbeats 4000000 in
theorem tX11_manStays_L19 {K : AC} {g : WG} (hg : p_al g = false)  (C : Cx K g cX11_manStays 6 RX11 (some .boolean) "manStays" 1 0 0) (i0 : Int32) (i2 : Int32) (i3 : Int32) (i4 : Int32) {kx : PH → Option (Int32 × PH)} (hk : ∀  (h : PH), VX K g 6 0 0 (a_fin K g 0 0 em_i) 55 [] [] h (kx h)) : ∀ (n : Nat) (i5 : Int32) (h : PH), VX K g 6 0 0 (a_fin K g 0 0 em_i) 19 [(0, .int i0), (2, .int i2), (3, .int i3), (4, .int i4), (5, .int i5)] [] h (fX11_manStays_L19 i0 i2 i3 i4 kx n i5 h) := by
  intro n
  induction n with
  | zero =>
    intros
    exact r_none
  | succ n ih =>
    intro i5 h
    rw [fX11_manStays_L19]
    refine r_iload C dX11_manStays_19 4 rfl ?_
    refine r_bipush C dX11_manStays_21 k_b9 ?_
    refine r_icmp_gt (tgt := 55) C dX11_manStays_23 (by decide) ?_ ?_
    · refine r_perm (lv' := []) [] rfl ?_
      exact hk h
    · refine r_iload C dX11_manStays_26 4 rfl ?_
      refine r_iload_n C dX11_manStays_28 0 rfl ?_
      refine r_icmp_lt (tgt := 36) C dX11_manStays_29 (by decide) ?_ ?_
      · refine r_iconst C dX11_manStays_36 k_i0 ?_
        exact tX11_manStays_J37_19 hg C i0 i2 i3 i4 i5 (0 : Int32) ih hk h
      · refine r_iload_n C dX11_manStays_32 1 rfl ?_
        refine r_goto (tgt := 37) C dX11_manStays_33 (by decide) ?_
        exact tX11_manStays_J37_19 hg C i0 i2 i3 i4 i5 i2 ih hk h
set_option maxRecDepth 100000 in
set_option maxHeartbeats 4000000 in
theorem tX11_manStays_J10 {K : AC} {g : WG} (hg : p_al g = false)  (C : Cx K g cX11_manStays 6 RX11 (some .boolean) "manStays" 1 0 0) (i0 : Int32) (i1 : Int32) (i2 : Int32) (i3 : Int32) (s0 : Int32)  (h : PH) : VX K g 6 0 0 (a_fin K g 0 0 em_i) 10 [(0, .int i0), (1, .int i1), (2, .int i2), (3, .int i3)] [.int s0] h (fX11_manStays_J10 i0 i1 i2 i3 s0 h) := by
  unfold fX11_manStays_J10
  refine r_iload_n C dX11_manStays_10 3 rfl ?_
  refine r_iload_n C dX11_manStays_11 1 rfl ?_
  refine r_imul C dX11_manStays_12 ?_
  refine r_isub C dX11_manStays_13 ?_
  refine r_topi (fun x1 => ?_)
  refine r_istore (lv9 := [(4, .int x1), (0, .int i0), (1, .int i1), (2, .int i2), (3, .int i3)]) C dX11_manStays_14 (by decide) rfl ?_
  refine r_iconst C dX11_manStays_16 k_i0 ?_
  refine r_istore (lv9 := [(5, .int (0 : Int32)), (4, .int x1), (0, .int i0), (1, .int i1), (2, .int i2), (3, .int i3)]) C dX11_manStays_17 (by decide) rfl ?_
  refine r_perm (lv' := [(0, .int i0), (2, .int i2), (3, .int i3), (4, .int x1), (5, .int (0 : Int32))]) [2, 4, 5, 1, 0] rfl ?_
  refine tX11_manStays_L19 hg C i0 i2 i3 x1 (fun h2 => ?_) FU (0 : Int32) h
  refine r_iconst C dX11_manStays_55 k_i1 ?_
  exact r_zret C dX11_manStays_56
set_option maxRecDepth 100000 in
set_option maxHeartbeats 4000000 in
theorem tcX11_manStays (l : Launch) (g : WG) (hg : p_al g = false) (i0 : Int32) (i1 : Int32) (i2 : Int32) (i3 : Int32) (h : PH) : CT l g 1 0 0 yX11_manStays cX11_manStays 6 (some .boolean) em_i [.int i0, .int i1, .int i2, .int i3] h (fX11_manStays i0 i1 i2 i3 h) := by
  refine CT_of (own := RX11) (nm := "manStays") (by decide +kernel) (Nat.le_of_ble_eq_true rfl) rfl rfl rfl ⟨rfl, rfl⟩ (fun K hK C => ?_)
  subst hK
  unfold fX11_manStays
  show VX K g _ _ _ _ _ [(0, .int i0), (1, .int i1), (2, .int i2), (3, .int i3)] _ _ _
  refine r_iload_n C dX11_manStays_0 1 rfl ?_
  refine r_iload_n C dX11_manStays_1 0 rfl ?_
  refine r_icmp_lt (tgt := 9) C dX11_manStays_2 (by decide) ?_ ?_
  · refine r_iconst C dX11_manStays_9 k_i0 ?_
    exact tX11_manStays_J10 hg C i0 i1 i2 i3 (0 : Int32) h
  · refine r_iload_n C dX11_manStays_5 2 rfl ?_
    refine r_goto (tgt := 10) C dX11_manStays_6 (by decide) ?_
    exact tX11_manStays_J10 hg C i0 i1 i2 i3 i2 h
set_option maxRecDepth 100000 in
set_option maxHeartbeats 4000000 in
theorem tX11_rests_J84_43 {K : AC} {g : WG} (hg : p_al g = false)  (C : Cx K g cX11_rests 6 RX11 (some .int) "rests" 3 0 0) (o0 : Nat) (i1 : Int32) (i2 : Int32) (i3 : Int32) (i4 : Int32) (i5 : Int32)    {rc : Int32 → Int32 → PH → Option (Int32 × PH)} {kx : Int32 → PH → Option (Int32 × PH)} (hr : ∀ (i3' : Int32) (i5' : Int32) (h : PH), VX K g 6 0 0 (a_fin K g 0 0 em_i) 43 [(0, p_rf g o0), (1, .int i1), (2, .int i2), (3, .int i3'), (4, .int i4), (5, .int i5')] [] h (rc i3' i5' h)) (hk : ∀ (i3' : Int32) (h : PH), VX K g 6 0 0 (a_fin K g 0 0 em_i) 90 [(0, p_rf g o0), (1, .int i1), (2, .int i2), (3, .int i3'), (4, .int i4)] [] h (kx i3' h)) (h : PH) : VX K g 6 0 0 (a_fin K g 0 0 em_i) 84 [(0, p_rf g o0), (1, .int i1), (2, .int i2), (3, .int i3), (4, .int i4), (5, .int i5)] [] h (fX11_rests_J84_43 rc kx o0 i1 i2 i3 i4 i5 h) := by
  unfold fX11_rests_J84_43
  refine r_iinc (lv' := [(0, p_rf g o0), (1, .int i1), (2, .int i2), (3, .int i3), (4, .int i4)]) C dX11_rests_84 5 rfl k_i1 (by decide) (fun _ => rfl) (fun x1 => ?_)
  refine r_goto (tgt := 43) C dX11_rests_87 (by decide) ?_
  refine r_perm (lv' := [(0, p_rf g o0), (1, .int i1), (2, .int i2), (3, .int i3), (4, .int i4), (5, .int x1)]) [1, 2, 3, 4, 5, 0] rfl ?_
  exact hr i3 x1 h
set_option maxRecDepth 100000 in
set_option maxHeartbeats 4000000 in
theorem tX11_rests_L43 {K : AC} {g : WG} (hg : p_al g = false)  (C : Cx K g cX11_rests 6 RX11 (some .int) "rests" 3 0 0) (o0 : Nat) (i1 : Int32) (i2 : Int32) (i4 : Int32) {kx : Int32 → PH → Option (Int32 × PH)} (hk : ∀ (i3 : Int32) (h : PH), VX K g 6 0 0 (a_fin K g 0 0 em_i) 90 [(0, p_rf g o0), (1, .int i1), (2, .int i2), (3, .int i3), (4, .int i4)] [] h (kx i3 h)) : ∀ (n : Nat) (i3 : Int32) (i5 : Int32) (h : PH), VX K g 6 0 0 (a_fin K g 0 0 em_i) 43 [(0, p_rf g o0), (1, .int i1), (2, .int i2), (3, .int i3), (4, .int i4), (5, .int i5)] [] h (fX11_rests_L43 o0 i1 i2 i4 kx n i3 i5 h) := by
  intro n
  induction n with
  | zero =>
    intros
    exact r_none
  | succ n ih =>
    intro i3 i5 h
    rw [fX11_rests_L43]
    refine r_iload C dX11_rests_43 5 rfl ?_
    refine r_bipush C dX11_rests_45 k_b9 ?_
    refine r_icmp_gt (tgt := 90) C dX11_rests_47 (by decide) ?_ ?_
    · refine r_perm (lv' := [(0, p_rf g o0), (1, .int i1), (2, .int i2), (3, .int i3), (4, .int i4)]) [0, 1, 2, 3, 4] rfl ?_
      exact hk i3 h
    · refine r_iload C dX11_rests_50 4 rfl ?_
      refine r_iload C dX11_rests_52 5 rfl ?_
      refine r_csi (As := [.int i4, .int i5]) (st := []) C ws_X11_380 (tcX11_clerkStays K.2.1 g hg i4 i5 h) (Nat.le_of_ble_eq_true rfl) rfl rfl (Nat.le_of_ble_eq_true rfl) dX11_rests_54 ⟨Nat.le_of_ble_eq_true rfl, Nat.le_of_ble_eq_true rfl⟩ (fun x1 h2 => ?_)
      refine r_if_eq (tgt := 84) C dX11_rests_57 (by decide) ?_ ?_
      · exact tX11_rests_J84_43 hg C o0 i1 i2 i3 i4 i5 ih hk h2
      · refine r_iload C dX11_rests_60 4 rfl ?_
        refine r_iload C dX11_rests_62 5 rfl ?_
        refine r_iload_n C dX11_rests_64 1 rfl ?_
        refine r_iload_n C dX11_rests_65 2 rfl ?_
        refine r_csi (As := [.int i4, .int i5, .int i1, .int i2]) (st := []) C ws_X11_383 (tcX11_manStays K.2.1 g hg i4 i5 i1 i2 h2) (Nat.le_of_ble_eq_true rfl) rfl rfl (Nat.le_of_ble_eq_true rfl) dX11_rests_66 ⟨Nat.le_of_ble_eq_true rfl, Nat.le_of_ble_eq_true rfl⟩ (fun x3 h4 => ?_)
        refine r_if_eq (tgt := 84) C dX11_rests_69 (by decide) ?_ ?_
        · exact tX11_rests_J84_43 hg C o0 i1 i2 i3 i4 i5 ih hk h4
        · refine r_aload_n C dX11_rests_72 0 rfl ?_
          refine r_iload_n C dX11_rests_73 3 rfl ?_
          refine r_iload C dX11_rests_74 4 rfl ?_
          refine r_iload C dX11_rests_76 5 rfl ?_
          refine r_cvv (As := [.int i3, .int i4, .int i5]) (st := []) C wv_X11_323 (tcX11_tellFirstPair K.2.1 g hg o0 i3 i4 i5 h4) (Nat.le_of_ble_eq_true rfl) rfl rfl (Nat.le_of_ble_eq_true rfl) dX11_rests_78 ⟨Nat.le_of_ble_eq_true rfl, Nat.le_of_ble_eq_true rfl⟩ (fun h5 => ?_)
          refine r_iinc (lv' := [(0, p_rf g o0), (1, .int i1), (2, .int i2), (4, .int i4), (5, .int i5)]) C dX11_rests_81 3 rfl k_i1 (by decide) (fun _ => rfl) (fun x6 => ?_)
          refine r_perm (lv' := [(0, p_rf g o0), (1, .int i1), (2, .int i2), (3, .int x6), (4, .int i4), (5, .int i5)]) [1, 2, 3, 0, 4, 5] rfl ?_
          exact tX11_rests_J84_43 hg C o0 i1 i2 x6 i4 i5 ih hk h5
set_option maxRecDepth 100000 in
set_option maxHeartbeats 4000000 in
theorem tX11_rests_L33 {K : AC} {g : WG} (hg : p_al g = false)  (C : Cx K g cX11_rests 6 RX11 (some .int) "rests" 3 0 0) (o0 : Nat) (i1 : Int32) (i2 : Int32) {kx : Int32 → PH → Option (Int32 × PH)} (hk : ∀ (i3 : Int32) (h : PH), VX K g 6 0 0 (a_fin K g 0 0 em_i) 96 [(3, .int i3)] [] h (kx i3 h)) : ∀ (n : Nat) (i3 : Int32) (i4 : Int32) (h : PH), VX K g 6 0 0 (a_fin K g 0 0 em_i) 33 [(0, p_rf g o0), (1, .int i1), (2, .int i2), (3, .int i3), (4, .int i4)] [] h (fX11_rests_L33 o0 i1 i2 kx n i3 i4 h) := by
  intro n
  induction n with
  | zero =>
    intros
    exact r_none
  | succ n ih =>
    intro i3 i4 h
    rw [fX11_rests_L33]
    refine r_iload C dX11_rests_33 4 rfl ?_
    refine r_bipush C dX11_rests_35 k_b9 ?_
    refine r_icmp_gt (tgt := 96) C dX11_rests_37 (by decide) ?_ ?_
    · refine r_perm (lv' := [(3, .int i3)]) [3] rfl ?_
      exact hk i3 h
    · refine r_iconst C dX11_rests_40 k_i0 ?_
      refine r_istore (lv9 := [(5, .int (0 : Int32)), (0, p_rf g o0), (1, .int i1), (2, .int i2), (3, .int i3), (4, .int i4)]) C dX11_rests_41 (by decide) rfl ?_
      refine r_perm (lv' := [(0, p_rf g o0), (1, .int i1), (2, .int i2), (3, .int i3), (4, .int i4), (5, .int (0 : Int32))]) [1, 2, 3, 4, 5, 0] rfl ?_
      refine tX11_rests_L43 hg C o0 i1 i2 i4 (fun x1 h2 => ?_) FU i3 (0 : Int32) h
      refine r_iinc (lv' := [(0, p_rf g o0), (1, .int i1), (2, .int i2), (3, .int x1)]) C dX11_rests_90 4 rfl k_i1 (by decide) (fun _ => rfl) (fun x3 => ?_)
      refine r_goto (tgt := 33) C dX11_rests_93 (by decide) ?_
      refine r_perm (lv' := [(0, p_rf g o0), (1, .int i1), (2, .int i2), (3, .int x1), (4, .int x3)]) [1, 2, 3, 4, 0] rfl ?_
      exact ih x1 x3 h2
set_option maxRecDepth 100000 in
set_option maxHeartbeats 4000000 in
theorem tcX11_rests (l : Launch) (g : WG) (hg : p_al g = false) (o0 : Nat) (i1 : Int32) (i2 : Int32) (h : PH) : CT l g 3 0 0 yX11_rests cX11_rests 6 (some .int) em_i [p_rf g o0, .int i1, .int i2] h (fX11_rests o0 i1 i2 h) := by
  refine CT_of (own := RX11) (nm := "rests") (by decide +kernel) (Nat.le_of_ble_eq_true rfl) rfl rfl rfl ⟨rfl, rfl⟩ (fun K hK C => ?_)
  subst hK
  unfold fX11_rests
  show VX K g _ _ _ _ _ [(0, p_rf g o0), (1, .int i1), (2, .int i2)] _ _ _
  refine r_iload_n C dX11_rests_0 1 rfl ?_
  refine r_iconst C dX11_rests_1 k_i0 ?_
  refine r_bipush C dX11_rests_2 k_b20 ?_
  refine r_csi (As := [.int i1, .int (0 : Int32), .int (20 : Int32)]) (st := []) C ws_X11_164 (tcX11_within K.2.1 g hg i1 (0 : Int32) (20 : Int32) h) (Nat.le_of_ble_eq_true rfl) rfl rfl (Nat.le_of_ble_eq_true rfl) dX11_rests_4 ⟨Nat.le_of_ble_eq_true rfl, Nat.le_of_ble_eq_true rfl⟩ (fun x1 h2 => ?_)
  refine r_if_eq (tgt := 19) C dX11_rests_7 (by decide) ?_ ?_
  · refine r_iconst C dX11_rests_19 k_im1 ?_
    exact r_iret C dX11_rests_20
  · refine r_iload_n C dX11_rests_10 2 rfl ?_
    refine r_iconst C dX11_rests_11 k_i0 ?_
    refine r_iconst C dX11_rests_12 k_i5 ?_
    refine r_csi (As := [.int i2, .int (0 : Int32), .int (5 : Int32)]) (st := []) C ws_X11_164 (tcX11_within K.2.1 g hg i2 (0 : Int32) (5 : Int32) h2) (Nat.le_of_ble_eq_true rfl) rfl rfl (Nat.le_of_ble_eq_true rfl) dX11_rests_13 ⟨Nat.le_of_ble_eq_true rfl, Nat.le_of_ble_eq_true rfl⟩ (fun x3 h4 => ?_)
    refine r_if_ne (tgt := 21) C dX11_rests_16 (by decide) ?_ ?_
    · refine r_iconst C dX11_rests_21 k_i0 ?_
      refine r_istore_n (lv9 := [(3, .int (0 : Int32)), (0, p_rf g o0), (1, .int i1), (2, .int i2)]) C dX11_rests_22 (by decide) rfl ?_
      refine r_aload_n C dX11_rests_23 1 rfl ?_
      refine r_gr C wf_X11_69_10 dX11_rests_24 (fun q5 => ?_)
      refine r_cvv (As := []) (st := []) C wv_X11_242 (tcX3_start K.2.1 g hg q5 h4) (Nat.le_of_ble_eq_true rfl) rfl rfl (Nat.le_of_ble_eq_true rfl) dX11_rests_27 ⟨Nat.le_of_ble_eq_true rfl, Nat.le_of_ble_eq_true rfl⟩ (fun h6 => ?_)
      refine r_iconst C dX11_rests_30 k_i0 ?_
      refine r_istore (lv9 := [(4, .int (0 : Int32)), (3, .int (0 : Int32)), (0, p_rf g o0), (1, .int i1), (2, .int i2)]) C dX11_rests_31 (by decide) rfl ?_
      refine r_perm (lv' := [(0, p_rf g o0), (1, .int i1), (2, .int i2), (3, .int (0 : Int32)), (4, .int (0 : Int32))]) [2, 3, 4, 1, 0] rfl ?_
      refine tX11_rests_L33 hg C o0 i1 i2 (fun x7 h8 => ?_) FU (0 : Int32) (0 : Int32) h6
      refine r_iload_n C dX11_rests_96 0 rfl ?_
      exact r_iret C dX11_rests_97
    · refine r_iconst C dX11_rests_19 k_im1 ?_
      exact r_iret C dX11_rests_20
set_option maxRecDepth 100000 in
set_option maxHeartbeats 4000000 in
theorem tcX11_wantsHadBy (l : Launch) (g : WG) (hg : p_al g = false) (o0 : Nat) (o1 : Nat) (h : PH) : CT l g 7 0 0 yX11_wantsHadBy cX11_wantsHadBy 2 (some .int) em_i [p_rf g o0, p_rf g o1] h (fX11_wantsHadBy o0 o1 h) := by
  refine CT_of (own := RX11) (nm := "wantsHadBy") (by decide +kernel) (Nat.le_of_ble_eq_true rfl) rfl rfl rfl ⟨rfl, rfl⟩ (fun K hK C => ?_)
  subst hK
  unfold fX11_wantsHadBy
  show VX K g _ _ _ _ _ [(0, p_rf g o0), (1, p_rf g o1)] _ _ _
  refine r_aload_n C dX11_wantsHadBy_0 0 rfl ?_
  refine r_gr C wf_X11_81_10 dX11_wantsHadBy_1 (fun q1 => ?_)
  refine r_aload_n C dX11_wantsHadBy_4 0 rfl ?_
  refine r_gr C wf_X11_77_10 dX11_wantsHadBy_5 (fun q2 => ?_)
  refine r_cvv (As := [p_rf g q2]) (st := []) C wv_X11_216 (tcX8_copy K.2.1 g hg q1 q2 h) (Nat.le_of_ble_eq_true rfl) rfl rfl (Nat.le_of_ble_eq_true rfl) dX11_wantsHadBy_8 ⟨Nat.le_of_ble_eq_true rfl, Nat.le_of_ble_eq_true rfl⟩ (fun h3 => ?_)
  refine r_aload_n C dX11_wantsHadBy_11 0 rfl ?_
  refine r_gr C wf_X11_81_10 dX11_wantsHadBy_12 (fun q4 => ?_)
  refine r_bipush C dX11_wantsHadBy_15 k_b10 ?_
  refine r_aload_n C dX11_wantsHadBy_17 1 rfl ?_
  refine r_cvv (As := [.int (10 : Int32), p_rf g o1]) (st := []) C wv_X11_302 (tcX8_passAll K.2.1 g hg q4 (10 : Int32) o1 h3) (Nat.le_of_ble_eq_true rfl) rfl rfl (Nat.le_of_ble_eq_true rfl) dX11_wantsHadBy_18 ⟨Nat.le_of_ble_eq_true rfl, Nat.le_of_ble_eq_true rfl⟩ (fun h5 => ?_)
  refine r_aload_n C dX11_wantsHadBy_21 0 rfl ?_
  refine r_gr C wf_X11_81_10 dX11_wantsHadBy_22 (fun q6 => ?_)
  refine r_cvi (As := []) (st := []) C wv_X11_251 (tcX8_wantsOfAll K.2.1 g hg q6 h5) (Nat.le_of_ble_eq_true rfl) rfl rfl (Nat.le_of_ble_eq_true rfl) dX11_wantsHadBy_25 ⟨Nat.le_of_ble_eq_true rfl, Nat.le_of_ble_eq_true rfl⟩ (fun x7 h8 => ?_)
  exact r_iret C dX11_wantsHadBy_28
set_option maxRecDepth 100000 in
set_option maxHeartbeats 4000000 in
theorem tcX11_law (l : Launch) (g : WG) (hg : p_al g = false) (o0 : Nat) (h : PH) : CT l g 9 0 0 yX11_law cX11_law 4 (some .int) em_i [p_rf g o0] h (fX11_law o0 h) := by
  refine CT_of (own := RX11) (nm := "law") (by decide +kernel) (Nat.le_of_ble_eq_true rfl) rfl rfl rfl ⟨rfl, rfl⟩ (fun K hK C => ?_)
  subst hK
  unfold fX11_law
  show VX K g _ _ _ _ _ [(0, p_rf g o0)] _ _ _
  refine r_aload_n C dX11_law_0 0 rfl ?_
  refine r_gr C wf_X11_73_10 dX11_law_1 (fun q1 => ?_)
  refine r_cvr (As := []) (st := []) C wv_X11_148 (tcX0_otherRule K.2.1 g hg q1 h) (Nat.le_of_ble_eq_true rfl) rfl rfl (Nat.le_of_ble_eq_true rfl) dX11_law_4 ⟨Nat.le_of_ble_eq_true rfl, Nat.le_of_ble_eq_true rfl⟩ (fun q2 h3 => ?_)
  refine r_aload_n C dX11_law_7 0 rfl ?_
  refine r_gr C wf_X11_10_10 dX11_law_8 (fun q4 => ?_)
  refine r_cvi (As := [p_rf g q4]) (st := []) C wv_X11_152 (tcX6_read K.2.1 g hg q2 q4 h3) (Nat.le_of_ble_eq_true rfl) rfl rfl (Nat.le_of_ble_eq_true rfl) dX11_law_11 ⟨Nat.le_of_ble_eq_true rfl, Nat.le_of_ble_eq_true rfl⟩ (fun x5 h6 => ?_)
  refine r_istore_n (lv9 := [(1, .int x5), (0, p_rf g o0)]) C dX11_law_14 (by decide) rfl ?_
  refine r_aload_n C dX11_law_15 1 rfl ?_
  refine r_gr C wf_X11_10_10 dX11_law_16 (fun q7 => ?_)
  refine r_iconst C dX11_law_19 k_i0 ?_
  refine r_cvi (As := [.int (0 : Int32)]) (st := []) C wv_X11_92 (tcX7_cut K.2.1 g hg q7 (0 : Int32) h6) (Nat.le_of_ble_eq_true rfl) rfl rfl (Nat.le_of_ble_eq_true rfl) dX11_law_20 ⟨Nat.le_of_ble_eq_true rfl, Nat.le_of_ble_eq_true rfl⟩ (fun x8 h9 => ?_)
  refine r_pop C dX11_law_23 rfl ?_
  refine r_iload_n C dX11_law_24 0 rfl ?_
  refine r_iconst C dX11_law_25 k_im1 ?_
  refine r_icmp_eq (tgt := 35) C dX11_law_26 (by decide) ?_ ?_
  · refine r_aload_n C dX11_law_35 1 rfl ?_
    refine r_aload_n C dX11_law_36 1 rfl ?_
    refine r_gr C wf_X11_73_10 dX11_law_37 (fun q10 => ?_)
    refine r_cvr (As := []) (st := [p_rf g o0]) C wv_X11_148 (tcX0_otherRule K.2.1 g hg q10 h9) (Nat.le_of_ble_eq_true rfl) rfl rfl (Nat.le_of_ble_eq_true rfl) dX11_law_40 ⟨Nat.le_of_ble_eq_true rfl, Nat.le_of_ble_eq_true rfl⟩ (fun q11 h12 => ?_)
    refine r_cvi (As := [p_rf g q11]) (st := []) C wv_X11_387 (tcX11_wantsHadBy K.2.1 g hg o0 q11 h12) (Nat.le_of_ble_eq_true rfl) rfl rfl (Nat.le_of_ble_eq_true rfl) dX11_law_43 ⟨Nat.le_of_ble_eq_true rfl, Nat.le_of_ble_eq_true rfl⟩ (fun x13 h14 => ?_)
    refine r_istore_n (lv9 := [(2, .int x13), (1, .int x5), (0, p_rf g o0)]) C dX11_law_46 (by decide) rfl ?_
    refine r_aload_n C dX11_law_47 2 rfl ?_
    refine r_aload_n C dX11_law_48 2 rfl ?_
    refine r_gr C wf_X11_73_10 dX11_law_49 (fun q15 => ?_)
    refine r_cvr (As := []) (st := [p_rf g o0]) C wv_X11_235 (tcX0_presentRule K.2.1 g hg q15 h14) (Nat.le_of_ble_eq_true rfl) rfl rfl (Nat.le_of_ble_eq_true rfl) dX11_law_52 ⟨Nat.le_of_ble_eq_true rfl, Nat.le_of_ble_eq_true rfl⟩ (fun q16 h17 => ?_)
    refine r_cvi (As := [p_rf g q16]) (st := []) C wv_X11_387 (tcX11_wantsHadBy K.2.1 g hg o0 q16 h17) (Nat.le_of_ble_eq_true rfl) rfl rfl (Nat.le_of_ble_eq_true rfl) dX11_law_55 ⟨Nat.le_of_ble_eq_true rfl, Nat.le_of_ble_eq_true rfl⟩ (fun x18 h19 => ?_)
    refine r_istore_n (lv9 := [(3, .int x18), (2, .int x13), (1, .int x5), (0, p_rf g o0)]) C dX11_law_58 (by decide) rfl ?_
    refine r_aload_n C dX11_law_59 3 rfl ?_
    refine r_gr C wf_X11_69_10 dX11_law_60 (fun q20 => ?_)
    refine r_cvv (As := []) (st := []) C wv_X11_242 (tcX3_start K.2.1 g hg q20 h19) (Nat.le_of_ble_eq_true rfl) rfl rfl (Nat.le_of_ble_eq_true rfl) dX11_law_63 ⟨Nat.le_of_ble_eq_true rfl, Nat.le_of_ble_eq_true rfl⟩ (fun h21 => ?_)
    refine r_aload_n C dX11_law_66 3 rfl ?_
    refine r_gr C wf_X11_69_10 dX11_law_67 (fun q22 => ?_)
    refine r_iload_n C dX11_law_70 1 rfl ?_
    refine r_i2l C dX11_law_71 ?_
    refine r_cvv (As := [.long (x13.toInt64)]) (st := []) C wv_X11_248 (tcX3_add K.2.1 g hg q22 (x13.toInt64) h21) (Nat.le_of_ble_eq_true rfl) rfl rfl (Nat.le_of_ble_eq_true rfl) dX11_law_72 ⟨Nat.le_of_ble_eq_true rfl, Nat.le_of_ble_eq_true rfl⟩ (fun h23 => ?_)
    refine r_aload_n C dX11_law_75 3 rfl ?_
    refine r_gr C wf_X11_69_10 dX11_law_76 (fun q24 => ?_)
    refine r_iload_n C dX11_law_79 0 rfl ?_
    refine r_i2l C dX11_law_80 ?_
    refine r_cvv (As := [.long (x18.toInt64)]) (st := []) C wv_X11_248 (tcX3_add K.2.1 g hg q24 (x18.toInt64) h23) (Nat.le_of_ble_eq_true rfl) rfl rfl (Nat.le_of_ble_eq_true rfl) dX11_law_81 ⟨Nat.le_of_ble_eq_true rfl, Nat.le_of_ble_eq_true rfl⟩ (fun h25 => ?_)
    refine r_iload_n C dX11_law_84 1 rfl ?_
    refine r_iload_n C dX11_law_85 0 rfl ?_
    refine r_isub C dX11_law_86 ?_
    exact r_iret C dX11_law_87
  · refine r_sipush C dX11_law_29 k_sm10000 ?_
    refine r_iload_n C dX11_law_32 0 rfl ?_
    refine r_isub C dX11_law_33 ?_
    exact r_iret C dX11_law_34
set_option maxRecDepth 100000 in
set_option maxHeartbeats 4000000 in
theorem tcX11_drawn (l : Launch) (g : WG) (hg : p_al g = false) (i0 : Int32) (h : PH) : CT l g 1 0 0 yX11_drawn cX11_drawn 1 (some .int) em_i [.int i0] h (fX11_drawn i0 h) := by
  refine CT_of (own := RX11) (nm := "drawn") (by decide +kernel) (Nat.le_of_ble_eq_true rfl) rfl rfl rfl ⟨rfl, rfl⟩ (fun K hK C => ?_)
  subst hK
  unfold fX11_drawn
  show VX K g _ _ _ _ _ [(0, .int i0)] _ _ _
  refine r_iload_n C dX11_drawn_0 0 rfl ?_
  refine r_ldcw (v := (1103515245 : Int32)) C dX11_drawn_1 m_1278 ?_
  refine r_imul C dX11_drawn_4 ?_
  refine r_sipush C dX11_drawn_5 k_s12345 ?_
  refine r_iadd C dX11_drawn_8 ?_
  exact r_iret C dX11_drawn_9
set_option maxRecDepth 100000 in
set_option maxHeartbeats 4000000 in
theorem tcX11_lot (l : Launch) (g : WG) (hg : p_al g = false) (i0 : Int32) (i1 : Int32) (h : PH) : CT l g 1 0 0 yX11_lot cX11_lot 2 (some .int) em_i [.int i0, .int i1] h (fX11_lot i0 i1 h) := by
  refine CT_of (own := RX11) (nm := "lot") (by decide +kernel) (Nat.le_of_ble_eq_true rfl) rfl rfl rfl ⟨rfl, rfl⟩ (fun K hK C => ?_)
  subst hK
  unfold fX11_lot
  show VX K g _ _ _ _ _ [(0, .int i0), (1, .int i1)] _ _ _
  refine r_iload_n C dX11_lot_0 1 rfl ?_
  refine r_if_le (tgt := 13) C dX11_lot_1 (by decide) ?_ ?_
  · refine r_iconst C dX11_lot_13 k_i0 ?_
    exact r_iret C dX11_lot_14
  · refine r_iload_n C dX11_lot_4 0 rfl ?_
    refine r_bipush C dX11_lot_5 k_b16 ?_
    refine r_iushr C dX11_lot_7 ?_
    refine r_iload_n C dX11_lot_8 1 rfl ?_
    refine r_irem C dX11_lot_9 ?_
    refine r_goto (tgt := 14) C dX11_lot_10 (by decide) ?_
    exact r_iret C dX11_lot_14
set_option maxRecDepth 100000 in
set_option maxHeartbeats 4000000 in
theorem tcX11_drawnAct (l : Launch) (g : WG) (hg : p_al g = false) (o0 : Nat) (i1 : Int32) (i2 : Int32) (i3 : Int32) (h : PH) : CT l g 4 0 0 yX11_drawnAct cX11_drawnAct 4 none em_v [p_rf g o0, .int i1, .int i2, .int i3] h (fX11_drawnAct o0 i1 i2 i3 h) := by
  refine CT_of (own := RX11) (nm := "drawnAct") (by decide +kernel) (Nat.le_of_ble_eq_true rfl) rfl rfl rfl ⟨rfl, rfl⟩ (fun K hK C => ?_)
  subst hK
  unfold fX11_drawnAct
  show VX K g _ _ _ _ _ [(0, p_rf g o0), (1, .int i1), (2, .int i2), (3, .int i3)] _ _ _
  refine r_iload_n C dX11_drawnAct_0 1 rfl ?_
  refine r_iconst C dX11_drawnAct_1 k_i2 ?_
  refine r_icmp_ne (tgt := 18) C dX11_drawnAct_2 (by decide) ?_ ?_
  · refine r_aload_n C dX11_drawnAct_18 0 rfl ?_
    refine r_gr C wf_X11_81_10 dX11_drawnAct_19 (fun q1 => ?_)
    refine r_iload_n C dX11_drawnAct_22 2 rfl ?_
    refine r_iload_n C dX11_drawnAct_23 3 rfl ?_
    refine r_cvi (As := [.int i2, .int i3]) (st := []) C wv_X11_226 (tcX8_takeBack K.2.1 g hg q1 i2 i3 h) (Nat.le_of_ble_eq_true rfl) rfl rfl (Nat.le_of_ble_eq_true rfl) dX11_drawnAct_24 ⟨Nat.le_of_ble_eq_true rfl, Nat.le_of_ble_eq_true rfl⟩ (fun x2 h3 => ?_)
    refine r_pop C dX11_drawnAct_27 rfl ?_
    exact r_vret C dX11_drawnAct_28
  · refine r_aload_n C dX11_drawnAct_5 0 rfl ?_
    refine r_gr C wf_X11_81_10 dX11_drawnAct_6 (fun q4 => ?_)
    refine r_iload_n C dX11_drawnAct_9 2 rfl ?_
    refine r_iload_n C dX11_drawnAct_10 3 rfl ?_
    refine r_cvi (As := [.int i2, .int i3]) (st := []) C wv_X11_220 (tcX8_give K.2.1 g hg q4 i2 i3 h) (Nat.le_of_ble_eq_true rfl) rfl rfl (Nat.le_of_ble_eq_true rfl) dX11_drawnAct_11 ⟨Nat.le_of_ble_eq_true rfl, Nat.le_of_ble_eq_true rfl⟩ (fun x5 h6 => ?_)
    refine r_pop C dX11_drawnAct_14 rfl ?_
    refine r_goto (tgt := 28) C dX11_drawnAct_15 (by decide) ?_
    exact r_vret C dX11_drawnAct_28
set_option maxRecDepth 100000 in
set_option maxHeartbeats 4000000 in
theorem tX11_years_J131_28 {K : AC} {g : WG} (hg : p_al g = false)  (C : Cx K g cX11_years 7 RX11 (some .int) "years" 7 0 0) (o0 : Nat) (i2 : Int32) (i3 : Int32) (i4 : Int32)    {rc : Int32 → Int32 → PH → Option (Int32 × PH)} {kx : PH → Option (Int32 × PH)} (hr : ∀ (i3' : Int32) (i4' : Int32) (h : PH), VX K g 7 0 0 (a_fin K g 0 0 em_i) 28 [(0, p_rf g o0), (2, .int i2), (3, .int i3'), (4, .int i4')] [] h (rc i3' i4' h)) (hk : ∀  (h : PH), VX K g 7 0 0 (a_fin K g 0 0 em_i) 137 [(0, p_rf g o0)] [] h (kx  h)) (h : PH) : VX K g 7 0 0 (a_fin K g 0 0 em_i) 131 [(0, p_rf g o0), (2, .int i2), (3, .int i3), (4, .int i4)] [] h (fX11_years_J131_28 rc kx o0 i2 i3 i4 h) := by
  unfold fX11_years_J131_28
  refine r_iinc (lv' := [(0, p_rf g o0), (2, .int i2), (3, .int i3)]) C dX11_years_131 3 rfl k_i1 (by decide) (fun _ => rfl) (fun x1 => ?_)
  refine r_goto (tgt := 28) C dX11_years_134 (by decide) ?_
  refine r_perm (lv' := [(0, p_rf g o0), (2, .int i2), (3, .int i3), (4, .int x1)]) [1, 2, 3, 0] rfl ?_
  exact hr i3 x1 h
set_option maxRecDepth 100000 in
set_option maxHeartbeats 4000000 in
theorem tX11_years_L28 {K : AC} {g : WG} (hg : p_al g = false)  (C : Cx K g cX11_years 7 RX11 (some .int) "years" 7 0 0) (o0 : Nat) (i2 : Int32) {kx : PH → Option (Int32 × PH)} (hk : ∀  (h : PH), VX K g 7 0 0 (a_fin K g 0 0 em_i) 137 [(0, p_rf g o0)] [] h (kx h)) : ∀ (n : Nat) (i3 : Int32) (i4 : Int32) (h : PH), VX K g 7 0 0 (a_fin K g 0 0 em_i) 28 [(0, p_rf g o0), (2, .int i2), (3, .int i3), (4, .int i4)] [] h (fX11_years_L28 o0 i2 kx n i3 i4 h) := by
  intro n
  induction n with
  | zero =>
    intros
    exact r_none
  | succ n ih =>
    intro i3 i4 h
    rw [fX11_years_L28]
    refine r_iload C dX11_years_28 3 rfl ?_
    refine r_iload_n C dX11_years_30 1 rfl ?_
    refine r_icmp_ge (tgt := 137) C dX11_years_31 (by decide) ?_ ?_
    · refine r_perm (lv' := [(0, p_rf g o0)]) [0] rfl ?_
      exact hk h
    · refine r_iload_n C dX11_years_34 2 rfl ?_
      refine r_csi (As := [.int i3]) (st := []) C ws_X11_391 (tcX11_drawn K.2.1 g hg i3 h) (Nat.le_of_ble_eq_true rfl) rfl rfl (Nat.le_of_ble_eq_true rfl) dX11_years_35 ⟨Nat.le_of_ble_eq_true rfl, Nat.le_of_ble_eq_true rfl⟩ (fun x1 h2 => ?_)
      refine r_istore_n (lv9 := [(3, .int x1), (0, p_rf g o0), (2, .int i2), (4, .int i4)]) C dX11_years_38 (by decide) rfl ?_
      refine r_iload_n C dX11_years_39 0 rfl ?_
      refine r_iconst C dX11_years_40 k_i4 ?_
      refine r_csi (As := [.int x1, .int (4 : Int32)]) (st := []) C ws_X11_394 (tcX11_lot K.2.1 g hg x1 (4 : Int32) h2) (Nat.le_of_ble_eq_true rfl) rfl rfl (Nat.le_of_ble_eq_true rfl) dX11_years_41 ⟨Nat.le_of_ble_eq_true rfl, Nat.le_of_ble_eq_true rfl⟩ (fun x3 h4 => ?_)
      refine r_istore (lv9 := [(5, .int x3), (3, .int x1), (0, p_rf g o0), (2, .int i2), (4, .int i4)]) C dX11_years_44 (by decide) rfl ?_
      refine r_iload C dX11_years_46 0 rfl ?_
      refine r_iconst C dX11_years_48 k_i2 ?_
      refine r_icmp_ge (tgt := 70) C dX11_years_49 (by decide) ?_ ?_
      · refine r_aload_n C dX11_years_70 2 rfl ?_
        refine r_gr C wf_X11_73_10 dX11_years_71 (fun q5 => ?_)
        refine r_cvi (As := []) (st := []) C wv_X11_126 (tcX0_personSize K.2.1 g hg q5 h4) (Nat.le_of_ble_eq_true rfl) rfl rfl (Nat.le_of_ble_eq_true rfl) dX11_years_74 ⟨Nat.le_of_ble_eq_true rfl, Nat.le_of_ble_eq_true rfl⟩ (fun x6 h7 => ?_)
        refine r_if_le (tgt := 131) C dX11_years_77 (by decide) ?_ ?_
        · refine r_perm (lv' := [(0, p_rf g o0), (2, .int i2), (3, .int x1), (4, .int i4)]) [2, 3, 1, 4] rfl ?_
          exact tX11_years_J131_28 hg C o0 i2 x1 i4 ih hk h7
        · refine r_aload_n C dX11_years_80 2 rfl ?_
          refine r_gr C wf_X11_73_10 dX11_years_81 (fun q8 => ?_)
          refine r_cvi (As := []) (st := []) C wv_X11_98 (tcX0_groundSize K.2.1 g hg q8 h7) (Nat.le_of_ble_eq_true rfl) rfl rfl (Nat.le_of_ble_eq_true rfl) dX11_years_84 ⟨Nat.le_of_ble_eq_true rfl, Nat.le_of_ble_eq_true rfl⟩ (fun x9 h10 => ?_)
          refine r_if_le (tgt := 131) C dX11_years_87 (by decide) ?_ ?_
          · refine r_perm (lv' := [(0, p_rf g o0), (2, .int i2), (3, .int x1), (4, .int i4)]) [2, 3, 1, 4] rfl ?_
            exact tX11_years_J131_28 hg C o0 i2 x1 i4 ih hk h10
          · refine r_iload_n C dX11_years_90 1 rfl ?_
            refine r_csi (As := [.int x1]) (st := []) C ws_X11_391 (tcX11_drawn K.2.1 g hg x1 h10) (Nat.le_of_ble_eq_true rfl) rfl rfl (Nat.le_of_ble_eq_true rfl) dX11_years_91 ⟨Nat.le_of_ble_eq_true rfl, Nat.le_of_ble_eq_true rfl⟩ (fun x11 h12 => ?_)
            refine r_istore (lv9 := [(6, .int x11), (5, .int x3), (3, .int x1), (0, p_rf g o0), (2, .int i2), (4, .int i4)]) C dX11_years_94 (by decide) rfl ?_
            refine r_iload C dX11_years_96 0 rfl ?_
            refine r_csi (As := [.int x11]) (st := []) C ws_X11_391 (tcX11_drawn K.2.1 g hg x11 h12) (Nat.le_of_ble_eq_true rfl) rfl rfl (Nat.le_of_ble_eq_true rfl) dX11_years_98 ⟨Nat.le_of_ble_eq_true rfl, Nat.le_of_ble_eq_true rfl⟩ (fun x13 h14 => ?_)
            refine r_istore_n (lv9 := [(3, .int x13), (6, .int x11), (5, .int x3), (0, p_rf g o0), (2, .int i2), (4, .int i4)]) C dX11_years_101 (by decide) rfl ?_
            refine r_aload_n C dX11_years_102 3 rfl ?_
            refine r_iload C dX11_years_103 2 rfl ?_
            refine r_iload C dX11_years_105 1 rfl ?_
            refine r_aload_n C dX11_years_107 3 rfl ?_
            refine r_gr C wf_X11_73_10 dX11_years_108 (fun q15 => ?_)
            refine r_cvi (As := []) (st := [.int x11, .int x3, p_rf g o0]) C wv_X11_126 (tcX0_personSize K.2.1 g hg q15 h14) (Nat.le_of_ble_eq_true rfl) rfl rfl (Nat.le_of_ble_eq_true rfl) dX11_years_111 ⟨Nat.le_of_ble_eq_true rfl, Nat.le_of_ble_eq_true rfl⟩ (fun x16 h17 => ?_)
            refine r_csi (As := [.int x11, .int x16]) (st := [.int x3, p_rf g o0]) C ws_X11_394 (tcX11_lot K.2.1 g hg x11 x16 h17) (Nat.le_of_ble_eq_true rfl) rfl rfl (Nat.le_of_ble_eq_true rfl) dX11_years_114 ⟨Nat.le_of_ble_eq_true rfl, Nat.le_of_ble_eq_true rfl⟩ (fun x18 h19 => ?_)
            refine r_iload_n C dX11_years_117 0 rfl ?_
            refine r_aload_n C dX11_years_118 3 rfl ?_
            refine r_gr C wf_X11_73_10 dX11_years_119 (fun q20 => ?_)
            refine r_cvi (As := []) (st := [.int x13, .int x18, .int x3, p_rf g o0]) C wv_X11_98 (tcX0_groundSize K.2.1 g hg q20 h19) (Nat.le_of_ble_eq_true rfl) rfl rfl (Nat.le_of_ble_eq_true rfl) dX11_years_122 ⟨Nat.le_of_ble_eq_true rfl, Nat.le_of_ble_eq_true rfl⟩ (fun x21 h22 => ?_)
            refine r_csi (As := [.int x13, .int x21]) (st := [.int x18, .int x3, p_rf g o0]) C ws_X11_394 (tcX11_lot K.2.1 g hg x13 x21 h22) (Nat.le_of_ble_eq_true rfl) rfl rfl (Nat.le_of_ble_eq_true rfl) dX11_years_125 ⟨Nat.le_of_ble_eq_true rfl, Nat.le_of_ble_eq_true rfl⟩ (fun x23 h24 => ?_)
            refine r_cvv (As := [.int x3, .int x18, .int x23]) (st := []) C wv_X11_397 (tcX11_drawnAct K.2.1 g hg o0 x3 x18 x23 h24) (Nat.le_of_ble_eq_true rfl) rfl rfl (Nat.le_of_ble_eq_true rfl) dX11_years_128 ⟨Nat.le_of_ble_eq_true rfl, Nat.le_of_ble_eq_true rfl⟩ (fun h25 => ?_)
            refine r_perm (lv' := [(0, p_rf g o0), (2, .int i2), (3, .int x13), (4, .int i4)]) [3, 4, 0, 5] rfl ?_
            exact tX11_years_J131_28 hg C o0 i2 x13 i4 ih hk h25
      · refine r_aload_n C dX11_years_52 2 rfl ?_
        refine r_gr C wf_X11_81_10 dX11_years_53 (fun q26 => ?_)
        refine r_iconst C dX11_years_56 k_i1 ?_
        refine r_aload_n C dX11_years_57 2 rfl ?_
        refine r_gr C wf_X11_73_10 dX11_years_58 (fun q27 => ?_)
        refine r_cvr (As := []) (st := [.int (1 : Int32), p_rf g q26]) C wv_X11_235 (tcX0_presentRule K.2.1 g hg q27 h4) (Nat.le_of_ble_eq_true rfl) rfl rfl (Nat.le_of_ble_eq_true rfl) dX11_years_61 ⟨Nat.le_of_ble_eq_true rfl, Nat.le_of_ble_eq_true rfl⟩ (fun q28 h29 => ?_)
        refine r_cvv (As := [.int (1 : Int32), p_rf g q28]) (st := []) C wv_X11_302 (tcX8_passAll K.2.1 g hg q26 (1 : Int32) q28 h29) (Nat.le_of_ble_eq_true rfl) rfl rfl (Nat.le_of_ble_eq_true rfl) dX11_years_64 ⟨Nat.le_of_ble_eq_true rfl, Nat.le_of_ble_eq_true rfl⟩ (fun h30 => ?_)
        refine r_goto (tgt := 131) C dX11_years_67 (by decide) ?_
        refine r_perm (lv' := [(0, p_rf g o0), (2, .int i2), (3, .int x1), (4, .int i4)]) [2, 3, 1, 4] rfl ?_
        exact tX11_years_J131_28 hg C o0 i2 x1 i4 ih hk h30
set_option maxRecDepth 100000 in
set_option maxHeartbeats 4000000 in
theorem tcX11_years (l : Launch) (g : WG) (hg : p_al g = false) (o0 : Nat) (i1 : Int32) (i2 : Int32) (h : PH) : CT l g 7 0 0 yX11_years cX11_years 7 (some .int) em_i [p_rf g o0, .int i1, .int i2] h (fX11_years o0 i1 i2 h) := by
  refine CT_of (own := RX11) (nm := "years") (by decide +kernel) (Nat.le_of_ble_eq_true rfl) rfl rfl rfl ⟨rfl, rfl⟩ (fun K hK C => ?_)
  subst hK
  unfold fX11_years
  show VX K g _ _ _ _ _ [(0, p_rf g o0), (1, .int i1), (2, .int i2)] _ _ _
  refine r_iload_n C dX11_years_0 2 rfl ?_
  refine r_iconst C dX11_years_1 k_i1 ?_
  refine r_bipush C dX11_years_2 k_b60 ?_
  refine r_csi (As := [.int i2, .int (1 : Int32), .int (60 : Int32)]) (st := []) C ws_X11_164 (tcX11_within K.2.1 g hg i2 (1 : Int32) (60 : Int32) h) (Nat.le_of_ble_eq_true rfl) rfl rfl (Nat.le_of_ble_eq_true rfl) dX11_years_4 ⟨Nat.le_of_ble_eq_true rfl, Nat.le_of_ble_eq_true rfl⟩ (fun x1 h2 => ?_)
  refine r_if_ne (tgt := 12) C dX11_years_7 (by decide) ?_ ?_
  · refine r_aload_n C dX11_years_12 0 rfl ?_
    refine r_gr C wf_X11_81_10 dX11_years_13 (fun q3 => ?_)
    refine r_aload_n C dX11_years_16 0 rfl ?_
    refine r_gr C wf_X11_77_10 dX11_years_17 (fun q4 => ?_)
    refine r_cvv (As := [p_rf g q4]) (st := []) C wv_X11_216 (tcX8_copy K.2.1 g hg q3 q4 h2) (Nat.le_of_ble_eq_true rfl) rfl rfl (Nat.le_of_ble_eq_true rfl) dX11_years_20 ⟨Nat.le_of_ble_eq_true rfl, Nat.le_of_ble_eq_true rfl⟩ (fun h5 => ?_)
    refine r_iload_n C dX11_years_23 1 rfl ?_
    refine r_istore_n (lv9 := [(3, .int i1), (0, p_rf g o0), (1, .int i1), (2, .int i2)]) C dX11_years_24 (by decide) rfl ?_
    refine r_iconst C dX11_years_25 k_i0 ?_
    refine r_istore (lv9 := [(4, .int (0 : Int32)), (3, .int i1), (0, p_rf g o0), (1, .int i1), (2, .int i2)]) C dX11_years_26 (by decide) rfl ?_
    refine r_perm (lv' := [(0, p_rf g o0), (2, .int i2), (3, .int i1), (4, .int (0 : Int32))]) [2, 4, 1, 0] rfl ?_
    refine tX11_years_L28 hg C o0 i2 (fun h6 => ?_) FU i1 (0 : Int32) h5
    refine r_aload_n C dX11_years_137 0 rfl ?_
    refine r_gr C wf_X11_69_10 dX11_years_138 (fun q7 => ?_)
    refine r_cvv (As := []) (st := []) C wv_X11_242 (tcX3_start K.2.1 g hg q7 h6) (Nat.le_of_ble_eq_true rfl) rfl rfl (Nat.le_of_ble_eq_true rfl) dX11_years_141 ⟨Nat.le_of_ble_eq_true rfl, Nat.le_of_ble_eq_true rfl⟩ (fun h8 => ?_)
    refine r_aload_n C dX11_years_144 0 rfl ?_
    refine r_gr C wf_X11_69_10 dX11_years_145 (fun q9 => ?_)
    refine r_aload_n C dX11_years_148 0 rfl ?_
    refine r_gr C wf_X11_81_10 dX11_years_149 (fun q10 => ?_)
    refine r_cvi (As := []) (st := [p_rf g q9]) C wv_X11_245 (tcX8_humoursOfAll K.2.1 g hg q10 h8) (Nat.le_of_ble_eq_true rfl) rfl rfl (Nat.le_of_ble_eq_true rfl) dX11_years_152 ⟨Nat.le_of_ble_eq_true rfl, Nat.le_of_ble_eq_true rfl⟩ (fun x11 h12 => ?_)
    refine r_i2l C dX11_years_155 ?_
    refine r_cvv (As := [.long (x11.toInt64)]) (st := []) C wv_X11_248 (tcX3_add K.2.1 g hg q9 (x11.toInt64) h12) (Nat.le_of_ble_eq_true rfl) rfl rfl (Nat.le_of_ble_eq_true rfl) dX11_years_156 ⟨Nat.le_of_ble_eq_true rfl, Nat.le_of_ble_eq_true rfl⟩ (fun h13 => ?_)
    refine r_aload_n C dX11_years_159 0 rfl ?_
    refine r_gr C wf_X11_69_10 dX11_years_160 (fun q14 => ?_)
    refine r_aload_n C dX11_years_163 0 rfl ?_
    refine r_gr C wf_X11_81_10 dX11_years_164 (fun q15 => ?_)
    refine r_cvi (As := []) (st := [p_rf g q14]) C wv_X11_400 (tcX8_groundsOfAll K.2.1 g hg q15 h13) (Nat.le_of_ble_eq_true rfl) rfl rfl (Nat.le_of_ble_eq_true rfl) dX11_years_167 ⟨Nat.le_of_ble_eq_true rfl, Nat.le_of_ble_eq_true rfl⟩ (fun x16 h17 => ?_)
    refine r_i2l C dX11_years_170 ?_
    refine r_cvv (As := [.long (x16.toInt64)]) (st := []) C wv_X11_248 (tcX3_add K.2.1 g hg q14 (x16.toInt64) h17) (Nat.le_of_ble_eq_true rfl) rfl rfl (Nat.le_of_ble_eq_true rfl) dX11_years_171 ⟨Nat.le_of_ble_eq_true rfl, Nat.le_of_ble_eq_true rfl⟩ (fun h18 => ?_)
    refine r_aload_n C dX11_years_174 0 rfl ?_
    refine r_gr C wf_X11_81_10 dX11_years_175 (fun q19 => ?_)
    refine r_cvi (As := []) (st := []) C wv_X11_251 (tcX8_wantsOfAll K.2.1 g hg q19 h18) (Nat.le_of_ble_eq_true rfl) rfl rfl (Nat.le_of_ble_eq_true rfl) dX11_years_178 ⟨Nat.le_of_ble_eq_true rfl, Nat.le_of_ble_eq_true rfl⟩ (fun x20 h21 => ?_)
    exact r_iret C dX11_years_181
  · refine r_iconst C dX11_years_10 k_im1 ?_
    exact r_iret C dX11_years_11
set_option maxRecDepth 100000 in
set_option maxHeartbeats 4000000 in
theorem tcX11_keep (l : Launch) (g : WG) (hg : p_al g = false) (o0 : Nat) (i1 : Int32) (h : PH) : CT l g 4 0 0 yX11_keep cX11_keep 2 (some .boolean) em_i [p_rf g o0, .int i1] h (fX11_keep o0 i1 h) := by
  refine CT_of (own := RX11) (nm := "keep") (by decide +kernel) (Nat.le_of_ble_eq_true rfl) rfl rfl rfl ⟨rfl, rfl⟩ (fun K hK C => ?_)
  subst hK
  unfold fX11_keep
  show VX K g _ _ _ _ _ [(0, p_rf g o0), (1, .int i1)] _ _ _
  refine r_aload_n C dX11_keep_0 0 rfl ?_
  refine r_gr C wf_X11_45_10 dX11_keep_1 (fun q1 => ?_)
  refine r_iload_n C dX11_keep_4 1 rfl ?_
  refine r_aload_n C dX11_keep_5 0 rfl ?_
  refine r_gr C wf_X11_77_10 dX11_keep_6 (fun q2 => ?_)
  refine r_cvi (As := [.int i1, p_rf g q2]) (st := []) C wv_X11_404 (tcX5_keepAs K.2.1 g hg q1 i1 q2 h) (Nat.le_of_ble_eq_true rfl) rfl rfl (Nat.le_of_ble_eq_true rfl) dX11_keep_9 ⟨Nat.le_of_ble_eq_true rfl, Nat.le_of_ble_eq_true rfl⟩ (fun x3 h4 => ?_)
  exact r_zret C dX11_keep_12
set_option maxRecDepth 100000 in
set_option maxHeartbeats 4000000 in
theorem tcX11_again (l : Launch) (g : WG) (hg : p_al g = false) (o0 : Nat) (i1 : Int32) (h : PH) : CT l g 4 0 0 yX11_again cX11_again 2 (some .boolean) em_i [p_rf g o0, .int i1] h (fX11_again o0 i1 h) := by
  refine CT_of (own := RX11) (nm := "again") (by decide +kernel) (Nat.le_of_ble_eq_true rfl) rfl rfl rfl ⟨rfl, rfl⟩ (fun K hK C => ?_)
  subst hK
  unfold fX11_again
  show VX K g _ _ _ _ _ [(0, p_rf g o0), (1, .int i1)] _ _ _
  refine r_aload_n C dX11_again_0 0 rfl ?_
  refine r_gr C wf_X11_45_10 dX11_again_1 (fun q1 => ?_)
  refine r_iload_n C dX11_again_4 1 rfl ?_
  refine r_aload_n C dX11_again_5 0 rfl ?_
  refine r_gr C wf_X11_77_10 dX11_again_6 (fun q2 => ?_)
  refine r_cvi (As := [.int i1, p_rf g q2]) (st := []) C wv_X11_408 (tcX5_bringKept K.2.1 g hg q1 i1 q2 h) (Nat.le_of_ble_eq_true rfl) rfl rfl (Nat.le_of_ble_eq_true rfl) dX11_again_9 ⟨Nat.le_of_ble_eq_true rfl, Nat.le_of_ble_eq_true rfl⟩ (fun x3 h4 => ?_)
  exact r_zret C dX11_again_12
set_option maxRecDepth 100000 in
set_option maxHeartbeats 4000000 in
theorem tcX11_count (l : Launch) (g : WG) (hg : p_al g = false) (o0 : Nat) (i1 : Int32) (h : PH) : CT l g 6 0 0 yX11_count cX11_count 2 (some .int) em_i [p_rf g o0, .int i1] h (fX11_count o0 i1 h) := by
  refine CT_of (own := RX11) (nm := "count") (by decide +kernel) (Nat.le_of_ble_eq_true rfl) rfl rfl rfl ⟨rfl, rfl⟩ (fun K hK C => ?_)
  subst hK
  unfold fX11_count
  show VX K g _ _ _ _ _ [(0, p_rf g o0), (1, .int i1)] _ _ _
  refine r_iload_n C dX11_count_0 1 rfl ?_
  refine r_ite (fun e => ?_) (fun q1_0 => ?_)
  · subst e
    refine r_tin (off := 67) (tgt := 68) C dX11_count_1 (by decide) (by decide) rfl (by decide) ?_
    refine r_aload_n C dX11_count_68 0 rfl ?_
    refine r_gr C wf_X11_73_10 dX11_count_69 (fun q4 => ?_)
    refine r_cvi (As := []) (st := []) C wv_X11_98 (tcX0_groundSize K.2.1 g hg q4 h) (Nat.le_of_ble_eq_true rfl) rfl rfl (Nat.le_of_ble_eq_true rfl) dX11_count_72 ⟨Nat.le_of_ble_eq_true rfl, Nat.le_of_ble_eq_true rfl⟩ (fun x5 h6 => ?_)
    exact r_iret C dX11_count_75
  refine r_ite (fun e => ?_) (fun q1_1 => ?_)
  · subst e
    refine r_tin (off := 75) (tgt := 76) C dX11_count_1 (by decide) (by decide) rfl (by decide) ?_
    refine r_aload_n C dX11_count_76 0 rfl ?_
    refine r_gr C wf_X11_73_10 dX11_count_77 (fun q10 => ?_)
    refine r_cvi (As := []) (st := []) C wv_X11_126 (tcX0_personSize K.2.1 g hg q10 h) (Nat.le_of_ble_eq_true rfl) rfl rfl (Nat.le_of_ble_eq_true rfl) dX11_count_80 ⟨Nat.le_of_ble_eq_true rfl, Nat.le_of_ble_eq_true rfl⟩ (fun x11 h12 => ?_)
    exact r_iret C dX11_count_83
  refine r_ite (fun e => ?_) (fun q1_2 => ?_)
  · subst e
    refine r_tin (off := 83) (tgt := 84) C dX11_count_1 (by decide) (by decide) rfl (by decide) ?_
    refine r_aload_n C dX11_count_84 0 rfl ?_
    refine r_gr C wf_X11_73_10 dX11_count_85 (fun q16 => ?_)
    refine r_cvi (As := []) (st := []) C wv_X11_139 (tcX0_wantSize K.2.1 g hg q16 h) (Nat.le_of_ble_eq_true rfl) rfl rfl (Nat.le_of_ble_eq_true rfl) dX11_count_88 ⟨Nat.le_of_ble_eq_true rfl, Nat.le_of_ble_eq_true rfl⟩ (fun x17 h18 => ?_)
    exact r_iret C dX11_count_91
  refine r_ite (fun e => ?_) (fun q1_3 => ?_)
  · subst e
    refine r_tin (off := 91) (tgt := 92) C dX11_count_1 (by decide) (by decide) rfl (by decide) ?_
    refine r_aload_n C dX11_count_92 0 rfl ?_
    refine r_gr C wf_X11_77_10 dX11_count_93 (fun q22 => ?_)
    refine r_cvi (As := []) (st := []) C wv_X11_411 (tcX8_dayNumber K.2.1 g hg q22 h) (Nat.le_of_ble_eq_true rfl) rfl rfl (Nat.le_of_ble_eq_true rfl) dX11_count_96 ⟨Nat.le_of_ble_eq_true rfl, Nat.le_of_ble_eq_true rfl⟩ (fun x23 h24 => ?_)
    exact r_iret C dX11_count_99
  refine r_ite (fun e => ?_) (fun q1_4 => ?_)
  · subst e
    refine r_tin (off := 99) (tgt := 100) C dX11_count_1 (by decide) (by decide) rfl (by decide) ?_
    refine r_aload_n C dX11_count_100 0 rfl ?_
    refine r_gr C wf_X11_77_10 dX11_count_101 (fun q28 => ?_)
    refine r_cvi (As := []) (st := []) C wv_X11_414 (tcX8_signedFor K.2.1 g hg q28 h) (Nat.le_of_ble_eq_true rfl) rfl rfl (Nat.le_of_ble_eq_true rfl) dX11_count_104 ⟨Nat.le_of_ble_eq_true rfl, Nat.le_of_ble_eq_true rfl⟩ (fun x29 h30 => ?_)
    exact r_iret C dX11_count_107
  refine r_ite (fun e => ?_) (fun q1_5 => ?_)
  · subst e
    refine r_tin (off := 107) (tgt := 108) C dX11_count_1 (by decide) (by decide) rfl (by decide) ?_
    refine r_aload_n C dX11_count_108 0 rfl ?_
    refine r_gr C wf_X11_77_10 dX11_count_109 (fun q34 => ?_)
    refine r_cvi (As := []) (st := []) C wv_X11_213 (tcX8_stockOfAll K.2.1 g hg q34 h) (Nat.le_of_ble_eq_true rfl) rfl rfl (Nat.le_of_ble_eq_true rfl) dX11_count_112 ⟨Nat.le_of_ble_eq_true rfl, Nat.le_of_ble_eq_true rfl⟩ (fun x35 h36 => ?_)
    exact r_iret C dX11_count_115
  refine r_ite (fun e => ?_) (fun q1_6 => ?_)
  · subst e
    refine r_tin (off := 115) (tgt := 116) C dX11_count_1 (by decide) (by decide) rfl (by decide) ?_
    refine r_aload_n C dX11_count_116 0 rfl ?_
    refine r_gr C wf_X11_77_10 dX11_count_117 (fun q40 => ?_)
    refine r_cvi (As := []) (st := []) C wv_X11_400 (tcX8_groundsOfAll K.2.1 g hg q40 h) (Nat.le_of_ble_eq_true rfl) rfl rfl (Nat.le_of_ble_eq_true rfl) dX11_count_120 ⟨Nat.le_of_ble_eq_true rfl, Nat.le_of_ble_eq_true rfl⟩ (fun x41 h42 => ?_)
    exact r_iret C dX11_count_123
  refine r_ite (fun e => ?_) (fun q1_7 => ?_)
  · subst e
    refine r_tin (off := 123) (tgt := 124) C dX11_count_1 (by decide) (by decide) rfl (by decide) ?_
    refine r_aload_n C dX11_count_124 0 rfl ?_
    refine r_gr C wf_X11_77_10 dX11_count_125 (fun q46 => ?_)
    refine r_cvi (As := []) (st := []) C wv_X11_251 (tcX8_wantsOfAll K.2.1 g hg q46 h) (Nat.le_of_ble_eq_true rfl) rfl rfl (Nat.le_of_ble_eq_true rfl) dX11_count_128 ⟨Nat.le_of_ble_eq_true rfl, Nat.le_of_ble_eq_true rfl⟩ (fun x47 h48 => ?_)
    exact r_iret C dX11_count_131
  refine r_ite (fun e => ?_) (fun q1_8 => ?_)
  · subst e
    refine r_tin (off := 131) (tgt := 132) C dX11_count_1 (by decide) (by decide) rfl (by decide) ?_
    refine r_aload_n C dX11_count_132 0 rfl ?_
    refine r_gr C wf_X11_77_10 dX11_count_133 (fun q52 => ?_)
    refine r_cvi (As := []) (st := []) C wv_X11_245 (tcX8_humoursOfAll K.2.1 g hg q52 h) (Nat.le_of_ble_eq_true rfl) rfl rfl (Nat.le_of_ble_eq_true rfl) dX11_count_136 ⟨Nat.le_of_ble_eq_true rfl, Nat.le_of_ble_eq_true rfl⟩ (fun x53 h54 => ?_)
    exact r_iret C dX11_count_139
  refine r_ite (fun e => ?_) (fun q1_9 => ?_)
  · subst e
    refine r_tin (off := 139) (tgt := 140) C dX11_count_1 (by decide) (by decide) rfl (by decide) ?_
    refine r_aload_n C dX11_count_140 0 rfl ?_
    refine r_gr C wf_X11_65_10 dX11_count_141 (fun q58 => ?_)
    refine r_cvi (As := []) (st := []) C wv_X11_335 (tcX4_notes K.2.1 g hg q58 h) (Nat.le_of_ble_eq_true rfl) rfl rfl (Nat.le_of_ble_eq_true rfl) dX11_count_144 ⟨Nat.le_of_ble_eq_true rfl, Nat.le_of_ble_eq_true rfl⟩ (fun x59 h60 => ?_)
    exact r_iret C dX11_count_147
  refine r_ite (fun e => ?_) (fun q1_10 => ?_)
  · subst e
    refine r_tin (off := 147) (tgt := 148) C dX11_count_1 (by decide) (by decide) rfl (by decide) ?_
    refine r_aload_n C dX11_count_148 0 rfl ?_
    refine r_gr C wf_X11_45_10 dX11_count_149 (fun q64 => ?_)
    refine r_cvi (As := []) (st := []) C wv_X11_268 (tcX5_size K.2.1 g hg q64 h) (Nat.le_of_ble_eq_true rfl) rfl rfl (Nat.le_of_ble_eq_true rfl) dX11_count_152 ⟨Nat.le_of_ble_eq_true rfl, Nat.le_of_ble_eq_true rfl⟩ (fun x65 h66 => ?_)
    exact r_iret C dX11_count_155
  refine r_ite (fun e => ?_) (fun q1_11 => ?_)
  · subst e
    refine r_tin (off := 155) (tgt := 156) C dX11_count_1 (by decide) (by decide) rfl (by decide) ?_
    refine r_aload_n C dX11_count_156 0 rfl ?_
    refine r_gr C wf_X11_69_10 dX11_count_157 (fun q70 => ?_)
    refine r_cvi (As := []) (st := []) C wv_X11_417 (tcX3_size K.2.1 g hg q70 h) (Nat.le_of_ble_eq_true rfl) rfl rfl (Nat.le_of_ble_eq_true rfl) dX11_count_160 ⟨Nat.le_of_ble_eq_true rfl, Nat.le_of_ble_eq_true rfl⟩ (fun x71 h72 => ?_)
    exact r_iret C dX11_count_163
  refine r_ite (fun e => ?_) (fun q1_12 => ?_)
  · subst e
    refine r_tin (off := 163) (tgt := 164) C dX11_count_1 (by decide) (by decide) rfl (by decide) ?_
    refine r_aload_n C dX11_count_164 0 rfl ?_
    refine r_gr C wf_X11_10_10 dX11_count_165 (fun q76 => ?_)
    refine r_cvi (As := []) (st := []) C wv_X11_88 (tcX7_size K.2.1 g hg q76 h) (Nat.le_of_ble_eq_true rfl) rfl rfl (Nat.le_of_ble_eq_true rfl) dX11_count_168 ⟨Nat.le_of_ble_eq_true rfl, Nat.le_of_ble_eq_true rfl⟩ (fun x77 h78 => ?_)
    exact r_iret C dX11_count_171
  refine r_tout (tgt := 172) C dX11_count_1 (by have wq1_0 := lk_ne9 (k := (0)) (by decide) q1_0; have wq1_1 := lk_ne9 (k := (1)) (by decide) q1_1; have wq1_2 := lk_ne9 (k := (2)) (by decide) q1_2; have wq1_3 := lk_ne9 (k := (3)) (by decide) q1_3; have wq1_4 := lk_ne9 (k := (4)) (by decide) q1_4; have wq1_5 := lk_ne9 (k := (5)) (by decide) q1_5; have wq1_6 := lk_ne9 (k := (6)) (by decide) q1_6; have wq1_7 := lk_ne9 (k := (7)) (by decide) q1_7; have wq1_8 := lk_ne9 (k := (8)) (by decide) q1_8; have wq1_9 := lk_ne9 (k := (9)) (by decide) q1_9; have wq1_10 := lk_ne9 (k := (10)) (by decide) q1_10; have wq1_11 := lk_ne9 (k := (11)) (by decide) q1_11; have wq1_12 := lk_ne9 (k := (12)) (by decide) q1_12; omega) (by decide) ?_
  refine r_iconst C dX11_count_172 k_im1 ?_
  exact r_iret C dX11_count_173
set_option maxRecDepth 100000 in
set_option maxHeartbeats 4000000 in
theorem tcX11_row (l : Launch) (g : WG) (hg : p_al g = false) (o0 : Nat) (i1 : Int32) (h : PH) : CT l g 3 0 0 yX11_row cX11_row 2 (some .long) em_l [p_rf g o0, .int i1] h (fX11_row o0 i1 h) := by
  refine CT_of (own := RX11) (nm := "row") (by decide +kernel) (Nat.le_of_ble_eq_true rfl) rfl rfl rfl ⟨rfl, rfl⟩ (fun K hK C => ?_)
  subst hK
  unfold fX11_row
  show VX K g _ _ _ _ _ [(0, p_rf g o0), (1, .int i1)] _ _ _
  refine r_iload_n C dX11_row_0 1 rfl ?_
  refine r_iconst C dX11_row_1 k_i0 ?_
  refine r_aload_n C dX11_row_2 0 rfl ?_
  refine r_gr C wf_X11_69_10 dX11_row_3 (fun q1 => ?_)
  refine r_cvi (As := []) (st := [.int (0 : Int32), .int i1]) C wv_X11_417 (tcX3_size K.2.1 g hg q1 h) (Nat.le_of_ble_eq_true rfl) rfl rfl (Nat.le_of_ble_eq_true rfl) dX11_row_6 ⟨Nat.le_of_ble_eq_true rfl, Nat.le_of_ble_eq_true rfl⟩ (fun x2 h3 => ?_)
  refine r_iconst C dX11_row_9 k_i1 ?_
  refine r_isub C dX11_row_10 ?_
  refine r_csi (As := [.int i1, .int (0 : Int32), .int (x2 - (1 : Int32))]) (st := []) C ws_X11_164 (tcX11_within K.2.1 g hg i1 (0 : Int32) (x2 - (1 : Int32)) h3) (Nat.le_of_ble_eq_true rfl) rfl rfl (Nat.le_of_ble_eq_true rfl) dX11_row_11 ⟨Nat.le_of_ble_eq_true rfl, Nat.le_of_ble_eq_true rfl⟩ (fun x4 h5 => ?_)
  refine r_if_ne (tgt := 25) C dX11_row_14 (by decide) ?_ ?_
  · refine r_aload_n C dX11_row_25 0 rfl ?_
    refine r_gr C wf_X11_69_10 dX11_row_26 (fun q6 => ?_)
    refine r_iload_n C dX11_row_29 1 rfl ?_
    refine r_cvl (As := [.int i1]) (st := []) C wv_X11_418 (tcX3_at K.2.1 g hg q6 i1 h5) (Nat.le_of_ble_eq_true rfl) rfl rfl (Nat.le_of_ble_eq_true rfl) dX11_row_30 ⟨Nat.le_of_ble_eq_true rfl, Nat.le_of_ble_eq_true rfl⟩ (fun y7 h8 => ?_)
    exact r_lret C dX11_row_33
  · exact r_none
set_option maxRecDepth 100000 in
set_option maxHeartbeats 4000000 in
theorem tcX12_init (l : Launch) (g : WG) (hg : p_al g = true) (o0 : Nat) (h : PH) : CT l g 1 32 12259 yX12_init cX12_init 1 none em_v [p_rf g o0] h (fX12_init o0 h) := by
  refine CT_of (own := RX12) (nm := "<init>") (by decide +kernel) (Nat.le_of_ble_eq_true rfl) rfl rfl rfl ⟨rfl, rfl⟩ (fun K hK C => ?_)
  subst hK
  unfold fX12_init
  show VX K g _ _ _ _ _ [(0, p_rf g o0)] _ _ _
  refine r_aload_n C dX12_init_0 0 rfl ?_
  refine r_obj C wo_X12_3 (Nat.le_of_ble_eq_true rfl) (Nat.le_of_ble_eq_true rfl) dX12_init_1 ?_
  refine r_aload_n C dX12_init_4 0 rfl ?_
  refine r_bipush C dX12_init_5 k_b88 ?_
  refine r_newa (atype := .int) (ty := .int) (t0 := 0) hg C rfl rfl m_227 (N := 88) (a0 := (88, .inl (fun _ => 0))) (fun _ => rfl) (by decide) (by decide) (by decide) ⟨Nat.le_of_ble_eq_true rfl, Nat.le_of_ble_eq_true rfl⟩ dX12_init_7 (fun q1 h2 => ?_)
  refine r_prF C wf_X12_9_11 rfl rfl dX12_init_9 (fun h3 => ?_)
  refine r_aload_n C dX12_init_12 0 rfl ?_
  refine r_bipush C dX12_init_13 k_b8 ?_
  refine r_newa (atype := .int) (ty := .int) (t0 := 0) hg C rfl rfl m_227 (N := 8) (a0 := (8, .inl (fun _ => 0))) (fun _ => rfl) (by decide) (by decide) (by decide) ⟨Nat.le_of_ble_eq_true rfl, Nat.le_of_ble_eq_true rfl⟩ dX12_init_15 (fun q4 h5 => ?_)
  refine r_prF C wf_X12_13_11 rfl rfl dX12_init_17 (fun h6 => ?_)
  refine r_aload_n C dX12_init_20 0 rfl ?_
  refine r_bipush C dX12_init_21 k_b32 ?_
  refine r_newa (atype := .int) (ty := .int) (t0 := 0) hg C rfl rfl m_227 (N := 32) (a0 := (32, .inl (fun _ => 0))) (fun _ => rfl) (by decide) (by decide) (by decide) ⟨Nat.le_of_ble_eq_true rfl, Nat.le_of_ble_eq_true rfl⟩ dX12_init_23 (fun q7 h8 => ?_)
  refine r_prF C wf_X12_16_11 rfl rfl dX12_init_25 (fun h9 => ?_)
  refine r_aload_n C dX12_init_28 0 rfl ?_
  refine r_bipush C dX12_init_29 k_b6 ?_
  refine r_newa (atype := .int) (ty := .int) (t0 := 0) hg C rfl rfl m_227 (N := 6) (a0 := (6, .inl (fun _ => 0))) (fun _ => rfl) (by decide) (by decide) (by decide) ⟨Nat.le_of_ble_eq_true rfl, Nat.le_of_ble_eq_true rfl⟩ dX12_init_31 (fun q10 h11 => ?_)
  refine r_prF C wf_X12_19_11 rfl rfl dX12_init_33 (fun h12 => ?_)
  refine r_aload_n C dX12_init_36 0 rfl ?_
  refine r_bipush C dX12_init_37 k_b6 ?_
  refine r_newa (atype := .int) (ty := .int) (t0 := 0) hg C rfl rfl m_227 (N := 6) (a0 := (6, .inl (fun _ => 0))) (fun _ => rfl) (by decide) (by decide) (by decide) ⟨Nat.le_of_ble_eq_true rfl, Nat.le_of_ble_eq_true rfl⟩ dX12_init_39 (fun q13 h14 => ?_)
  refine r_prF C wf_X12_22_11 rfl rfl dX12_init_41 (fun h15 => ?_)
  refine r_aload_n C dX12_init_44 0 rfl ?_
  refine r_bipush C dX12_init_45 k_b54 ?_
  refine r_newa (atype := .int) (ty := .int) (t0 := 0) hg C rfl rfl m_227 (N := 54) (a0 := (54, .inl (fun _ => 0))) (fun _ => rfl) (by decide) (by decide) (by decide) ⟨Nat.le_of_ble_eq_true rfl, Nat.le_of_ble_eq_true rfl⟩ dX12_init_47 (fun q16 h17 => ?_)
  refine r_prF C wf_X12_25_11 rfl rfl dX12_init_49 (fun h18 => ?_)
  refine r_aload_n C dX12_init_52 0 rfl ?_
  refine r_bipush C dX12_init_53 k_b80 ?_
  refine r_newa (atype := .byte) (ty := .byte) (t0 := 2) hg C rfl rfl m_673 (N := 80) (a0 := (80, .inl (fun _ => 0))) (fun _ => rfl) (by decide) (by decide) (by decide) ⟨Nat.le_of_ble_eq_true rfl, Nat.le_of_ble_eq_true rfl⟩ dX12_init_55 (fun q19 h20 => ?_)
  refine r_prF C wf_X12_28_11 rfl rfl dX12_init_57 (fun h21 => ?_)
  refine r_aload_n C dX12_init_60 0 rfl ?_
  refine r_bipush C dX12_init_61 k_b16 ?_
  refine r_newa (atype := .long) (ty := .long) (t0 := 1) hg C rfl rfl m_241 (N := 16) (a0 := (16, .inr (.inl (fun _ => 0)))) (fun _ => rfl) (by decide) (by decide) (by decide) ⟨Nat.le_of_ble_eq_true rfl, Nat.le_of_ble_eq_true rfl⟩ dX12_init_63 (fun q22 h23 => ?_)
  refine r_prF C wf_X12_32_11 rfl rfl dX12_init_65 (fun h24 => ?_)
  refine r_aload_n C dX12_init_68 0 rfl ?_
  refine r_bipush C dX12_init_69 k_b64 ?_
  refine r_newa (atype := .int) (ty := .int) (t0 := 0) hg C rfl rfl m_227 (N := 64) (a0 := (64, .inl (fun _ => 0))) (fun _ => rfl) (by decide) (by decide) (by decide) ⟨Nat.le_of_ble_eq_true rfl, Nat.le_of_ble_eq_true rfl⟩ dX12_init_71 (fun q25 h26 => ?_)
  refine r_prF C wf_X12_36_11 rfl rfl dX12_init_73 (fun h27 => ?_)
  refine r_aload_n C dX12_init_76 0 rfl ?_
  refine r_bipush C dX12_init_77 k_b6 ?_
  refine r_newa (atype := .int) (ty := .int) (t0 := 0) hg C rfl rfl m_227 (N := 6) (a0 := (6, .inl (fun _ => 0))) (fun _ => rfl) (by decide) (by decide) (by decide) ⟨Nat.le_of_ble_eq_true rfl, Nat.le_of_ble_eq_true rfl⟩ dX12_init_79 (fun q28 h29 => ?_)
  refine r_prF C wf_X12_39_11 rfl rfl dX12_init_81 (fun h30 => ?_)
  refine r_aload_n C dX12_init_84 0 rfl ?_
  refine r_bipush C dX12_init_85 k_b40 ?_
  refine r_newa (atype := .byte) (ty := .byte) (t0 := 2) hg C rfl rfl m_673 (N := 40) (a0 := (40, .inl (fun _ => 0))) (fun _ => rfl) (by decide) (by decide) (by decide) ⟨Nat.le_of_ble_eq_true rfl, Nat.le_of_ble_eq_true rfl⟩ dX12_init_87 (fun q31 h32 => ?_)
  refine r_pr C wf_X12_42_11 rfl rfl dX12_init_89 (fun h33 => ?_)
  refine r_aload_n C dX12_init_92 0 rfl ?_
  refine r_bipush C dX12_init_93 k_b40 ?_
  refine r_newa (atype := .byte) (ty := .byte) (t0 := 2) hg C rfl rfl m_673 (N := 40) (a0 := (40, .inl (fun _ => 0))) (fun _ => rfl) (by decide) (by decide) (by decide) ⟨Nat.le_of_ble_eq_true rfl, Nat.le_of_ble_eq_true rfl⟩ dX12_init_95 (fun q34 h35 => ?_)
  refine r_pr C wf_X12_45_11 rfl rfl dX12_init_97 (fun h36 => ?_)
  refine r_aload_n C dX12_init_100 0 rfl ?_
  refine r_bipush C dX12_init_101 k_b7 ?_
  refine r_newa (atype := .int) (ty := .int) (t0 := 0) hg C rfl rfl m_227 (N := 7) (a0 := (7, .inl (fun _ => 0))) (fun _ => rfl) (by decide) (by decide) (by decide) ⟨Nat.le_of_ble_eq_true rfl, Nat.le_of_ble_eq_true rfl⟩ dX12_init_103 (fun q37 h38 => ?_)
  refine r_prF C wf_X12_48_11 rfl rfl dX12_init_105 (fun h39 => ?_)
  refine r_aload_n C dX12_init_108 0 rfl ?_
  refine r_sipush C dX12_init_109 k_s1056 ?_
  refine r_newa (atype := .int) (ty := .int) (t0 := 0) hg C rfl rfl m_227 (N := 1056) (a0 := (1056, .inl (fun _ => 0))) (fun _ => rfl) (by decide) (by decide) (by decide) ⟨Nat.le_of_ble_eq_true rfl, Nat.le_of_ble_eq_true rfl⟩ dX12_init_112 (fun q40 h41 => ?_)
  refine r_prF C wf_X12_51_11 rfl rfl dX12_init_114 (fun h42 => ?_)
  refine r_aload_n C dX12_init_117 0 rfl ?_
  refine r_bipush C dX12_init_118 k_b88 ?_
  refine r_newa (atype := .int) (ty := .int) (t0 := 0) hg C rfl rfl m_227 (N := 88) (a0 := (88, .inl (fun _ => 0))) (fun _ => rfl) (by decide) (by decide) (by decide) ⟨Nat.le_of_ble_eq_true rfl, Nat.le_of_ble_eq_true rfl⟩ dX12_init_120 (fun q43 h44 => ?_)
  refine r_prF C wf_X12_54_11 rfl rfl dX12_init_122 (fun h45 => ?_)
  refine r_aload_n C dX12_init_125 0 rfl ?_
  refine r_bipush C dX12_init_126 k_b88 ?_
  refine r_newa (atype := .int) (ty := .int) (t0 := 0) hg C rfl rfl m_227 (N := 88) (a0 := (88, .inl (fun _ => 0))) (fun _ => rfl) (by decide) (by decide) (by decide) ⟨Nat.le_of_ble_eq_true rfl, Nat.le_of_ble_eq_true rfl⟩ dX12_init_128 (fun q46 h47 => ?_)
  refine r_prF C wf_X12_57_11 rfl rfl dX12_init_130 (fun h48 => ?_)
  refine r_aload_n C dX12_init_133 0 rfl ?_
  refine r_iconst C dX12_init_134 k_i4 ?_
  refine r_newa (atype := .int) (ty := .int) (t0 := 0) hg C rfl rfl m_227 (N := 4) (a0 := (4, .inl (fun _ => 0))) (fun _ => rfl) (by decide) (by decide) (by decide) ⟨Nat.le_of_ble_eq_true rfl, Nat.le_of_ble_eq_true rfl⟩ dX12_init_135 (fun q49 h50 => ?_)
  refine r_prF C wf_X12_60_11 rfl rfl dX12_init_137 (fun h51 => ?_)
  refine r_aload_n C dX12_init_140 0 rfl ?_
  refine r_sipush C dX12_init_141 k_s240 ?_
  refine r_newa (atype := .int) (ty := .int) (t0 := 0) hg C rfl rfl m_227 (N := 240) (a0 := (240, .inl (fun _ => 0))) (fun _ => rfl) (by decide) (by decide) (by decide) ⟨Nat.le_of_ble_eq_true rfl, Nat.le_of_ble_eq_true rfl⟩ dX12_init_144 (fun q52 h53 => ?_)
  refine r_prF C wf_X12_63_11 rfl rfl dX12_init_146 (fun h54 => ?_)
  refine r_aload_n C dX12_init_149 0 rfl ?_
  refine r_iconst C dX12_init_150 k_i4 ?_
  refine r_newa (atype := .int) (ty := .int) (t0 := 0) hg C rfl rfl m_227 (N := 4) (a0 := (4, .inl (fun _ => 0))) (fun _ => rfl) (by decide) (by decide) (by decide) ⟨Nat.le_of_ble_eq_true rfl, Nat.le_of_ble_eq_true rfl⟩ dX12_init_151 (fun q55 h56 => ?_)
  refine r_prF C wf_X12_66_11 rfl rfl dX12_init_153 (fun h57 => ?_)
  refine r_aload_n C dX12_init_156 0 rfl ?_
  refine r_bipush C dX12_init_157 k_b12 ?_
  refine r_newa (atype := .int) (ty := .int) (t0 := 0) hg C rfl rfl m_227 (N := 12) (a0 := (12, .inl (fun _ => 0))) (fun _ => rfl) (by decide) (by decide) (by decide) ⟨Nat.le_of_ble_eq_true rfl, Nat.le_of_ble_eq_true rfl⟩ dX12_init_159 (fun q58 h59 => ?_)
  refine r_prF C wf_X12_69_11 rfl rfl dX12_init_161 (fun h60 => ?_)
  refine r_aload_n C dX12_init_164 0 rfl ?_
  refine r_bipush C dX12_init_165 k_b12 ?_
  refine r_newa (atype := .int) (ty := .int) (t0 := 0) hg C rfl rfl m_227 (N := 12) (a0 := (12, .inl (fun _ => 0))) (fun _ => rfl) (by decide) (by decide) (by decide) ⟨Nat.le_of_ble_eq_true rfl, Nat.le_of_ble_eq_true rfl⟩ dX12_init_167 (fun q61 h62 => ?_)
  refine r_prF C wf_X12_72_11 rfl rfl dX12_init_169 (fun h63 => ?_)
  refine r_aload_n C dX12_init_172 0 rfl ?_
  refine r_bipush C dX12_init_173 k_b12 ?_
  refine r_newa (atype := .int) (ty := .int) (t0 := 0) hg C rfl rfl m_227 (N := 12) (a0 := (12, .inl (fun _ => 0))) (fun _ => rfl) (by decide) (by decide) (by decide) ⟨Nat.le_of_ble_eq_true rfl, Nat.le_of_ble_eq_true rfl⟩ dX12_init_175 (fun q64 h65 => ?_)
  refine r_prF C wf_X12_75_11 rfl rfl dX12_init_177 (fun h66 => ?_)
  refine r_aload_n C dX12_init_180 0 rfl ?_
  refine r_bipush C dX12_init_181 k_b32 ?_
  refine r_newa (atype := .int) (ty := .int) (t0 := 0) hg C rfl rfl m_227 (N := 32) (a0 := (32, .inl (fun _ => 0))) (fun _ => rfl) (by decide) (by decide) (by decide) ⟨Nat.le_of_ble_eq_true rfl, Nat.le_of_ble_eq_true rfl⟩ dX12_init_183 (fun q67 h68 => ?_)
  refine r_prF C wf_X12_78_11 rfl rfl dX12_init_185 (fun h69 => ?_)
  refine r_aload_n C dX12_init_188 0 rfl ?_
  refine r_bipush C dX12_init_189 k_b10 ?_
  refine r_newa (atype := .int) (ty := .int) (t0 := 0) hg C rfl rfl m_227 (N := 10) (a0 := (10, .inl (fun _ => 0))) (fun _ => rfl) (by decide) (by decide) (by decide) ⟨Nat.le_of_ble_eq_true rfl, Nat.le_of_ble_eq_true rfl⟩ dX12_init_191 (fun q70 h71 => ?_)
  refine r_prF C wf_X12_81_11 rfl rfl dX12_init_193 (fun h72 => ?_)
  refine r_aload_n C dX12_init_196 0 rfl ?_
  refine r_bipush C dX12_init_197 k_b54 ?_
  refine r_newa (atype := .int) (ty := .int) (t0 := 0) hg C rfl rfl m_227 (N := 54) (a0 := (54, .inl (fun _ => 0))) (fun _ => rfl) (by decide) (by decide) (by decide) ⟨Nat.le_of_ble_eq_true rfl, Nat.le_of_ble_eq_true rfl⟩ dX12_init_199 (fun q73 h74 => ?_)
  refine r_prF C wf_X12_84_11 rfl rfl dX12_init_201 (fun h75 => ?_)
  refine r_aload_n C dX12_init_204 0 rfl ?_
  refine r_bipush C dX12_init_205 k_b6 ?_
  refine r_newa (atype := .int) (ty := .int) (t0 := 0) hg C rfl rfl m_227 (N := 6) (a0 := (6, .inl (fun _ => 0))) (fun _ => rfl) (by decide) (by decide) (by decide) ⟨Nat.le_of_ble_eq_true rfl, Nat.le_of_ble_eq_true rfl⟩ dX12_init_207 (fun q76 h77 => ?_)
  refine r_prF C wf_X12_87_11 rfl rfl dX12_init_209 (fun h78 => ?_)
  refine r_aload_n C dX12_init_212 0 rfl ?_
  refine r_bipush C dX12_init_213 k_b6 ?_
  refine r_newa (atype := .int) (ty := .int) (t0 := 0) hg C rfl rfl m_227 (N := 6) (a0 := (6, .inl (fun _ => 0))) (fun _ => rfl) (by decide) (by decide) (by decide) ⟨Nat.le_of_ble_eq_true rfl, Nat.le_of_ble_eq_true rfl⟩ dX12_init_215 (fun q79 h80 => ?_)
  refine r_prF C wf_X12_90_11 rfl rfl dX12_init_217 (fun h81 => ?_)
  refine r_aload_n C dX12_init_220 0 rfl ?_
  refine r_bipush C dX12_init_221 k_b8 ?_
  refine r_newa (atype := .int) (ty := .int) (t0 := 0) hg C rfl rfl m_227 (N := 8) (a0 := (8, .inl (fun _ => 0))) (fun _ => rfl) (by decide) (by decide) (by decide) ⟨Nat.le_of_ble_eq_true rfl, Nat.le_of_ble_eq_true rfl⟩ dX12_init_223 (fun q82 h83 => ?_)
  refine r_prF C wf_X12_93_11 rfl rfl dX12_init_225 (fun h84 => ?_)
  refine r_aload_n C dX12_init_228 0 rfl ?_
  refine r_sipush C dX12_init_229 k_s10000 ?_
  refine r_newa (atype := .int) (ty := .int) (t0 := 0) hg C rfl rfl m_227 (N := 10000) (a0 := (10000, .inl (fun _ => 0))) (fun _ => rfl) (by decide) (by decide) (by decide) ⟨Nat.le_of_ble_eq_true rfl, Nat.le_of_ble_eq_true rfl⟩ dX12_init_232 (fun q85 h86 => ?_)
  refine r_prF C wf_X12_96_11 rfl rfl dX12_init_234 (fun h87 => ?_)
  refine r_aload_n C dX12_init_237 0 rfl ?_
  refine r_sipush C dX12_init_238 k_s176 ?_
  refine r_newa (atype := .int) (ty := .int) (t0 := 0) hg C rfl rfl m_227 (N := 176) (a0 := (176, .inl (fun _ => 0))) (fun _ => rfl) (by decide) (by decide) (by decide) ⟨Nat.le_of_ble_eq_true rfl, Nat.le_of_ble_eq_true rfl⟩ dX12_init_241 (fun q88 h89 => ?_)
  refine r_prF C wf_X12_99_11 rfl rfl dX12_init_243 (fun h90 => ?_)
  refine r_aload_n C dX12_init_246 0 rfl ?_
  refine r_iconst C dX12_init_247 k_i2 ?_
  refine r_newa (atype := .boolean) (ty := .boolean) (t0 := 4) hg C rfl rfl m_1580 (N := 2) (a0 := (2, .inl (fun _ => 0))) (fun _ => rfl) (by decide) (by decide) (by decide) ⟨Nat.le_of_ble_eq_true rfl, Nat.le_of_ble_eq_true rfl⟩ dX12_init_248 (fun q91 h92 => ?_)
  refine r_prF C wf_X12_102_11 rfl rfl dX12_init_250 (fun h93 => ?_)
  refine r_aload_n C dX12_init_253 0 rfl ?_
  refine r_iconst C dX12_init_254 k_i2 ?_
  refine r_newa (atype := .int) (ty := .int) (t0 := 0) hg C rfl rfl m_227 (N := 2) (a0 := (2, .inl (fun _ => 0))) (fun _ => rfl) (by decide) (by decide) (by decide) ⟨Nat.le_of_ble_eq_true rfl, Nat.le_of_ble_eq_true rfl⟩ dX12_init_255 (fun q94 h95 => ?_)
  refine r_prF C wf_X12_106_11 rfl rfl dX12_init_257 (fun h96 => ?_)
  exact r_vret C dX12_init_260
set_option maxRecDepth 100000 in
set_option maxHeartbeats 4000000 in
theorem tcX12_thrown (l : Launch) (g : WG) (hg : p_al g = false) (o0 : Nat) (h : PH) : CT l g 1 0 0 yX12_thrown cX12_thrown 1 (some .int) em_i [p_rf g o0] h (fX12_thrown o0 h) := by
  refine CT_of (own := RX12) (nm := "thrown") (by decide +kernel) (Nat.le_of_ble_eq_true rfl) rfl rfl rfl ⟨rfl, rfl⟩ (fun K hK C => ?_)
  subst hK
  unfold fX12_thrown
  show VX K g _ _ _ _ _ [(0, p_rf g o0)] _ _ _
  refine r_aload_n C dX12_thrown_0 0 rfl ?_
  refine r_gi C wf_X12_109_11 dX12_thrown_1 (fun x1 => ?_)
  exact r_iret C dX12_thrown_4
set_option maxRecDepth 100000 in
set_option maxHeartbeats 4000000 in
theorem tcX12_in (l : Launch) (g : WG) (hg : p_al g = false) (i0 : Int32) (i1 : Int32) (i2 : Int32) (h : PH) : CT l g 1 0 0 yX12_in cX12_in 3 (some .boolean) em_i [.int i0, .int i1, .int i2] h (fX12_in i0 i1 i2 h) := by
  refine CT_of (own := RX12) (nm := "in") (by decide +kernel) (Nat.le_of_ble_eq_true rfl) rfl rfl rfl ⟨rfl, rfl⟩ (fun K hK C => ?_)
  subst hK
  unfold fX12_in
  show VX K g _ _ _ _ _ [(0, .int i0), (1, .int i1), (2, .int i2)] _ _ _
  refine r_iload_n C dX12_in_0 0 rfl ?_
  refine r_iload_n C dX12_in_1 1 rfl ?_
  refine r_icmp_lt (tgt := 14) C dX12_in_2 (by decide) ?_ ?_
  · refine r_iconst C dX12_in_14 k_i0 ?_
    exact r_zret C dX12_in_15
  · refine r_iload_n C dX12_in_5 0 rfl ?_
    refine r_iload_n C dX12_in_6 2 rfl ?_
    refine r_icmp_gt (tgt := 14) C dX12_in_7 (by decide) ?_ ?_
    · refine r_iconst C dX12_in_14 k_i0 ?_
      exact r_zret C dX12_in_15
    · refine r_iconst C dX12_in_10 k_i1 ?_
      refine r_goto (tgt := 15) C dX12_in_11 (by decide) ?_
      exact r_zret C dX12_in_15
set_option maxRecDepth 100000 in
set_option maxHeartbeats 4000000 in
theorem tcX12_has (l : Launch) (g : WG) (hg : p_al g = false) (i0 : Int32) (i1 : Int32) (h : PH) : CT l g 1 0 0 yX12_has cX12_has 2 (some .boolean) em_i [.int i0, .int i1] h (fX12_has i0 i1 h) := by
  refine CT_of (own := RX12) (nm := "has") (by decide +kernel) (Nat.le_of_ble_eq_true rfl) rfl rfl rfl ⟨rfl, rfl⟩ (fun K hK C => ?_)
  subst hK
  unfold fX12_has
  show VX K g _ _ _ _ _ [(0, .int i0), (1, .int i1)] _ _ _
  refine r_iload_n C dX12_has_0 0 rfl ?_
  refine r_iload_n C dX12_has_1 1 rfl ?_
  refine r_ishr C dX12_has_2 ?_
  refine r_iconst C dX12_has_3 k_i1 ?_
  refine r_iand C dX12_has_4 ?_
  refine r_iconst C dX12_has_5 k_i1 ?_
  refine r_icmp_ne (tgt := 13) C dX12_has_6 (by decide) ?_ ?_
  · refine r_iconst C dX12_has_13 k_i0 ?_
    exact r_zret C dX12_has_14
  · refine r_iconst C dX12_has_9 k_i1 ?_
    refine r_goto (tgt := 14) C dX12_has_10 (by decide) ?_
    exact r_zret C dX12_has_14
set_option maxRecDepth 100000 in
set_option maxHeartbeats 4000000 in
theorem tcX12_lost (l : Launch) (g : WG) (hg : p_al g = false) (o0 : Nat) (h : PH) : CT l g 1 0 0 yX12_lost cX12_lost 1 (some .int) em_i [p_rf g o0] h (fX12_lost o0 h) := by
  refine CT_of (own := RX12) (nm := "lost") (by decide +kernel) (Nat.le_of_ble_eq_true rfl) rfl rfl rfl ⟨rfl, rfl⟩ (fun K hK C => ?_)
  subst hK
  unfold fX12_lost
  show VX K g _ _ _ _ _ [(0, p_rf g o0)] _ _ _
  refine r_aload_n C dX12_lost_0 0 rfl ?_
  refine r_iconst C dX12_lost_1 k_i1 ?_
  refine r_pi C wf_X12_109_11 dX12_lost_2 (fun h1 => ?_)
  refine r_iconst C dX12_lost_5 k_i0 ?_
  exact r_iret C dX12_lost_6
set_option maxRecDepth 100000 in
set_option maxHeartbeats 4000000 in
theorem tcX12_tell (l : Launch) (g : WG) (hg : p_al g = false) (o0 : Nat) (l1 : Int64) (h : PH) : CT l g 1 0 0 yX12_tell cX12_tell 3 none em_v [p_rf g o0, .long l1] h (fX12_tell o0 l1 h) := by
  refine CT_of (own := RX12) (nm := "tell") (by decide +kernel) (Nat.le_of_ble_eq_true rfl) rfl rfl rfl ⟨rfl, rfl⟩ (fun K hK C => ?_)
  subst hK
  unfold fX12_tell
  show VX K g _ _ _ _ _ [(0, p_rf g o0), (1, .long l1)] _ _ _
  refine r_aload_n C dX12_tell_0 0 rfl ?_
  refine r_gr C wf_X12_32_11 dX12_tell_1 (fun q1 => ?_)
  refine r_aload_n C dX12_tell_4 0 rfl ?_
  refine r_gi C wf_X12_113_11 dX12_tell_5 (fun x2 => ?_)
  refine r_lload_n C dX12_tell_8 1 rfl ?_
  refine r_last hg C dX12_tell_9 (fun h3 => ?_)
  refine r_aload_n C dX12_tell_10 0 rfl ?_
  refine r_dup C dX12_tell_11 rfl ?_
  refine r_gi C wf_X12_113_11 dX12_tell_12 (fun x4 => ?_)
  refine r_iconst C dX12_tell_15 k_i1 ?_
  refine r_iadd C dX12_tell_16 ?_
  refine r_pi C wf_X12_113_11 dX12_tell_17 (fun h5 => ?_)
  exact r_vret C dX12_tell_20
set_option maxRecDepth 100000 in
set_option maxHeartbeats 4000000 in
theorem tcX12_isGround (l : Launch) (g : WG) (hg : p_al g = false) (o0 : Nat) (i1 : Int32) (h : PH) : CT l g 2 0 0 yX12_isGround cX12_isGround 2 (some .boolean) em_i [p_rf g o0, .int i1] h (fX12_isGround o0 i1 h) := by
  refine CT_of (own := RX12) (nm := "isGround") (by decide +kernel) (Nat.le_of_ble_eq_true rfl) rfl rfl rfl ⟨rfl, rfl⟩ (fun K hK C => ?_)
  subst hK
  unfold fX12_isGround
  show VX K g _ _ _ _ _ [(0, p_rf g o0), (1, .int i1)] _ _ _
  refine r_iload_n C dX12_isGround_0 1 rfl ?_
  refine r_iconst C dX12_isGround_1 k_i0 ?_
  refine r_aload_n C dX12_isGround_2 0 rfl ?_
  refine r_gi C wf_X12_116_11 dX12_isGround_3 (fun x1 => ?_)
  refine r_iconst C dX12_isGround_6 k_i1 ?_
  refine r_isub C dX12_isGround_7 ?_
  refine r_csi (As := [.int i1, .int (0 : Int32), .int (x1 - (1 : Int32))]) (st := []) C ws_X12_119 (tcX12_in K.2.1 g hg i1 (0 : Int32) (x1 - (1 : Int32)) h) (Nat.le_of_ble_eq_true rfl) rfl rfl (Nat.le_of_ble_eq_true rfl) dX12_isGround_8 ⟨Nat.le_of_ble_eq_true rfl, Nat.le_of_ble_eq_true rfl⟩ (fun x2 h3 => ?_)
  exact r_zret C dX12_isGround_11
set_option maxRecDepth 100000 in
set_option maxHeartbeats 4000000 in
theorem tcX12_isMan (l : Launch) (g : WG) (hg : p_al g = false) (o0 : Nat) (i1 : Int32) (h : PH) : CT l g 2 0 0 yX12_isMan cX12_isMan 2 (some .boolean) em_i [p_rf g o0, .int i1] h (fX12_isMan o0 i1 h) := by
  refine CT_of (own := RX12) (nm := "isMan") (by decide +kernel) (Nat.le_of_ble_eq_true rfl) rfl rfl rfl ⟨rfl, rfl⟩ (fun K hK C => ?_)
  subst hK
  unfold fX12_isMan
  show VX K g _ _ _ _ _ [(0, p_rf g o0), (1, .int i1)] _ _ _
  refine r_iload_n C dX12_isMan_0 1 rfl ?_
  refine r_iconst C dX12_isMan_1 k_i0 ?_
  refine r_aload_n C dX12_isMan_2 0 rfl ?_
  refine r_gi C wf_X12_123_11 dX12_isMan_3 (fun x1 => ?_)
  refine r_iconst C dX12_isMan_6 k_i1 ?_
  refine r_isub C dX12_isMan_7 ?_
  refine r_csi (As := [.int i1, .int (0 : Int32), .int (x1 - (1 : Int32))]) (st := []) C ws_X12_119 (tcX12_in K.2.1 g hg i1 (0 : Int32) (x1 - (1 : Int32)) h) (Nat.le_of_ble_eq_true rfl) rfl rfl (Nat.le_of_ble_eq_true rfl) dX12_isMan_8 ⟨Nat.le_of_ble_eq_true rfl, Nat.le_of_ble_eq_true rfl⟩ (fun x2 h3 => ?_)
  exact r_zret C dX12_isMan_11
set_option maxRecDepth 100000 in
set_option maxHeartbeats 4000000 in
theorem tcX12_isWant (l : Launch) (g : WG) (hg : p_al g = false) (o0 : Nat) (i1 : Int32) (h : PH) : CT l g 2 0 0 yX12_isWant cX12_isWant 2 (some .boolean) em_i [p_rf g o0, .int i1] h (fX12_isWant o0 i1 h) := by
  refine CT_of (own := RX12) (nm := "isWant") (by decide +kernel) (Nat.le_of_ble_eq_true rfl) rfl rfl rfl ⟨rfl, rfl⟩ (fun K hK C => ?_)
  subst hK
  unfold fX12_isWant
  show VX K g _ _ _ _ _ [(0, p_rf g o0), (1, .int i1)] _ _ _
  refine r_iload_n C dX12_isWant_0 1 rfl ?_
  refine r_iconst C dX12_isWant_1 k_i0 ?_
  refine r_aload_n C dX12_isWant_2 0 rfl ?_
  refine r_gi C wf_X12_126_11 dX12_isWant_3 (fun x1 => ?_)
  refine r_iconst C dX12_isWant_6 k_i1 ?_
  refine r_isub C dX12_isWant_7 ?_
  refine r_csi (As := [.int i1, .int (0 : Int32), .int (x1 - (1 : Int32))]) (st := []) C ws_X12_119 (tcX12_in K.2.1 g hg i1 (0 : Int32) (x1 - (1 : Int32)) h) (Nat.le_of_ble_eq_true rfl) rfl rfl (Nat.le_of_ble_eq_true rfl) dX12_isWant_8 ⟨Nat.le_of_ble_eq_true rfl, Nat.le_of_ble_eq_true rfl⟩ (fun x2 h3 => ?_)
  exact r_zret C dX12_isWant_11
set_option maxRecDepth 100000 in
set_option maxHeartbeats 4000000 in
theorem tcX12_all (l : Launch) (g : WG) (hg : p_al g = false) (o0 : Nat) (h : PH) : CT l g 1 0 0 yX12_all cX12_all 1 (some .int) em_i [p_rf g o0] h (fX12_all o0 h) := by
  refine CT_of (own := RX12) (nm := "all") (by decide +kernel) (Nat.le_of_ble_eq_true rfl) rfl rfl rfl ⟨rfl, rfl⟩ (fun K hK C => ?_)
  subst hK
  unfold fX12_all
  show VX K g _ _ _ _ _ [(0, p_rf g o0)] _ _ _
  refine r_iconst C dX12_all_0 k_i1 ?_
  refine r_aload_n C dX12_all_1 0 rfl ?_
  refine r_gi C wf_X12_116_11 dX12_all_2 (fun x1 => ?_)
  refine r_ishl C dX12_all_5 ?_
  refine r_iconst C dX12_all_6 k_i1 ?_
  refine r_isub C dX12_all_7 ?_
  exact r_iret C dX12_all_8
set_option maxRecDepth 100000 in
set_option maxHeartbeats 4000000 in
theorem tX12_sign_L20 {K : AC} {g : WG} (hg : p_al g = false)  (C : Cx K g cX12_sign 3 RX12 (some .int) "sign" 1 0 0) (o0 : Nat) (i1 : Int32) {kx : PH → Option (Int32 × PH)} (hk : ∀  (h : PH), VX K g 3 0 0 (a_fin K g 0 0 em_i) 53 [(0, p_rf g o0)] [] h (kx h)) : ∀ (n : Nat) (i2 : Int32) (h : PH), VX K g 3 0 0 (a_fin K g 0 0 em_i) 20 [(0, p_rf g o0), (1, .int i1), (2, .int i2)] [] h (fX12_sign_L20 o0 i1 kx n i2 h) := by
  intro n
  induction n with
  | zero =>
    intros
    exact r_none
  | succ n ih =>
    intro i2 h
    rw [fX12_sign_L20]
    refine r_iload_n C dX12_sign_20 2 rfl ?_
    refine r_if_lt (tgt := 53) C dX12_sign_21 (by decide) ?_ ?_
    · refine r_perm (lv' := [(0, p_rf g o0)]) [0] rfl ?_
      exact hk h
    · refine r_aload_n C dX12_sign_24 0 rfl ?_
      refine r_gr C wf_X12_28_11 dX12_sign_25 (fun q1 => ?_)
      refine r_aload_n C dX12_sign_28 0 rfl ?_
      refine r_dup C dX12_sign_29 rfl ?_
      refine r_gi C wf_X12_129_11 dX12_sign_30 (fun x2 => ?_)
      refine r_dup_x1 C dX12_sign_33 rfl rfl ?_
      refine r_iconst C dX12_sign_34 k_i1 ?_
      refine r_iadd C dX12_sign_35 ?_
      refine r_pi C wf_X12_129_11 dX12_sign_36 (fun h3 => ?_)
      refine r_iload_n C dX12_sign_39 1 rfl ?_
      refine r_bipush C dX12_sign_40 k_b8 ?_
      refine r_iload_n C dX12_sign_42 2 rfl ?_
      refine r_imul C dX12_sign_43 ?_
      refine r_ishr C dX12_sign_44 ?_
      refine r_i2b C dX12_sign_45 ?_
      refine r_bast hg C dX12_sign_46 (fun h4 => ?_)
      refine r_iinc (lv' := [(0, p_rf g o0), (1, .int i1)]) C dX12_sign_47 2 rfl k_im1 (by decide) (fun _ => rfl) (fun x5 => ?_)
      refine r_goto (tgt := 20) C dX12_sign_50 (by decide) ?_
      refine r_perm (lv' := [(0, p_rf g o0), (1, .int i1), (2, .int x5)]) [1, 2, 0] rfl ?_
      exact ih x5 h4
set_option maxRecDepth 100000 in
set_option maxHeartbeats 4000000 in
theorem tcX12_sign (l : Launch) (g : WG) (hg : p_al g = false) (o0 : Nat) (i1 : Int32) (h : PH) : CT l g 1 0 0 yX12_sign cX12_sign 3 (some .int) em_i [p_rf g o0, .int i1] h (fX12_sign o0 i1 h) := by
  refine CT_of (own := RX12) (nm := "sign") (by decide +kernel) (Nat.le_of_ble_eq_true rfl) rfl rfl rfl ⟨rfl, rfl⟩ (fun K hK C => ?_)
  subst hK
  unfold fX12_sign
  show VX K g _ _ _ _ _ [(0, p_rf g o0), (1, .int i1)] _ _ _
  refine r_aload_n C dX12_sign_0 0 rfl ?_
  refine r_iconst C dX12_sign_1 k_i0 ?_
  refine r_pi C wf_X12_109_11 dX12_sign_2 (fun h1 => ?_)
  refine r_aload_n C dX12_sign_5 0 rfl ?_
  refine r_gi C wf_X12_129_11 dX12_sign_6 (fun x2 => ?_)
  refine r_iconst C dX12_sign_9 k_i4 ?_
  refine r_iadd C dX12_sign_10 ?_
  refine r_bipush C dX12_sign_11 k_b80 ?_
  refine r_icmp_le (tgt := 18) C dX12_sign_13 (by decide) ?_ ?_
  · refine r_iconst C dX12_sign_18 k_i3 ?_
    refine r_istore_n (lv9 := [(2, .int (3 : Int32)), (0, p_rf g o0), (1, .int i1)]) C dX12_sign_19 (by decide) rfl ?_
    refine r_perm (lv' := [(0, p_rf g o0), (1, .int i1), (2, .int (3 : Int32))]) [1, 2, 0] rfl ?_
    refine tX12_sign_L20 hg C o0 i1 (fun h3 => ?_) FU (3 : Int32) h1
    refine r_aload_n C dX12_sign_53 0 rfl ?_
    refine r_gi C wf_X12_129_11 dX12_sign_54 (fun x4 => ?_)
    exact r_iret C dX12_sign_57
  · refine r_iconst C dX12_sign_16 k_im1 ?_
    exact r_iret C dX12_sign_17
set_option maxRecDepth 100000 in
set_option maxHeartbeats 4000000 in
theorem tcX12_end (l : Launch) (g : WG) (hg : p_al g = false) (o0 : Nat) (i1 : Int32) (h : PH) : CT l g 2 0 0 yX12_end cX12_end 2 (some .boolean) em_i [p_rf g o0, .int i1] h (fX12_end o0 i1 h) := by
  refine CT_of (own := RX12) (nm := "end") (by decide +kernel) (Nat.le_of_ble_eq_true rfl) rfl rfl rfl ⟨rfl, rfl⟩ (fun K hK C => ?_)
  subst hK
  unfold fX12_end
  show VX K g _ _ _ _ _ [(0, p_rf g o0), (1, .int i1)] _ _ _
  refine r_aload_n C dX12_end_0 0 rfl ?_
  refine r_iconst C dX12_end_1 k_i0 ?_
  refine r_pi C wf_X12_109_11 dX12_end_2 (fun h1 => ?_)
  refine r_iload_n C dX12_end_5 1 rfl ?_
  refine r_iconst C dX12_end_6 k_i0 ?_
  refine r_aload_n C dX12_end_7 0 rfl ?_
  refine r_gi C wf_X12_129_11 dX12_end_8 (fun x2 => ?_)
  refine r_csi (As := [.int i1, .int (0 : Int32), .int x2]) (st := []) C ws_X12_119 (tcX12_in K.2.1 g hg i1 (0 : Int32) x2 h1) (Nat.le_of_ble_eq_true rfl) rfl rfl (Nat.le_of_ble_eq_true rfl) dX12_end_11 ⟨Nat.le_of_ble_eq_true rfl, Nat.le_of_ble_eq_true rfl⟩ (fun x3 h4 => ?_)
  refine r_if_ne (tgt := 19) C dX12_end_14 (by decide) ?_ ?_
  · refine r_aload_n C dX12_end_19 0 rfl ?_
    refine r_iload_n C dX12_end_20 1 rfl ?_
    refine r_pi C wf_X12_129_11 dX12_end_21 (fun h5 => ?_)
    refine r_iconst C dX12_end_24 k_i1 ?_
    exact r_zret C dX12_end_25
  · refine r_iconst C dX12_end_17 k_i0 ?_
    exact r_zret C dX12_end_18
set_option maxRecDepth 100000 in
set_option maxHeartbeats 4000000 in
theorem tcX12_begin (l : Launch) (g : WG) (hg : p_al g = false) (o0 : Nat) (o1 : Nat) (i2 : Int32) (i3 : Int32) (h : PH) : CT l g 1 0 0 yX12_begin cX12_begin 4 none em_v [p_rf g o0, p_rf g o1, .int i2, .int i3] h (fX12_begin o0 o1 i2 i3 h) := by
  refine CT_of (own := RX12) (nm := "begin") (by decide +kernel) (Nat.le_of_ble_eq_true rfl) rfl rfl rfl ⟨rfl, rfl⟩ (fun K hK C => ?_)
  subst hK
  unfold fX12_begin
  show VX K g _ _ _ _ _ [(0, p_rf g o0), (1, p_rf g o1), (2, .int i2), (3, .int i3)] _ _ _
  refine r_aload_n C dX12_begin_0 0 rfl ?_
  refine r_aload_n C dX12_begin_1 1 rfl ?_
  refine r_pr C wf_X12_132_11 rfl rfl dX12_begin_2 (fun h1 => ?_)
  refine r_aload_n C dX12_begin_5 0 rfl ?_
  refine r_iload_n C dX12_begin_6 2 rfl ?_
  refine r_pi C wf_X12_135_11 dX12_begin_7 (fun h2 => ?_)
  refine r_aload_n C dX12_begin_10 0 rfl ?_
  refine r_iload_n C dX12_begin_11 3 rfl ?_
  refine r_pi C wf_X12_138_11 dX12_begin_12 (fun h3 => ?_)
  refine r_aload_n C dX12_begin_15 0 rfl ?_
  refine r_iconst C dX12_begin_16 k_i0 ?_
  refine r_pi C wf_X12_141_11 dX12_begin_17 (fun h4 => ?_)
  refine r_aload_n C dX12_begin_20 0 rfl ?_
  refine r_iconst C dX12_begin_21 k_im1 ?_
  refine r_pi C wf_X12_144_11 dX12_begin_22 (fun h5 => ?_)
  exact r_vret C dX12_begin_25
set_option maxRecDepth 100000 in
set_option maxHeartbeats 4000000 in
theorem tcX12_beginText (l : Launch) (g : WG) (hg : p_al g = false) (o0 : Nat) (i1 : Int32) (h : PH) : CT l g 2 0 0 yX12_beginText cX12_beginText 2 none em_v [p_rf g o0, .int i1] h (fX12_beginText o0 i1 h) := by
  refine CT_of (own := RX12) (nm := "beginText") (by decide +kernel) (Nat.le_of_ble_eq_true rfl) rfl rfl rfl ⟨rfl, rfl⟩ (fun K hK C => ?_)
  subst hK
  unfold fX12_beginText
  show VX K g _ _ _ _ _ [(0, p_rf g o0), (1, .int i1)] _ _ _
  refine r_aload_n C dX12_beginText_0 0 rfl ?_
  refine r_aload_n C dX12_beginText_1 0 rfl ?_
  refine r_gr C wf_X12_28_11 dX12_beginText_2 (fun q1 => ?_)
  refine r_aload_n C dX12_beginText_5 0 rfl ?_
  refine r_gi C wf_X12_129_11 dX12_beginText_6 (fun x2 => ?_)
  refine r_iload_n C dX12_beginText_9 1 rfl ?_
  refine r_cvv (As := [p_rf g q1, .int x2, .int i1]) (st := []) C wv_X12_147 (tcX12_begin K.2.1 g hg o0 q1 x2 i1 h) (Nat.le_of_ble_eq_true rfl) rfl rfl (Nat.le_of_ble_eq_true rfl) dX12_beginText_10 ⟨Nat.le_of_ble_eq_true rfl, Nat.le_of_ble_eq_true rfl⟩ (fun h3 => ?_)
  refine r_aload_n C dX12_beginText_13 0 rfl ?_
  refine r_iconst C dX12_beginText_14 k_i0 ?_
  refine r_pi C wf_X12_129_11 dX12_beginText_15 (fun h4 => ?_)
  exact r_vret C dX12_beginText_18
set_option maxRecDepth 100000 in
set_option maxHeartbeats 4000000 in
theorem tcX12_here (l : Launch) (g : WG) (hg : p_al g = false) (o0 : Nat) (h : PH) : CT l g 1 0 0 yX12_here cX12_here 1 (some .int) em_i [p_rf g o0] h (fX12_here o0 h) := by
  refine CT_of (own := RX12) (nm := "here") (by decide +kernel) (Nat.le_of_ble_eq_true rfl) rfl rfl rfl ⟨rfl, rfl⟩ (fun K hK C => ?_)
  subst hK
  unfold fX12_here
  show VX K g _ _ _ _ _ [(0, p_rf g o0)] _ _ _
  refine r_aload_n C dX12_here_0 0 rfl ?_
  refine r_gi C wf_X12_141_11 dX12_here_1 (fun x1 => ?_)
  refine r_aload_n C dX12_here_4 0 rfl ?_
  refine r_gi C wf_X12_135_11 dX12_here_5 (fun x2 => ?_)
  refine r_icmp_ge (tgt := 38) C dX12_here_8 (by decide) ?_ ?_
  · refine r_iconst C dX12_here_38 k_im1 ?_
    exact r_iret C dX12_here_39
  · refine r_aload_n C dX12_here_11 0 rfl ?_
    refine r_gi C wf_X12_141_11 dX12_here_12 (fun x3 => ?_)
    refine r_aload_n C dX12_here_15 0 rfl ?_
    refine r_gi C wf_X12_138_11 dX12_here_16 (fun x4 => ?_)
    refine r_icmp_ge (tgt := 38) C dX12_here_19 (by decide) ?_ ?_
    · refine r_iconst C dX12_here_38 k_im1 ?_
      exact r_iret C dX12_here_39
    · refine r_aload_n C dX12_here_22 0 rfl ?_
      refine r_gr C wf_X12_132_11 dX12_here_23 (fun q5 => ?_)
      refine r_aload_n C dX12_here_26 0 rfl ?_
      refine r_gi C wf_X12_141_11 dX12_here_27 (fun x6 => ?_)
      refine r_bald C dX12_here_30 (fun x7 => ?_)
      refine r_sipush C dX12_here_31 k_s255 ?_
      refine r_iand C dX12_here_34 ?_
      refine r_goto (tgt := 39) C dX12_here_35 (by decide) ?_
      exact r_iret C dX12_here_39
set_option maxRecDepth 100000 in
set_option maxHeartbeats 4000000 in
theorem tcX12_fine (l : Launch) (g : WG) (hg : p_al g = false) (o0 : Nat) (h : PH) : CT l g 1 0 0 yX12_fine cX12_fine 1 (some .boolean) em_i [p_rf g o0] h (fX12_fine o0 h) := by
  refine CT_of (own := RX12) (nm := "fine") (by decide +kernel) (Nat.le_of_ble_eq_true rfl) rfl rfl rfl ⟨rfl, rfl⟩ (fun K hK C => ?_)
  subst hK
  unfold fX12_fine
  show VX K g _ _ _ _ _ [(0, p_rf g o0)] _ _ _
  refine r_aload_n C dX12_fine_0 0 rfl ?_
  refine r_gi C wf_X12_144_11 dX12_fine_1 (fun x1 => ?_)
  refine r_iconst C dX12_fine_4 k_im1 ?_
  refine r_icmp_ne (tgt := 12) C dX12_fine_5 (by decide) ?_ ?_
  · refine r_iconst C dX12_fine_12 k_i0 ?_
    exact r_zret C dX12_fine_13
  · refine r_iconst C dX12_fine_8 k_i1 ?_
    refine r_goto (tgt := 13) C dX12_fine_9 (by decide) ?_
    exact r_zret C dX12_fine_13
set_option maxRecDepth 100000 in
set_option maxHeartbeats 4000000 in
theorem tcX12_fault (l : Launch) (g : WG) (hg : p_al g = false) (o0 : Nat) (i1 : Int32) (h : PH) : CT l g 2 0 0 yX12_fault cX12_fault 2 none em_v [p_rf g o0, .int i1] h (fX12_fault o0 i1 h) := by
  refine CT_of (own := RX12) (nm := "fault") (by decide +kernel) (Nat.le_of_ble_eq_true rfl) rfl rfl rfl ⟨rfl, rfl⟩ (fun K hK C => ?_)
  subst hK
  unfold fX12_fault
  show VX K g _ _ _ _ _ [(0, p_rf g o0), (1, .int i1)] _ _ _
  refine r_aload_n C dX12_fault_0 0 rfl ?_
  refine r_cvi (As := []) (st := []) C wv_X12_151 (tcX12_fine K.2.1 g hg o0 h) (Nat.le_of_ble_eq_true rfl) rfl rfl (Nat.le_of_ble_eq_true rfl) dX12_fault_1 ⟨Nat.le_of_ble_eq_true rfl, Nat.le_of_ble_eq_true rfl⟩ (fun x1 h2 => ?_)
  refine r_if_eq (tgt := 12) C dX12_fault_4 (by decide) ?_ ?_
  · exact r_vret C dX12_fault_12
  · refine r_aload_n C dX12_fault_7 0 rfl ?_
    refine r_iload_n C dX12_fault_8 1 rfl ?_
    refine r_pi C wf_X12_144_11 dX12_fault_9 (fun h3 => ?_)
    exact r_vret C dX12_fault_12
set_option maxRecDepth 100000 in
set_option maxHeartbeats 4000000 in
theorem tcX12_passes (l : Launch) (g : WG) (hg : p_al g = false) (o0 : Nat) (i1 : Int32) (h : PH) : CT l g 2 0 0 yX12_passes cX12_passes 2 (some .boolean) em_i [p_rf g o0, .int i1] h (fX12_passes o0 i1 h) := by
  refine CT_of (own := RX12) (nm := "passes") (by decide +kernel) (Nat.le_of_ble_eq_true rfl) rfl rfl rfl ⟨rfl, rfl⟩ (fun K hK C => ?_)
  subst hK
  unfold fX12_passes
  show VX K g _ _ _ _ _ [(0, p_rf g o0), (1, .int i1)] _ _ _
  refine r_aload_n C dX12_passes_0 0 rfl ?_
  refine r_cvi (As := []) (st := []) C wv_X12_151 (tcX12_fine K.2.1 g hg o0 h) (Nat.le_of_ble_eq_true rfl) rfl rfl (Nat.le_of_ble_eq_true rfl) dX12_passes_1 ⟨Nat.le_of_ble_eq_true rfl, Nat.le_of_ble_eq_true rfl⟩ (fun x1 h2 => ?_)
  refine r_if_eq (tgt := 15) C dX12_passes_4 (by decide) ?_ ?_
  · refine r_iconst C dX12_passes_15 k_i0 ?_
    exact r_zret C dX12_passes_16
  · refine r_aload_n C dX12_passes_7 0 rfl ?_
    refine r_cvi (As := []) (st := []) C wv_X12_155 (tcX12_here K.2.1 g hg o0 h2) (Nat.le_of_ble_eq_true rfl) rfl rfl (Nat.le_of_ble_eq_true rfl) dX12_passes_8 ⟨Nat.le_of_ble_eq_true rfl, Nat.le_of_ble_eq_true rfl⟩ (fun x3 h4 => ?_)
    refine r_iload_n C dX12_passes_11 1 rfl ?_
    refine r_icmp_eq (tgt := 17) C dX12_passes_12 (by decide) ?_ ?_
    · refine r_aload_n C dX12_passes_17 0 rfl ?_
      refine r_dup C dX12_passes_18 rfl ?_
      refine r_gi C wf_X12_141_11 dX12_passes_19 (fun x5 => ?_)
      refine r_iconst C dX12_passes_22 k_i1 ?_
      refine r_iadd C dX12_passes_23 ?_
      refine r_pi C wf_X12_141_11 dX12_passes_24 (fun h6 => ?_)
      refine r_iconst C dX12_passes_27 k_i1 ?_
      exact r_zret C dX12_passes_28
    · refine r_iconst C dX12_passes_15 k_i0 ?_
      exact r_zret C dX12_passes_16
set_option maxRecDepth 100000 in
set_option maxHeartbeats 4000000 in
theorem tcX12_need (l : Launch) (g : WG) (hg : p_al g = false) (o0 : Nat) (i1 : Int32) (h : PH) : CT l g 3 0 0 yX12_need cX12_need 2 none em_v [p_rf g o0, .int i1] h (fX12_need o0 i1 h) := by
  refine CT_of (own := RX12) (nm := "need") (by decide +kernel) (Nat.le_of_ble_eq_true rfl) rfl rfl rfl ⟨rfl, rfl⟩ (fun K hK C => ?_)
  subst hK
  unfold fX12_need
  show VX K g _ _ _ _ _ [(0, p_rf g o0), (1, .int i1)] _ _ _
  refine r_aload_n C dX12_need_0 0 rfl ?_
  refine r_iload_n C dX12_need_1 1 rfl ?_
  refine r_cvi (As := [.int i1]) (st := []) C wv_X12_159 (tcX12_passes K.2.1 g hg o0 i1 h) (Nat.le_of_ble_eq_true rfl) rfl rfl (Nat.le_of_ble_eq_true rfl) dX12_need_2 ⟨Nat.le_of_ble_eq_true rfl, Nat.le_of_ble_eq_true rfl⟩ (fun x1 h2 => ?_)
  refine r_if_ne (tgt := 16) C dX12_need_5 (by decide) ?_ ?_
  · exact r_vret C dX12_need_16
  · refine r_aload_n C dX12_need_8 0 rfl ?_
    refine r_aload_n C dX12_need_9 0 rfl ?_
    refine r_gi C wf_X12_141_11 dX12_need_10 (fun x3 => ?_)
    refine r_cvv (As := [.int x3]) (st := []) C wv_X12_163 (tcX12_fault K.2.1 g hg o0 x3 h2) (Nat.le_of_ble_eq_true rfl) rfl rfl (Nat.le_of_ble_eq_true rfl) dX12_need_13 ⟨Nat.le_of_ble_eq_true rfl, Nat.le_of_ble_eq_true rfl⟩ (fun h4 => ?_)
    exact r_vret C dX12_need_16
set_option maxRecDepth 100000 in
set_option maxHeartbeats 4000000 in
theorem tcX12_oneOf (l : Launch) (g : WG) (hg : p_al g = false) (o0 : Nat) (i1 : Int32) (i2 : Int32) (h : PH) : CT l g 3 0 0 yX12_oneOf cX12_oneOf 3 (some .int) em_i [p_rf g o0, .int i1, .int i2] h (fX12_oneOf o0 i1 i2 h) := by
  refine CT_of (own := RX12) (nm := "oneOf") (by decide +kernel) (Nat.le_of_ble_eq_true rfl) rfl rfl rfl ⟨rfl, rfl⟩ (fun K hK C => ?_)
  subst hK
  unfold fX12_oneOf
  show VX K g _ _ _ _ _ [(0, p_rf g o0), (1, .int i1), (2, .int i2)] _ _ _
  refine r_aload_n C dX12_oneOf_0 0 rfl ?_
  refine r_cvi (As := []) (st := []) C wv_X12_151 (tcX12_fine K.2.1 g hg o0 h) (Nat.le_of_ble_eq_true rfl) rfl rfl (Nat.le_of_ble_eq_true rfl) dX12_oneOf_1 ⟨Nat.le_of_ble_eq_true rfl, Nat.le_of_ble_eq_true rfl⟩ (fun x1 h2 => ?_)
  refine r_if_ne (tgt := 9) C dX12_oneOf_4 (by decide) ?_ ?_
  · refine r_aload_n C dX12_oneOf_9 0 rfl ?_
    refine r_cvi (As := []) (st := []) C wv_X12_155 (tcX12_here K.2.1 g hg o0 h2) (Nat.le_of_ble_eq_true rfl) rfl rfl (Nat.le_of_ble_eq_true rfl) dX12_oneOf_10 ⟨Nat.le_of_ble_eq_true rfl, Nat.le_of_ble_eq_true rfl⟩ (fun x3 h4 => ?_)
    refine r_iload_n C dX12_oneOf_13 1 rfl ?_
    refine r_iload_n C dX12_oneOf_14 1 rfl ?_
    refine r_iload_n C dX12_oneOf_15 2 rfl ?_
    refine r_iadd C dX12_oneOf_16 ?_
    refine r_iconst C dX12_oneOf_17 k_i1 ?_
    refine r_isub C dX12_oneOf_18 ?_
    refine r_csi (As := [.int x3, .int i1, .int ((i1 + i2) - (1 : Int32))]) (st := []) C ws_X12_119 (tcX12_in K.2.1 g hg x3 i1 ((i1 + i2) - (1 : Int32)) h4) (Nat.le_of_ble_eq_true rfl) rfl rfl (Nat.le_of_ble_eq_true rfl) dX12_oneOf_19 ⟨Nat.le_of_ble_eq_true rfl, Nat.le_of_ble_eq_true rfl⟩ (fun x5 h6 => ?_)
    refine r_if_ne (tgt := 35) C dX12_oneOf_22 (by decide) ?_ ?_
    · refine r_aload_n C dX12_oneOf_35 0 rfl ?_
      refine r_dup C dX12_oneOf_36 rfl ?_
      refine r_gi C wf_X12_141_11 dX12_oneOf_37 (fun x7 => ?_)
      refine r_iconst C dX12_oneOf_40 k_i1 ?_
      refine r_iadd C dX12_oneOf_41 ?_
      refine r_pi C wf_X12_141_11 dX12_oneOf_42 (fun h8 => ?_)
      refine r_aload_n C dX12_oneOf_45 0 rfl ?_
      refine r_gr C wf_X12_132_11 dX12_oneOf_46 (fun q9 => ?_)
      refine r_aload_n C dX12_oneOf_49 0 rfl ?_
      refine r_gi C wf_X12_141_11 dX12_oneOf_50 (fun x10 => ?_)
      refine r_iconst C dX12_oneOf_53 k_i1 ?_
      refine r_isub C dX12_oneOf_54 ?_
      refine r_bald C dX12_oneOf_55 (fun x11 => ?_)
      refine r_iload_n C dX12_oneOf_56 1 rfl ?_
      refine r_isub C dX12_oneOf_57 ?_
      exact r_iret C dX12_oneOf_58
    · refine r_aload_n C dX12_oneOf_25 0 rfl ?_
      refine r_aload_n C dX12_oneOf_26 0 rfl ?_
      refine r_gi C wf_X12_141_11 dX12_oneOf_27 (fun x12 => ?_)
      refine r_cvv (As := [.int x12]) (st := []) C wv_X12_163 (tcX12_fault K.2.1 g hg o0 x12 h6) (Nat.le_of_ble_eq_true rfl) rfl rfl (Nat.le_of_ble_eq_true rfl) dX12_oneOf_30 ⟨Nat.le_of_ble_eq_true rfl, Nat.le_of_ble_eq_true rfl⟩ (fun h13 => ?_)
      refine r_iconst C dX12_oneOf_33 k_i0 ?_
      exact r_iret C dX12_oneOf_34
  · refine r_iconst C dX12_oneOf_7 k_i0 ?_
    exact r_iret C dX12_oneOf_8
set_option maxRecDepth 100000 in
set_option maxHeartbeats 4000000 in
theorem tX12_number_L11 {K : AC} {g : WG} (hg : p_al g = false)  (C : Cx K g cX12_number 4 RX12 (some .int) "number" 4 0 0) (o0 : Nat) (i1 : Int32) {kx : Int32 → PH → Option (Int32 × PH)} (hk : ∀ (i2 : Int32) (h : PH), VX K g 4 0 0 (a_fin K g 0 0 em_i) 57 [(2, .int i2)] [] h (kx i2 h)) : ∀ (n : Nat) (i2 : Int32) (i3 : Int32) (h : PH), VX K g 4 0 0 (a_fin K g 0 0 em_i) 11 [(0, p_rf g o0), (1, .int i1), (2, .int i2), (3, .int i3)] [] h (fX12_number_L11 o0 i1 kx n i2 i3 h) := by
  intro n
  induction n with
  | zero =>
    intros
    exact r_none
  | succ n ih =>
    intro i2 i3 h
    rw [fX12_number_L11]
    refine r_iload_n C dX12_number_11 3 rfl ?_
    refine r_iload_n C dX12_number_12 1 rfl ?_
    refine r_icmp_ge (tgt := 57) C dX12_number_13 (by decide) ?_ ?_
    · refine r_perm (lv' := [(2, .int i2)]) [2] rfl ?_
      exact hk i2 h
    · refine r_aload_n C dX12_number_16 0 rfl ?_
      refine r_cvi (As := []) (st := []) C wv_X12_151 (tcX12_fine K.2.1 g hg o0 h) (Nat.le_of_ble_eq_true rfl) rfl rfl (Nat.le_of_ble_eq_true rfl) dX12_number_17 ⟨Nat.le_of_ble_eq_true rfl, Nat.le_of_ble_eq_true rfl⟩ (fun x1 h2 => ?_)
      refine r_if_eq (tgt := 57) C dX12_number_20 (by decide) ?_ ?_
      · refine r_perm (lv' := [(2, .int i2)]) [2] rfl ?_
        exact hk i2 h2
      · refine r_aload_n C dX12_number_23 0 rfl ?_
        refine r_cvi (As := []) (st := []) C wv_X12_155 (tcX12_here K.2.1 g hg o0 h2) (Nat.le_of_ble_eq_true rfl) rfl rfl (Nat.le_of_ble_eq_true rfl) dX12_number_24 ⟨Nat.le_of_ble_eq_true rfl, Nat.le_of_ble_eq_true rfl⟩ (fun x3 h4 => ?_)
        refine r_bipush C dX12_number_27 k_b48 ?_
        refine r_bipush C dX12_number_29 k_b57 ?_
        refine r_csi (As := [.int x3, .int (48 : Int32), .int (57 : Int32)]) (st := []) C ws_X12_119 (tcX12_in K.2.1 g hg x3 (48 : Int32) (57 : Int32) h4) (Nat.le_of_ble_eq_true rfl) rfl rfl (Nat.le_of_ble_eq_true rfl) dX12_number_31 ⟨Nat.le_of_ble_eq_true rfl, Nat.le_of_ble_eq_true rfl⟩ (fun x5 h6 => ?_)
        refine r_if_eq (tgt := 57) C dX12_number_34 (by decide) ?_ ?_
        · refine r_perm (lv' := [(2, .int i2)]) [2] rfl ?_
          exact hk i2 h6
        · refine r_bipush C dX12_number_37 k_b10 ?_
          refine r_iload_n C dX12_number_39 2 rfl ?_
          refine r_imul C dX12_number_40 ?_
          refine r_aload_n C dX12_number_41 0 rfl ?_
          refine r_bipush C dX12_number_42 k_b48 ?_
          refine r_bipush C dX12_number_44 k_b10 ?_
          refine r_cvi (As := [.int (48 : Int32), .int (10 : Int32)]) (st := [.int ((10 : Int32) * i2)]) C wv_X12_167 (tcX12_oneOf K.2.1 g hg o0 (48 : Int32) (10 : Int32) h6) (Nat.le_of_ble_eq_true rfl) rfl rfl (Nat.le_of_ble_eq_true rfl) dX12_number_46 ⟨Nat.le_of_ble_eq_true rfl, Nat.le_of_ble_eq_true rfl⟩ (fun x7 h8 => ?_)
          refine r_iadd C dX12_number_49 ?_
          refine r_topi (fun x9 => ?_)
          refine r_istore_n (lv9 := [(2, .int x9), (0, p_rf g o0), (1, .int i1), (3, .int i3)]) C dX12_number_50 (by decide) rfl ?_
          refine r_iinc (lv' := [(2, .int x9), (0, p_rf g o0), (1, .int i1)]) C dX12_number_51 3 rfl k_i1 (by decide) (fun _ => rfl) (fun x10 => ?_)
          refine r_goto (tgt := 11) C dX12_number_54 (by decide) ?_
          refine r_perm (lv' := [(0, p_rf g o0), (1, .int i1), (2, .int x9), (3, .int x10)]) [2, 3, 1, 0] rfl ?_
          exact ih x9 x10 h8
set_option maxRecDepth 100000 in
set_option maxHeartbeats 4000000 in
theorem tcX12_number (l : Launch) (g : WG) (hg : p_al g = false) (o0 : Nat) (i1 : Int32) (h : PH) : CT l g 4 0 0 yX12_number cX12_number 4 (some .int) em_i [p_rf g o0, .int i1] h (fX12_number o0 i1 h) := by
  refine CT_of (own := RX12) (nm := "number") (by decide +kernel) (Nat.le_of_ble_eq_true rfl) rfl rfl rfl ⟨rfl, rfl⟩ (fun K hK C => ?_)
  subst hK
  unfold fX12_number
  show VX K g _ _ _ _ _ [(0, p_rf g o0), (1, .int i1)] _ _ _
  refine r_aload_n C dX12_number_0 0 rfl ?_
  refine r_bipush C dX12_number_1 k_b48 ?_
  refine r_bipush C dX12_number_3 k_b10 ?_
  refine r_cvi (As := [.int (48 : Int32), .int (10 : Int32)]) (st := []) C wv_X12_167 (tcX12_oneOf K.2.1 g hg o0 (48 : Int32) (10 : Int32) h) (Nat.le_of_ble_eq_true rfl) rfl rfl (Nat.le_of_ble_eq_true rfl) dX12_number_5 ⟨Nat.le_of_ble_eq_true rfl, Nat.le_of_ble_eq_true rfl⟩ (fun x1 h2 => ?_)
  refine r_istore_n (lv9 := [(2, .int x1), (0, p_rf g o0), (1, .int i1)]) C dX12_number_8 (by decide) rfl ?_
  refine r_iconst C dX12_number_9 k_i1 ?_
  refine r_istore_n (lv9 := [(3, .int (1 : Int32)), (2, .int x1), (0, p_rf g o0), (1, .int i1)]) C dX12_number_10 (by decide) rfl ?_
  refine r_perm (lv' := [(0, p_rf g o0), (1, .int i1), (2, .int x1), (3, .int (1 : Int32))]) [2, 3, 1, 0] rfl ?_
  refine tX12_number_L11 hg C o0 i1 (fun x3 h4 => ?_) FU x1 (1 : Int32) h2
  refine r_iload_n C dX12_number_57 0 rfl ?_
  exact r_iret C dX12_number_58
set_option maxRecDepth 100000 in
set_option maxHeartbeats 4000000 in
theorem tX12_wasRight_J19 {K : AC} {g : WG} (hg : p_al g = false)  (C : Cx K g cX12_wasRight 1 RX12 (some .boolean) "wasRight" 3 0 0) (o0 : Nat)  (h : PH) : VX K g 1 0 0 (a_fin K g 0 0 em_i) 19 [(0, p_rf g o0)] [] h (fX12_wasRight_J19 o0 h) := by
  unfold fX12_wasRight_J19
  refine r_aload_n C dX12_wasRight_19 0 rfl ?_
  refine r_cvi (As := []) (st := []) C wv_X12_151 (tcX12_fine K.2.1 g hg o0 h) (Nat.le_of_ble_eq_true rfl) rfl rfl (Nat.le_of_ble_eq_true rfl) dX12_wasRight_20 ⟨Nat.le_of_ble_eq_true rfl, Nat.le_of_ble_eq_true rfl⟩ (fun x1 h2 => ?_)
  exact r_zret C dX12_wasRight_23
set_option maxRecDepth 100000 in
set_option maxHeartbeats 4000000 in
theorem tcX12_wasRight (l : Launch) (g : WG) (hg : p_al g = false) (o0 : Nat) (h : PH) : CT l g 3 0 0 yX12_wasRight cX12_wasRight 1 (some .boolean) em_i [p_rf g o0] h (fX12_wasRight o0 h) := by
  refine CT_of (own := RX12) (nm := "wasRight") (by decide +kernel) (Nat.le_of_ble_eq_true rfl) rfl rfl rfl ⟨rfl, rfl⟩ (fun K hK C => ?_)
  subst hK
  unfold fX12_wasRight
  show VX K g _ _ _ _ _ [(0, p_rf g o0)] _ _ _
  refine r_aload_n C dX12_wasRight_0 0 rfl ?_
  refine r_gi C wf_X12_141_11 dX12_wasRight_1 (fun x1 => ?_)
  refine r_aload_n C dX12_wasRight_4 0 rfl ?_
  refine r_gi C wf_X12_135_11 dX12_wasRight_5 (fun x2 => ?_)
  refine r_icmp_ge (tgt := 19) C dX12_wasRight_8 (by decide) ?_ ?_
  · exact tX12_wasRight_J19 hg C o0 h
  · refine r_aload_n C dX12_wasRight_11 0 rfl ?_
    refine r_aload_n C dX12_wasRight_12 0 rfl ?_
    refine r_gi C wf_X12_141_11 dX12_wasRight_13 (fun x3 => ?_)
    refine r_cvv (As := [.int x3]) (st := []) C wv_X12_163 (tcX12_fault K.2.1 g hg o0 x3 h) (Nat.le_of_ble_eq_true rfl) rfl rfl (Nat.le_of_ble_eq_true rfl) dX12_wasRight_16 ⟨Nat.le_of_ble_eq_true rfl, Nat.le_of_ble_eq_true rfl⟩ (fun h4 => ?_)
    exact tX12_wasRight_J19 hg C o0 h4
set_option maxRecDepth 100000 in
set_option maxHeartbeats 4000000 in
theorem tcX12_told (l : Launch) (g : WG) (hg : p_al g = false) (o0 : Nat) (h : PH) : CT l g 1 0 0 yX12_told cX12_told 1 none em_v [p_rf g o0] h (fX12_told o0 h) := by
  refine CT_of (own := RX12) (nm := "told") (by decide +kernel) (Nat.le_of_ble_eq_true rfl) rfl rfl rfl ⟨rfl, rfl⟩ (fun K hK C => ?_)
  subst hK
  unfold fX12_told
  show VX K g _ _ _ _ _ [(0, p_rf g o0)] _ _ _
  refine r_aload_n C dX12_told_0 0 rfl ?_
  refine r_iconst C dX12_told_1 k_i0 ?_
  refine r_pi C wf_X12_171_11 dX12_told_2 (fun h1 => ?_)
  refine r_aload_n C dX12_told_5 0 rfl ?_
  refine r_dup C dX12_told_6 rfl ?_
  refine r_gi C wf_X12_174_11 dX12_told_7 (fun x2 => ?_)
  refine r_iconst C dX12_told_10 k_i1 ?_
  refine r_iadd C dX12_told_11 ?_
  refine r_pi C wf_X12_174_11 dX12_told_12 (fun h3 => ?_)
  exact r_vret C dX12_told_15
set_option maxRecDepth 100000 in
set_option maxHeartbeats 4000000 in
theorem tX12_readGround_J69_34 {K : AC} {g : WG} (hg : p_al g = false)  (C : Cx K g cX12_readGround 3 RX12 none "readGround" 4 0 0) (o0 : Nat) (i1 : Int32) (i2 : Int32) (s0 : Int32) (s1 : Int32) (s2 : Nat)    {rc : Int32 → PH → Option (Unit × PH)} {kx : PH → Option (Unit × PH)} (hr : ∀ (i2' : Int32) (h : PH), VX K g 3 0 0 (a_fin K g 0 0 em_v) 34 [(0, p_rf g o0), (1, .int i1), (2, .int i2')] [] h (rc i2' h)) (hk : ∀  (h : PH), VX K g 3 0 0 (a_fin K g 0 0 em_v) 76 [] [] h (kx  h)) (h : PH) : VX K g 3 0 0 (a_fin K g 0 0 em_v) 69 [(0, p_rf g o0), (1, .int i1), (2, .int i2)] [.int s0, .int s1, p_rf g s2] h (fX12_readGround_J69_34 rc kx o0 i1 i2 s0 s1 s2 h) := by
  unfold fX12_readGround_J69_34
  refine r_iast C dX12_readGround_69 (fun h1 => ?_)
  refine r_iinc (lv' := [(0, p_rf g o0), (1, .int i1)]) C dX12_readGround_70 2 rfl k_i1 (by decide) (fun _ => rfl) (fun x2 => ?_)
  refine r_goto (tgt := 34) C dX12_readGround_73 (by decide) ?_
  refine r_perm (lv' := [(0, p_rf g o0), (1, .int i1), (2, .int x2)]) [1, 2, 0] rfl ?_
  exact hr x2 h1
set_option maxRecDepth 100000 in
set_option maxHeartbeats 4000000 in
theorem tX12_readGround_L34 {K : AC} {g : WG} (hg : p_al g = false)  (C : Cx K g cX12_readGround 3 RX12 none "readGround" 4 0 0) (o0 : Nat) (i1 : Int32) {kx : PH → Option (Unit × PH)} (hk : ∀  (h : PH), VX K g 3 0 0 (a_fin K g 0 0 em_v) 76 [] [] h (kx h)) : ∀ (n : Nat) (i2 : Int32) (h : PH), VX K g 3 0 0 (a_fin K g 0 0 em_v) 34 [(0, p_rf g o0), (1, .int i1), (2, .int i2)] [] h (fX12_readGround_L34 o0 i1 kx n i2 h) := by
  intro n
  induction n with
  | zero =>
    intros
    exact r_none
  | succ n ih =>
    intro i2 h
    rw [fX12_readGround_L34]
    refine r_iload_n C dX12_readGround_34 2 rfl ?_
    refine r_iconst C dX12_readGround_35 k_i4 ?_
    refine r_icmp_ge (tgt := 76) C dX12_readGround_36 (by decide) ?_ ?_
    · refine r_perm (lv' := []) [] rfl ?_
      exact hk h
    · refine r_aload_n C dX12_readGround_39 0 rfl ?_
      refine r_gr C wf_X12_36_11 dX12_readGround_40 (fun q1 => ?_)
      refine r_iload_n C dX12_readGround_43 1 rfl ?_
      refine r_iconst C dX12_readGround_44 k_i2 ?_
      refine r_iadd C dX12_readGround_45 ?_
      refine r_iload_n C dX12_readGround_46 2 rfl ?_
      refine r_iadd C dX12_readGround_47 ?_
      refine r_aload_n C dX12_readGround_48 0 rfl ?_
      refine r_bipush C dX12_readGround_49 k_b45 ?_
      refine r_cvi (As := [.int (45 : Int32)]) (st := [.int ((i1 + (2 : Int32)) + i2), p_rf g q1]) C wv_X12_159 (tcX12_passes K.2.1 g hg o0 (45 : Int32) h) (Nat.le_of_ble_eq_true rfl) rfl rfl (Nat.le_of_ble_eq_true rfl) dX12_readGround_51 ⟨Nat.le_of_ble_eq_true rfl, Nat.le_of_ble_eq_true rfl⟩ (fun x2 h3 => ?_)
      refine r_if_eq (tgt := 61) C dX12_readGround_54 (by decide) ?_ ?_
      · refine r_aload_n C dX12_readGround_61 0 rfl ?_
        refine r_bipush C dX12_readGround_62 k_b48 ?_
        refine r_bipush C dX12_readGround_64 k_b10 ?_
        refine r_cvi (As := [.int (48 : Int32), .int (10 : Int32)]) (st := [.int ((i1 + (2 : Int32)) + i2), p_rf g q1]) C wv_X12_167 (tcX12_oneOf K.2.1 g hg o0 (48 : Int32) (10 : Int32) h3) (Nat.le_of_ble_eq_true rfl) rfl rfl (Nat.le_of_ble_eq_true rfl) dX12_readGround_66 ⟨Nat.le_of_ble_eq_true rfl, Nat.le_of_ble_eq_true rfl⟩ (fun x4 h5 => ?_)
        exact tX12_readGround_J69_34 hg C o0 i1 i2 x4 ((i1 + (2 : Int32)) + i2) q1 ih hk h5
      · refine r_iconst C dX12_readGround_57 k_im1 ?_
        refine r_goto (tgt := 69) C dX12_readGround_58 (by decide) ?_
        exact tX12_readGround_J69_34 hg C o0 i1 i2 (-1 : Int32) ((i1 + (2 : Int32)) + i2) q1 ih hk h3
set_option maxRecDepth 100000 in
set_option maxHeartbeats 4000000 in
theorem tcX12_readGround (l : Launch) (g : WG) (hg : p_al g = false) (o0 : Nat) (i1 : Int32) (h : PH) : CT l g 4 0 0 yX12_readGround cX12_readGround 3 none em_v [p_rf g o0, .int i1] h (fX12_readGround o0 i1 h) := by
  refine CT_of (own := RX12) (nm := "readGround") (by decide +kernel) (Nat.le_of_ble_eq_true rfl) rfl rfl rfl ⟨rfl, rfl⟩ (fun K hK C => ?_)
  subst hK
  unfold fX12_readGround
  show VX K g _ _ _ _ _ [(0, p_rf g o0), (1, .int i1)] _ _ _
  refine r_aload_n C dX12_readGround_0 0 rfl ?_
  refine r_gr C wf_X12_36_11 dX12_readGround_1 (fun q1 => ?_)
  refine r_iload_n C dX12_readGround_4 1 rfl ?_
  refine r_aload_n C dX12_readGround_5 0 rfl ?_
  refine r_bipush C dX12_readGround_6 k_b49 ?_
  refine r_bipush C dX12_readGround_8 k_b9 ?_
  refine r_cvi (As := [.int (49 : Int32), .int (9 : Int32)]) (st := [.int i1, p_rf g q1]) C wv_X12_167 (tcX12_oneOf K.2.1 g hg o0 (49 : Int32) (9 : Int32) h) (Nat.le_of_ble_eq_true rfl) rfl rfl (Nat.le_of_ble_eq_true rfl) dX12_readGround_10 ⟨Nat.le_of_ble_eq_true rfl, Nat.le_of_ble_eq_true rfl⟩ (fun x2 h3 => ?_)
  refine r_iconst C dX12_readGround_13 k_i1 ?_
  refine r_iadd C dX12_readGround_14 ?_
  refine r_iast C dX12_readGround_15 (fun h4 => ?_)
  refine r_aload_n C dX12_readGround_16 0 rfl ?_
  refine r_gr C wf_X12_36_11 dX12_readGround_17 (fun q5 => ?_)
  refine r_iload_n C dX12_readGround_20 1 rfl ?_
  refine r_iconst C dX12_readGround_21 k_i1 ?_
  refine r_iadd C dX12_readGround_22 ?_
  refine r_aload_n C dX12_readGround_23 0 rfl ?_
  refine r_bipush C dX12_readGround_24 k_b48 ?_
  refine r_bipush C dX12_readGround_26 k_b10 ?_
  refine r_cvi (As := [.int (48 : Int32), .int (10 : Int32)]) (st := [.int (i1 + (1 : Int32)), p_rf g q5]) C wv_X12_167 (tcX12_oneOf K.2.1 g hg o0 (48 : Int32) (10 : Int32) h4) (Nat.le_of_ble_eq_true rfl) rfl rfl (Nat.le_of_ble_eq_true rfl) dX12_readGround_28 ⟨Nat.le_of_ble_eq_true rfl, Nat.le_of_ble_eq_true rfl⟩ (fun x6 h7 => ?_)
  refine r_iast C dX12_readGround_31 (fun h8 => ?_)
  refine r_iconst C dX12_readGround_32 k_i0 ?_
  refine r_istore_n (lv9 := [(2, .int (0 : Int32)), (0, p_rf g o0), (1, .int i1)]) C dX12_readGround_33 (by decide) rfl ?_
  refine r_perm (lv' := [(0, p_rf g o0), (1, .int i1), (2, .int (0 : Int32))]) [1, 2, 0] rfl ?_
  refine tX12_readGround_L34 hg C o0 i1 (fun h9 => ?_) FU (0 : Int32) h8
  exact r_vret C dX12_readGround_76
set_option maxRecDepth 100000 in
set_option maxHeartbeats 4000000 in
theorem tX12_grounds_J65_24 {K : AC} {g : WG} (hg : p_al g = false)  (C : Cx K g cX12_grounds 5 RX12 (some .int) "grounds" 5 0 0) (o0 : Nat) (i1 : Int32)    {rc : Int32 → Int32 → PH → Option (Int32 × PH)} {kx : Int32 → PH → Option (Int32 × PH)} (hr : ∀ (i1' : Int32) (i2' : Int32) (h : PH), VX K g 5 0 0 (a_fin K g 0 0 em_i) 24 [(0, p_rf g o0), (1, .int i1'), (2, .int i2')] [] h (rc i1' i2' h)) (hk : ∀ (i1' : Int32) (h : PH), VX K g 5 0 0 (a_fin K g 0 0 em_i) 78 [(0, p_rf g o0), (1, .int i1')] [] h (kx i1' h)) (h : PH) : VX K g 5 0 0 (a_fin K g 0 0 em_i) 65 [(0, p_rf g o0), (1, .int i1)] [] h (fX12_grounds_J65_24 rc kx o0 i1 h) := by
  unfold fX12_grounds_J65_24
  refine r_iinc (lv' := [(0, p_rf g o0)]) C dX12_grounds_65 1 rfl k_i1 (by decide) (fun _ => rfl) (fun x1 => ?_)
  refine r_aload_n C dX12_grounds_68 1 rfl ?_
  refine r_bipush C dX12_grounds_69 k_b59 ?_
  refine r_cvi (As := [.int (59 : Int32)]) (st := []) C wv_X12_159 (tcX12_passes K.2.1 g hg o0 (59 : Int32) h) (Nat.le_of_ble_eq_true rfl) rfl rfl (Nat.le_of_ble_eq_true rfl) dX12_grounds_71 ⟨Nat.le_of_ble_eq_true rfl, Nat.le_of_ble_eq_true rfl⟩ (fun x2 h3 => ?_)
  refine r_istore_n (lv9 := [(2, .int x2), (1, .int x1), (0, p_rf g o0)]) C dX12_grounds_74 (by decide) rfl ?_
  refine r_goto (tgt := 24) C dX12_grounds_75 (by decide) ?_
  refine r_perm (lv' := [(0, p_rf g o0), (1, .int x1), (2, .int x2)]) [2, 1, 0] rfl ?_
  exact hr x1 x2 h3
set_option maxRecDepth 100000 in
set_option maxHeartbeats 4000000 in
theorem tX12_grounds_L24 {K : AC} {g : WG} (hg : p_al g = false)  (C : Cx K g cX12_grounds 5 RX12 (some .int) "grounds" 5 0 0) (o0 : Nat) {kx : Int32 → PH → Option (Int32 × PH)} (hk : ∀ (i1 : Int32) (h : PH), VX K g 5 0 0 (a_fin K g 0 0 em_i) 78 [(0, p_rf g o0), (1, .int i1)] [] h (kx i1 h)) : ∀ (n : Nat) (i1 : Int32) (i2 : Int32) (h : PH), VX K g 5 0 0 (a_fin K g 0 0 em_i) 24 [(0, p_rf g o0), (1, .int i1), (2, .int i2)] [] h (fX12_grounds_L24 o0 kx n i1 i2 h) := by
  intro n
  induction n with
  | zero =>
    intros
    exact r_none
  | succ n ih =>
    intro i1 i2 h
    rw [fX12_grounds_L24]
    refine r_iload_n C dX12_grounds_24 2 rfl ?_
    refine r_if_eq (tgt := 78) C dX12_grounds_25 (by decide) ?_ ?_
    · refine r_perm (lv' := [(0, p_rf g o0), (1, .int i1)]) [0, 1] rfl ?_
      exact hk i1 h
    · refine r_aload_n C dX12_grounds_28 0 rfl ?_
      refine r_cvi (As := []) (st := []) C wv_X12_151 (tcX12_fine K.2.1 g hg o0 h) (Nat.le_of_ble_eq_true rfl) rfl rfl (Nat.le_of_ble_eq_true rfl) dX12_grounds_29 ⟨Nat.le_of_ble_eq_true rfl, Nat.le_of_ble_eq_true rfl⟩ (fun x1 h2 => ?_)
      refine r_if_eq (tgt := 78) C dX12_grounds_32 (by decide) ?_ ?_
      · refine r_perm (lv' := [(0, p_rf g o0), (1, .int i1)]) [0, 1] rfl ?_
        exact hk i1 h2
      · refine r_aload_n C dX12_grounds_35 0 rfl ?_
        refine r_gi C wf_X12_116_11 dX12_grounds_36 (fun x3 => ?_)
        refine r_iload_n C dX12_grounds_39 1 rfl ?_
        refine r_iadd C dX12_grounds_40 ?_
        refine r_bipush C dX12_grounds_41 k_b8 ?_
        refine r_icmp_ne (tgt := 57) C dX12_grounds_43 (by decide) ?_ ?_
        · refine r_aload_n C dX12_grounds_57 0 rfl ?_
          refine r_bipush C dX12_grounds_58 k_b6 ?_
          refine r_iload_n C dX12_grounds_60 1 rfl ?_
          refine r_imul C dX12_grounds_61 ?_
          refine r_cvv (As := [.int ((6 : Int32) * i1)]) (st := []) C wv_X12_180 (tcX12_readGround K.2.1 g hg o0 ((6 : Int32) * i1) h2) (Nat.le_of_ble_eq_true rfl) rfl rfl (Nat.le_of_ble_eq_true rfl) dX12_grounds_62 ⟨Nat.le_of_ble_eq_true rfl, Nat.le_of_ble_eq_true rfl⟩ (fun h4 => ?_)
          refine r_perm (lv' := [(0, p_rf g o0), (1, .int i1)]) [0, 1] rfl ?_
          exact tX12_grounds_J65_24 hg C o0 i1 ih hk h4
        · refine r_aload_n C dX12_grounds_46 0 rfl ?_
          refine r_aload_n C dX12_grounds_47 0 rfl ?_
          refine r_gi C wf_X12_141_11 dX12_grounds_48 (fun x5 => ?_)
          refine r_cvv (As := [.int x5]) (st := []) C wv_X12_163 (tcX12_fault K.2.1 g hg o0 x5 h2) (Nat.le_of_ble_eq_true rfl) rfl rfl (Nat.le_of_ble_eq_true rfl) dX12_grounds_51 ⟨Nat.le_of_ble_eq_true rfl, Nat.le_of_ble_eq_true rfl⟩ (fun h6 => ?_)
          refine r_goto (tgt := 65) C dX12_grounds_54 (by decide) ?_
          refine r_perm (lv' := [(0, p_rf g o0), (1, .int i1)]) [0, 1] rfl ?_
          exact tX12_grounds_J65_24 hg C o0 i1 ih hk h6
set_option maxRecDepth 100000 in
set_option maxHeartbeats 4000000 in
theorem tX12_grounds_L140 {K : AC} {g : WG} (hg : p_al g = false)  (C : Cx K g cX12_grounds 5 RX12 (some .int) "grounds" 5 0 0) (o0 : Nat) (i1 : Int32) (i3 : Int32) {kx : PH → Option (Int32 × PH)} (hk : ∀  (h : PH), VX K g 5 0 0 (a_fin K g 0 0 em_i) 180 [(0, p_rf g o0), (1, .int i1), (3, .int i3)] [] h (kx h)) : ∀ (n : Nat) (i4 : Int32) (h : PH), VX K g 5 0 0 (a_fin K g 0 0 em_i) 140 [(0, p_rf g o0), (1, .int i1), (3, .int i3), (4, .int i4)] [] h (fX12_grounds_L140 o0 i1 i3 kx n i4 h) := by
  intro n
  induction n with
  | zero =>
    intros
    exact r_none
  | succ n ih =>
    intro i4 h
    rw [fX12_grounds_L140]
    refine r_iload C dX12_grounds_140 3 rfl ?_
    refine r_iconst C dX12_grounds_142 k_i4 ?_
    refine r_icmp_ge (tgt := 180) C dX12_grounds_143 (by decide) ?_ ?_
    · refine r_perm (lv' := [(0, p_rf g o0), (1, .int i1), (3, .int i3)]) [0, 1, 2] rfl ?_
      exact hk h
    · refine r_aload_n C dX12_grounds_146 0 rfl ?_
      refine r_gr C wf_X12_16_11 dX12_grounds_147 (fun q1 => ?_)
      refine r_iconst C dX12_grounds_150 k_i4 ?_
      refine r_aload_n C dX12_grounds_151 0 rfl ?_
      refine r_gi C wf_X12_116_11 dX12_grounds_152 (fun x2 => ?_)
      refine r_imul C dX12_grounds_155 ?_
      refine r_iload C dX12_grounds_156 3 rfl ?_
      refine r_iadd C dX12_grounds_158 ?_
      refine r_aload_n C dX12_grounds_159 0 rfl ?_
      refine r_gr C wf_X12_36_11 dX12_grounds_160 (fun q3 => ?_)
      refine r_bipush C dX12_grounds_163 k_b6 ?_
      refine r_iload_n C dX12_grounds_165 2 rfl ?_
      refine r_imul C dX12_grounds_166 ?_
      refine r_iconst C dX12_grounds_167 k_i2 ?_
      refine r_iadd C dX12_grounds_168 ?_
      refine r_iload C dX12_grounds_169 3 rfl ?_
      refine r_iadd C dX12_grounds_171 ?_
      refine r_iald C dX12_grounds_172 (fun x4 => ?_)
      refine r_iast C dX12_grounds_173 (fun h5 => ?_)
      refine r_iinc (lv' := [(0, p_rf g o0), (1, .int i1), (3, .int i3)]) C dX12_grounds_174 3 rfl k_i1 (by decide) (fun _ => rfl) (fun x6 => ?_)
      refine r_goto (tgt := 140) C dX12_grounds_177 (by decide) ?_
      refine r_perm (lv' := [(0, p_rf g o0), (1, .int i1), (3, .int i3), (4, .int x6)]) [1, 2, 3, 0] rfl ?_
      exact ih x6 h5
set_option maxRecDepth 100000 in
set_option maxHeartbeats 4000000 in
theorem tX12_grounds_L94 {K : AC} {g : WG} (hg : p_al g = false)  (C : Cx K g cX12_grounds 5 RX12 (some .int) "grounds" 5 0 0) (o0 : Nat) (i1 : Int32) {kx : PH → Option (Int32 × PH)} (hk : ∀  (h : PH), VX K g 5 0 0 (a_fin K g 0 0 em_i) 196 [(0, p_rf g o0), (1, .int i1)] [] h (kx h)) : ∀ (n : Nat) (i3 : Int32) (h : PH), VX K g 5 0 0 (a_fin K g 0 0 em_i) 94 [(0, p_rf g o0), (1, .int i1), (3, .int i3)] [] h (fX12_grounds_L94 o0 i1 kx n i3 h) := by
  intro n
  induction n with
  | zero =>
    intros
    exact r_none
  | succ n ih =>
    intro i3 h
    rw [fX12_grounds_L94]
    refine r_iload_n C dX12_grounds_94 2 rfl ?_
    refine r_iload_n C dX12_grounds_95 1 rfl ?_
    refine r_icmp_ge (tgt := 196) C dX12_grounds_96 (by decide) ?_ ?_
    · refine r_perm (lv' := [(0, p_rf g o0), (1, .int i1)]) [0, 1] rfl ?_
      exact hk h
    · refine r_aload_n C dX12_grounds_99 0 rfl ?_
      refine r_gr C wf_X12_13_11 dX12_grounds_100 (fun q1 => ?_)
      refine r_aload_n C dX12_grounds_103 0 rfl ?_
      refine r_gi C wf_X12_116_11 dX12_grounds_104 (fun x2 => ?_)
      refine r_aload_n C dX12_grounds_107 0 rfl ?_
      refine r_gr C wf_X12_36_11 dX12_grounds_108 (fun q3 => ?_)
      refine r_bipush C dX12_grounds_111 k_b6 ?_
      refine r_iload_n C dX12_grounds_113 2 rfl ?_
      refine r_imul C dX12_grounds_114 ?_
      refine r_iald C dX12_grounds_115 (fun x4 => ?_)
      refine r_iast C dX12_grounds_116 (fun h5 => ?_)
      refine r_aload_n C dX12_grounds_117 0 rfl ?_
      refine r_gr C wf_X12_9_11 dX12_grounds_118 (fun q6 => ?_)
      refine r_aload_n C dX12_grounds_121 0 rfl ?_
      refine r_gi C wf_X12_116_11 dX12_grounds_122 (fun x7 => ?_)
      refine r_aload_n C dX12_grounds_125 0 rfl ?_
      refine r_gr C wf_X12_36_11 dX12_grounds_126 (fun q8 => ?_)
      refine r_bipush C dX12_grounds_129 k_b6 ?_
      refine r_iload_n C dX12_grounds_131 2 rfl ?_
      refine r_imul C dX12_grounds_132 ?_
      refine r_iconst C dX12_grounds_133 k_i1 ?_
      refine r_iadd C dX12_grounds_134 ?_
      refine r_iald C dX12_grounds_135 (fun x9 => ?_)
      refine r_iast C dX12_grounds_136 (fun h10 => ?_)
      refine r_iconst C dX12_grounds_137 k_i0 ?_
      refine r_istore (lv9 := [(4, .int (0 : Int32)), (0, p_rf g o0), (1, .int i1), (3, .int i3)]) C dX12_grounds_138 (by decide) rfl ?_
      refine r_perm (lv' := [(0, p_rf g o0), (1, .int i1), (3, .int i3), (4, .int (0 : Int32))]) [1, 2, 3, 0] rfl ?_
      refine tX12_grounds_L140 hg C o0 i1 i3 (fun h11 => ?_) FU (0 : Int32) h10
      refine r_aload_n C dX12_grounds_180 0 rfl ?_
      refine r_dup C dX12_grounds_181 rfl ?_
      refine r_gi C wf_X12_116_11 dX12_grounds_182 (fun x12 => ?_)
      refine r_iconst C dX12_grounds_185 k_i1 ?_
      refine r_iadd C dX12_grounds_186 ?_
      refine r_pi C wf_X12_116_11 dX12_grounds_187 (fun h13 => ?_)
      refine r_iinc (lv' := [(0, p_rf g o0), (1, .int i1)]) C dX12_grounds_190 2 rfl k_i1 (by decide) (fun _ => rfl) (fun x14 => ?_)
      refine r_goto (tgt := 94) C dX12_grounds_193 (by decide) ?_
      refine r_perm (lv' := [(0, p_rf g o0), (1, .int i1), (3, .int x14)]) [1, 2, 0] rfl ?_
      exact ih x14 h13
set_option maxRecDepth 100000 in
set_option maxHeartbeats 4000000 in
theorem tcX12_grounds (l : Launch) (g : WG) (hg : p_al g = false) (o0 : Nat) (h : PH) : CT l g 5 0 0 yX12_grounds cX12_grounds 5 (some .int) em_i [p_rf g o0] h (fX12_grounds o0 h) := by
  refine CT_of (own := RX12) (nm := "grounds") (by decide +kernel) (Nat.le_of_ble_eq_true rfl) rfl rfl rfl ⟨rfl, rfl⟩ (fun K hK C => ?_)
  subst hK
  unfold fX12_grounds
  show VX K g _ _ _ _ _ [(0, p_rf g o0)] _ _ _
  refine r_aload_n C dX12_grounds_0 0 rfl ?_
  refine r_iconst C dX12_grounds_1 k_i0 ?_
  refine r_pi C wf_X12_109_11 dX12_grounds_2 (fun h1 => ?_)
  refine r_aload_n C dX12_grounds_5 0 rfl ?_
  refine r_bipush C dX12_grounds_6 k_b55 ?_
  refine r_cvv (As := [.int (55 : Int32)]) (st := []) C wv_X12_177 (tcX12_beginText K.2.1 g hg o0 (55 : Int32) h1) (Nat.le_of_ble_eq_true rfl) rfl rfl (Nat.le_of_ble_eq_true rfl) dX12_grounds_8 ⟨Nat.le_of_ble_eq_true rfl, Nat.le_of_ble_eq_true rfl⟩ (fun h2 => ?_)
  refine r_aload_n C dX12_grounds_11 0 rfl ?_
  refine r_gi C wf_X12_135_11 dX12_grounds_12 (fun x3 => ?_)
  refine r_if_ne (tgt := 20) C dX12_grounds_15 (by decide) ?_ ?_
  · refine r_iconst C dX12_grounds_20 k_i0 ?_
    refine r_istore_n (lv9 := [(1, .int (0 : Int32)), (0, p_rf g o0)]) C dX12_grounds_21 (by decide) rfl ?_
    refine r_iconst C dX12_grounds_22 k_i1 ?_
    refine r_istore_n (lv9 := [(2, .int (1 : Int32)), (1, .int (0 : Int32)), (0, p_rf g o0)]) C dX12_grounds_23 (by decide) rfl ?_
    refine r_perm (lv' := [(0, p_rf g o0), (1, .int (0 : Int32)), (2, .int (1 : Int32))]) [2, 1, 0] rfl ?_
    refine tX12_grounds_L24 hg C o0 (fun x4 h5 => ?_) FU (0 : Int32) (1 : Int32) h2
    refine r_aload_n C dX12_grounds_78 0 rfl ?_
    refine r_cvi (As := []) (st := []) C wv_X12_183 (tcX12_wasRight K.2.1 g hg o0 h5) (Nat.le_of_ble_eq_true rfl) rfl rfl (Nat.le_of_ble_eq_true rfl) dX12_grounds_79 ⟨Nat.le_of_ble_eq_true rfl, Nat.le_of_ble_eq_true rfl⟩ (fun x6 h7 => ?_)
    refine r_if_ne (tgt := 92) C dX12_grounds_82 (by decide) ?_ ?_
    · refine r_iconst C dX12_grounds_92 k_i0 ?_
      refine r_istore_n (lv9 := [(3, .int (0 : Int32)), (0, p_rf g o0), (1, .int x4)]) C dX12_grounds_93 (by decide) rfl ?_
      refine r_perm (lv' := [(0, p_rf g o0), (1, .int x4), (3, .int (0 : Int32))]) [1, 2, 0] rfl ?_
      refine tX12_grounds_L94 hg C o0 x4 (fun h8 => ?_) FU (0 : Int32) h7
      refine r_aload_n C dX12_grounds_196 0 rfl ?_
      refine r_cvv (As := []) (st := []) C wv_X12_186 (tcX12_told K.2.1 g hg o0 h8) (Nat.le_of_ble_eq_true rfl) rfl rfl (Nat.le_of_ble_eq_true rfl) dX12_grounds_197 ⟨Nat.le_of_ble_eq_true rfl, Nat.le_of_ble_eq_true rfl⟩ (fun h9 => ?_)
      refine r_iload_n C dX12_grounds_200 1 rfl ?_
      exact r_iret C dX12_grounds_201
    · refine r_iconst C dX12_grounds_85 k_im1 ?_
      refine r_aload_n C dX12_grounds_86 0 rfl ?_
      refine r_gi C wf_X12_144_11 dX12_grounds_87 (fun x10 => ?_)
      refine r_isub C dX12_grounds_90 ?_
      exact r_iret C dX12_grounds_91
  · refine r_iconst C dX12_grounds_18 k_i0 ?_
    exact r_iret C dX12_grounds_19
set_option maxRecDepth 100000 in
set_option maxHeartbeats 4000000 in
theorem tX12_readMan_L18 {K : AC} {g : WG} (hg : p_al g = false)  (C : Cx K g cX12_readMan 3 RX12 none "readMan" 4 0 0) (o0 : Nat) (i1 : Int32) {kx : PH → Option (Unit × PH)} (hk : ∀  (h : PH), VX K g 3 0 0 (a_fin K g 0 0 em_v) 47 [] [] h (kx h)) : ∀ (n : Nat) (i2 : Int32) (h : PH), VX K g 3 0 0 (a_fin K g 0 0 em_v) 18 [(0, p_rf g o0), (1, .int i1), (2, .int i2)] [] h (fX12_readMan_L18 o0 i1 kx n i2 h) := by
  intro n
  induction n with
  | zero =>
    intros
    exact r_none
  | succ n ih =>
    intro i2 h
    rw [fX12_readMan_L18]
    refine r_iload_n C dX12_readMan_18 2 rfl ?_
    refine r_iconst C dX12_readMan_19 k_i4 ?_
    refine r_icmp_ge (tgt := 47) C dX12_readMan_20 (by decide) ?_ ?_
    · refine r_perm (lv' := []) [] rfl ?_
      exact hk h
    · refine r_aload_n C dX12_readMan_23 0 rfl ?_
      refine r_gr C wf_X12_36_11 dX12_readMan_24 (fun q1 => ?_)
      refine r_iload_n C dX12_readMan_27 1 rfl ?_
      refine r_iconst C dX12_readMan_28 k_i1 ?_
      refine r_iadd C dX12_readMan_29 ?_
      refine r_iload_n C dX12_readMan_30 2 rfl ?_
      refine r_iadd C dX12_readMan_31 ?_
      refine r_aload_n C dX12_readMan_32 0 rfl ?_
      refine r_bipush C dX12_readMan_33 k_b48 ?_
      refine r_bipush C dX12_readMan_35 k_b10 ?_
      refine r_cvi (As := [.int (48 : Int32), .int (10 : Int32)]) (st := [.int ((i1 + (1 : Int32)) + i2), p_rf g q1]) C wv_X12_167 (tcX12_oneOf K.2.1 g hg o0 (48 : Int32) (10 : Int32) h) (Nat.le_of_ble_eq_true rfl) rfl rfl (Nat.le_of_ble_eq_true rfl) dX12_readMan_37 ⟨Nat.le_of_ble_eq_true rfl, Nat.le_of_ble_eq_true rfl⟩ (fun x2 h3 => ?_)
      refine r_iast C dX12_readMan_40 (fun h4 => ?_)
      refine r_iinc (lv' := [(0, p_rf g o0), (1, .int i1)]) C dX12_readMan_41 2 rfl k_i1 (by decide) (fun _ => rfl) (fun x5 => ?_)
      refine r_goto (tgt := 18) C dX12_readMan_44 (by decide) ?_
      refine r_perm (lv' := [(0, p_rf g o0), (1, .int i1), (2, .int x5)]) [1, 2, 0] rfl ?_
      exact ih x5 h4
set_option maxRecDepth 100000 in
set_option maxHeartbeats 4000000 in
theorem tcX12_readMan (l : Launch) (g : WG) (hg : p_al g = false) (o0 : Nat) (i1 : Int32) (h : PH) : CT l g 4 0 0 yX12_readMan cX12_readMan 3 none em_v [p_rf g o0, .int i1] h (fX12_readMan o0 i1 h) := by
  refine CT_of (own := RX12) (nm := "readMan") (by decide +kernel) (Nat.le_of_ble_eq_true rfl) rfl rfl rfl ⟨rfl, rfl⟩ (fun K hK C => ?_)
  subst hK
  unfold fX12_readMan
  show VX K g _ _ _ _ _ [(0, p_rf g o0), (1, .int i1)] _ _ _
  refine r_aload_n C dX12_readMan_0 0 rfl ?_
  refine r_gr C wf_X12_36_11 dX12_readMan_1 (fun q1 => ?_)
  refine r_iload_n C dX12_readMan_4 1 rfl ?_
  refine r_aload_n C dX12_readMan_5 0 rfl ?_
  refine r_bipush C dX12_readMan_6 k_b49 ?_
  refine r_bipush C dX12_readMan_8 k_b9 ?_
  refine r_cvi (As := [.int (49 : Int32), .int (9 : Int32)]) (st := [.int i1, p_rf g q1]) C wv_X12_167 (tcX12_oneOf K.2.1 g hg o0 (49 : Int32) (9 : Int32) h) (Nat.le_of_ble_eq_true rfl) rfl rfl (Nat.le_of_ble_eq_true rfl) dX12_readMan_10 ⟨Nat.le_of_ble_eq_true rfl, Nat.le_of_ble_eq_true rfl⟩ (fun x2 h3 => ?_)
  refine r_iconst C dX12_readMan_13 k_i1 ?_
  refine r_iadd C dX12_readMan_14 ?_
  refine r_iast C dX12_readMan_15 (fun h4 => ?_)
  refine r_iconst C dX12_readMan_16 k_i0 ?_
  refine r_istore_n (lv9 := [(2, .int (0 : Int32)), (0, p_rf g o0), (1, .int i1)]) C dX12_readMan_17 (by decide) rfl ?_
  refine r_perm (lv' := [(0, p_rf g o0), (1, .int i1), (2, .int (0 : Int32))]) [1, 2, 0] rfl ?_
  refine tX12_readMan_L18 hg C o0 i1 (fun h5 => ?_) FU (0 : Int32) h4
  exact r_vret C dX12_readMan_47
set_option maxRecDepth 100000 in
set_option maxHeartbeats 4000000 in
theorem tX12_people_J64_24 {K : AC} {g : WG} (hg : p_al g = false)  (C : Cx K g cX12_people 5 RX12 (some .int) "people" 5 0 0) (o0 : Nat) (i1 : Int32)    {rc : Int32 → Int32 → PH → Option (Int32 × PH)} {kx : Int32 → PH → Option (Int32 × PH)} (hr : ∀ (i1' : Int32) (i2' : Int32) (h : PH), VX K g 5 0 0 (a_fin K g 0 0 em_i) 24 [(0, p_rf g o0), (1, .int i1'), (2, .int i2')] [] h (rc i1' i2' h)) (hk : ∀ (i1' : Int32) (h : PH), VX K g 5 0 0 (a_fin K g 0 0 em_i) 77 [(0, p_rf g o0), (1, .int i1')] [] h (kx i1' h)) (h : PH) : VX K g 5 0 0 (a_fin K g 0 0 em_i) 64 [(0, p_rf g o0), (1, .int i1)] [] h (fX12_people_J64_24 rc kx o0 i1 h) := by
  unfold fX12_people_J64_24
  refine r_iinc (lv' := [(0, p_rf g o0)]) C dX12_people_64 1 rfl k_i1 (by decide) (fun _ => rfl) (fun x1 => ?_)
  refine r_aload_n C dX12_people_67 1 rfl ?_
  refine r_bipush C dX12_people_68 k_b59 ?_
  refine r_cvi (As := [.int (59 : Int32)]) (st := []) C wv_X12_159 (tcX12_passes K.2.1 g hg o0 (59 : Int32) h) (Nat.le_of_ble_eq_true rfl) rfl rfl (Nat.le_of_ble_eq_true rfl) dX12_people_70 ⟨Nat.le_of_ble_eq_true rfl, Nat.le_of_ble_eq_true rfl⟩ (fun x2 h3 => ?_)
  refine r_istore_n (lv9 := [(2, .int x2), (1, .int x1), (0, p_rf g o0)]) C dX12_people_73 (by decide) rfl ?_
  refine r_goto (tgt := 24) C dX12_people_74 (by decide) ?_
  refine r_perm (lv' := [(0, p_rf g o0), (1, .int x1), (2, .int x2)]) [2, 1, 0] rfl ?_
  exact hr x1 x2 h3
set_option maxRecDepth 100000 in
set_option maxHeartbeats 4000000 in
theorem tX12_people_L24 {K : AC} {g : WG} (hg : p_al g = false)  (C : Cx K g cX12_people 5 RX12 (some .int) "people" 5 0 0) (o0 : Nat) {kx : Int32 → PH → Option (Int32 × PH)} (hk : ∀ (i1 : Int32) (h : PH), VX K g 5 0 0 (a_fin K g 0 0 em_i) 77 [(0, p_rf g o0), (1, .int i1)] [] h (kx i1 h)) : ∀ (n : Nat) (i1 : Int32) (i2 : Int32) (h : PH), VX K g 5 0 0 (a_fin K g 0 0 em_i) 24 [(0, p_rf g o0), (1, .int i1), (2, .int i2)] [] h (fX12_people_L24 o0 kx n i1 i2 h) := by
  intro n
  induction n with
  | zero =>
    intros
    exact r_none
  | succ n ih =>
    intro i1 i2 h
    rw [fX12_people_L24]
    refine r_iload_n C dX12_people_24 2 rfl ?_
    refine r_if_eq (tgt := 77) C dX12_people_25 (by decide) ?_ ?_
    · refine r_perm (lv' := [(0, p_rf g o0), (1, .int i1)]) [0, 1] rfl ?_
      exact hk i1 h
    · refine r_aload_n C dX12_people_28 0 rfl ?_
      refine r_cvi (As := []) (st := []) C wv_X12_151 (tcX12_fine K.2.1 g hg o0 h) (Nat.le_of_ble_eq_true rfl) rfl rfl (Nat.le_of_ble_eq_true rfl) dX12_people_29 ⟨Nat.le_of_ble_eq_true rfl, Nat.le_of_ble_eq_true rfl⟩ (fun x1 h2 => ?_)
      refine r_if_eq (tgt := 77) C dX12_people_32 (by decide) ?_ ?_
      · refine r_perm (lv' := [(0, p_rf g o0), (1, .int i1)]) [0, 1] rfl ?_
        exact hk i1 h2
      · refine r_aload_n C dX12_people_35 0 rfl ?_
        refine r_gi C wf_X12_123_11 dX12_people_36 (fun x3 => ?_)
        refine r_iload_n C dX12_people_39 1 rfl ?_
        refine r_iadd C dX12_people_40 ?_
        refine r_bipush C dX12_people_41 k_b6 ?_
        refine r_icmp_ne (tgt := 57) C dX12_people_43 (by decide) ?_ ?_
        · refine r_aload_n C dX12_people_57 0 rfl ?_
          refine r_iconst C dX12_people_58 k_i5 ?_
          refine r_iload_n C dX12_people_59 1 rfl ?_
          refine r_imul C dX12_people_60 ?_
          refine r_cvv (As := [.int ((5 : Int32) * i1)]) (st := []) C wv_X12_189 (tcX12_readMan K.2.1 g hg o0 ((5 : Int32) * i1) h2) (Nat.le_of_ble_eq_true rfl) rfl rfl (Nat.le_of_ble_eq_true rfl) dX12_people_61 ⟨Nat.le_of_ble_eq_true rfl, Nat.le_of_ble_eq_true rfl⟩ (fun h4 => ?_)
          refine r_perm (lv' := [(0, p_rf g o0), (1, .int i1)]) [0, 1] rfl ?_
          exact tX12_people_J64_24 hg C o0 i1 ih hk h4
        · refine r_aload_n C dX12_people_46 0 rfl ?_
          refine r_aload_n C dX12_people_47 0 rfl ?_
          refine r_gi C wf_X12_141_11 dX12_people_48 (fun x5 => ?_)
          refine r_cvv (As := [.int x5]) (st := []) C wv_X12_163 (tcX12_fault K.2.1 g hg o0 x5 h2) (Nat.le_of_ble_eq_true rfl) rfl rfl (Nat.le_of_ble_eq_true rfl) dX12_people_51 ⟨Nat.le_of_ble_eq_true rfl, Nat.le_of_ble_eq_true rfl⟩ (fun h6 => ?_)
          refine r_goto (tgt := 64) C dX12_people_54 (by decide) ?_
          refine r_perm (lv' := [(0, p_rf g o0), (1, .int i1)]) [0, 1] rfl ?_
          exact tX12_people_J64_24 hg C o0 i1 ih hk h6
set_option maxRecDepth 100000 in
set_option maxHeartbeats 4000000 in
theorem tX12_people_L118 {K : AC} {g : WG} (hg : p_al g = false)  (C : Cx K g cX12_people 5 RX12 (some .int) "people" 5 0 0) (o0 : Nat) (i1 : Int32) (i3 : Int32) {kx : PH → Option (Int32 × PH)} (hk : ∀  (h : PH), VX K g 5 0 0 (a_fin K g 0 0 em_i) 160 [(0, p_rf g o0), (1, .int i1), (3, .int i3)] [] h (kx h)) : ∀ (n : Nat) (i4 : Int32) (h : PH), VX K g 5 0 0 (a_fin K g 0 0 em_i) 118 [(0, p_rf g o0), (1, .int i1), (3, .int i3), (4, .int i4)] [] h (fX12_people_L118 o0 i1 i3 kx n i4 h) := by
  intro n
  induction n with
  | zero =>
    intros
    exact r_none
  | succ n ih =>
    intro i4 h
    rw [fX12_people_L118]
    refine r_iload C dX12_people_118 3 rfl ?_
    refine r_iconst C dX12_people_120 k_i4 ?_
    refine r_icmp_ge (tgt := 160) C dX12_people_121 (by decide) ?_ ?_
    · refine r_perm (lv' := [(0, p_rf g o0), (1, .int i1), (3, .int i3)]) [0, 1, 2] rfl ?_
      exact hk h
    · refine r_aload_n C dX12_people_124 0 rfl ?_
      refine r_gr C wf_X12_9_11 dX12_people_125 (fun q1 => ?_)
      refine r_bipush C dX12_people_128 k_b8 ?_
      refine r_iconst C dX12_people_130 k_i4 ?_
      refine r_aload_n C dX12_people_131 0 rfl ?_
      refine r_gi C wf_X12_123_11 dX12_people_132 (fun x2 => ?_)
      refine r_imul C dX12_people_135 ?_
      refine r_iadd C dX12_people_136 ?_
      refine r_iload C dX12_people_137 3 rfl ?_
      refine r_iadd C dX12_people_139 ?_
      refine r_aload_n C dX12_people_140 0 rfl ?_
      refine r_gr C wf_X12_36_11 dX12_people_141 (fun q3 => ?_)
      refine r_iconst C dX12_people_144 k_i5 ?_
      refine r_iload_n C dX12_people_145 2 rfl ?_
      refine r_imul C dX12_people_146 ?_
      refine r_iconst C dX12_people_147 k_i1 ?_
      refine r_iadd C dX12_people_148 ?_
      refine r_iload C dX12_people_149 3 rfl ?_
      refine r_iadd C dX12_people_151 ?_
      refine r_iald C dX12_people_152 (fun x4 => ?_)
      refine r_iast C dX12_people_153 (fun h5 => ?_)
      refine r_iinc (lv' := [(0, p_rf g o0), (1, .int i1), (3, .int i3)]) C dX12_people_154 3 rfl k_i1 (by decide) (fun _ => rfl) (fun x6 => ?_)
      refine r_goto (tgt := 118) C dX12_people_157 (by decide) ?_
      refine r_perm (lv' := [(0, p_rf g o0), (1, .int i1), (3, .int i3), (4, .int x6)]) [1, 2, 3, 0] rfl ?_
      exact ih x6 h5
set_option maxRecDepth 100000 in
set_option maxHeartbeats 4000000 in
theorem tX12_people_L176 {K : AC} {g : WG} (hg : p_al g = false)  (C : Cx K g cX12_people 5 RX12 (some .int) "people" 5 0 0) (o0 : Nat) (i1 : Int32) (i3 : Int32) {kx : PH → Option (Int32 × PH)} (hk : ∀  (h : PH), VX K g 5 0 0 (a_fin K g 0 0 em_i) 208 [(0, p_rf g o0), (1, .int i1), (3, .int i3)] [] h (kx h)) : ∀ (n : Nat) (i4 : Int32) (h : PH), VX K g 5 0 0 (a_fin K g 0 0 em_i) 176 [(0, p_rf g o0), (1, .int i1), (3, .int i3), (4, .int i4)] [] h (fX12_people_L176 o0 i1 i3 kx n i4 h) := by
  intro n
  induction n with
  | zero =>
    intros
    exact r_none
  | succ n ih =>
    intro i4 h
    rw [fX12_people_L176]
    refine r_iload C dX12_people_176 3 rfl ?_
    refine r_bipush C dX12_people_178 k_b8 ?_
    refine r_icmp_ge (tgt := 208) C dX12_people_180 (by decide) ?_ ?_
    · refine r_perm (lv' := [(0, p_rf g o0), (1, .int i1), (3, .int i3)]) [0, 1, 2] rfl ?_
      exact hk h
    · refine r_aload_n C dX12_people_183 0 rfl ?_
      refine r_gr C wf_X12_9_11 dX12_people_184 (fun q1 => ?_)
      refine r_bipush C dX12_people_187 k_b38 ?_
      refine r_bipush C dX12_people_189 k_b8 ?_
      refine r_aload_n C dX12_people_191 0 rfl ?_
      refine r_gi C wf_X12_123_11 dX12_people_192 (fun x2 => ?_)
      refine r_imul C dX12_people_195 ?_
      refine r_iadd C dX12_people_196 ?_
      refine r_iload C dX12_people_197 3 rfl ?_
      refine r_iadd C dX12_people_199 ?_
      refine r_iconst C dX12_people_200 k_i0 ?_
      refine r_iast C dX12_people_201 (fun h3 => ?_)
      refine r_iinc (lv' := [(0, p_rf g o0), (1, .int i1), (3, .int i3)]) C dX12_people_202 3 rfl k_i1 (by decide) (fun _ => rfl) (fun x4 => ?_)
      refine r_goto (tgt := 176) C dX12_people_205 (by decide) ?_
      refine r_perm (lv' := [(0, p_rf g o0), (1, .int i1), (3, .int i3), (4, .int x4)]) [1, 2, 3, 0] rfl ?_
      exact ih x4 h3
set_option maxRecDepth 100000 in
set_option maxHeartbeats 4000000 in
theorem tX12_people_L93 {K : AC} {g : WG} (hg : p_al g = false)  (C : Cx K g cX12_people 5 RX12 (some .int) "people" 5 0 0) (o0 : Nat) (i1 : Int32) {kx : PH → Option (Int32 × PH)} (hk : ∀  (h : PH), VX K g 5 0 0 (a_fin K g 0 0 em_i) 224 [(0, p_rf g o0), (1, .int i1)] [] h (kx h)) : ∀ (n : Nat) (i3 : Int32) (h : PH), VX K g 5 0 0 (a_fin K g 0 0 em_i) 93 [(0, p_rf g o0), (1, .int i1), (3, .int i3)] [] h (fX12_people_L93 o0 i1 kx n i3 h) := by
  intro n
  induction n with
  | zero =>
    intros
    exact r_none
  | succ n ih =>
    intro i3 h
    rw [fX12_people_L93]
    refine r_iload_n C dX12_people_93 2 rfl ?_
    refine r_iload_n C dX12_people_94 1 rfl ?_
    refine r_icmp_ge (tgt := 224) C dX12_people_95 (by decide) ?_ ?_
    · refine r_perm (lv' := [(0, p_rf g o0), (1, .int i1)]) [0, 1] rfl ?_
      exact hk h
    · refine r_aload_n C dX12_people_98 0 rfl ?_
      refine r_gr C wf_X12_19_11 dX12_people_99 (fun q1 => ?_)
      refine r_aload_n C dX12_people_102 0 rfl ?_
      refine r_gi C wf_X12_123_11 dX12_people_103 (fun x2 => ?_)
      refine r_aload_n C dX12_people_106 0 rfl ?_
      refine r_gr C wf_X12_36_11 dX12_people_107 (fun q3 => ?_)
      refine r_iconst C dX12_people_110 k_i5 ?_
      refine r_iload_n C dX12_people_111 2 rfl ?_
      refine r_imul C dX12_people_112 ?_
      refine r_iald C dX12_people_113 (fun x4 => ?_)
      refine r_iast C dX12_people_114 (fun h5 => ?_)
      refine r_iconst C dX12_people_115 k_i0 ?_
      refine r_istore (lv9 := [(4, .int (0 : Int32)), (0, p_rf g o0), (1, .int i1), (3, .int i3)]) C dX12_people_116 (by decide) rfl ?_
      refine r_perm (lv' := [(0, p_rf g o0), (1, .int i1), (3, .int i3), (4, .int (0 : Int32))]) [1, 2, 3, 0] rfl ?_
      refine tX12_people_L118 hg C o0 i1 i3 (fun h6 => ?_) FU (0 : Int32) h5
      refine r_aload_n C dX12_people_160 0 rfl ?_
      refine r_gr C wf_X12_9_11 dX12_people_161 (fun q7 => ?_)
      refine r_bipush C dX12_people_164 k_b32 ?_
      refine r_aload_n C dX12_people_166 0 rfl ?_
      refine r_gi C wf_X12_123_11 dX12_people_167 (fun x8 => ?_)
      refine r_iadd C dX12_people_170 ?_
      refine r_iconst C dX12_people_171 k_i0 ?_
      refine r_iast C dX12_people_172 (fun h9 => ?_)
      refine r_iconst C dX12_people_173 k_i0 ?_
      refine r_istore (lv9 := [(4, .int (0 : Int32)), (0, p_rf g o0), (1, .int i1), (3, .int i3)]) C dX12_people_174 (by decide) rfl ?_
      refine r_perm (lv' := [(0, p_rf g o0), (1, .int i1), (3, .int i3), (4, .int (0 : Int32))]) [1, 2, 3, 0] rfl ?_
      refine tX12_people_L176 hg C o0 i1 i3 (fun h10 => ?_) FU (0 : Int32) h9
      refine r_aload_n C dX12_people_208 0 rfl ?_
      refine r_dup C dX12_people_209 rfl ?_
      refine r_gi C wf_X12_123_11 dX12_people_210 (fun x11 => ?_)
      refine r_iconst C dX12_people_213 k_i1 ?_
      refine r_iadd C dX12_people_214 ?_
      refine r_pi C wf_X12_123_11 dX12_people_215 (fun h12 => ?_)
      refine r_iinc (lv' := [(0, p_rf g o0), (1, .int i1)]) C dX12_people_218 2 rfl k_i1 (by decide) (fun _ => rfl) (fun x13 => ?_)
      refine r_goto (tgt := 93) C dX12_people_221 (by decide) ?_
      refine r_perm (lv' := [(0, p_rf g o0), (1, .int i1), (3, .int x13)]) [1, 2, 0] rfl ?_
      exact ih x13 h12
set_option maxRecDepth 100000 in
set_option maxHeartbeats 4000000 in
theorem tcX12_people (l : Launch) (g : WG) (hg : p_al g = false) (o0 : Nat) (h : PH) : CT l g 5 0 0 yX12_people cX12_people 5 (some .int) em_i [p_rf g o0] h (fX12_people o0 h) := by
  refine CT_of (own := RX12) (nm := "people") (by decide +kernel) (Nat.le_of_ble_eq_true rfl) rfl rfl rfl ⟨rfl, rfl⟩ (fun K hK C => ?_)
  subst hK
  unfold fX12_people
  show VX K g _ _ _ _ _ [(0, p_rf g o0)] _ _ _
  refine r_aload_n C dX12_people_0 0 rfl ?_
  refine r_iconst C dX12_people_1 k_i0 ?_
  refine r_pi C wf_X12_109_11 dX12_people_2 (fun h1 => ?_)
  refine r_aload_n C dX12_people_5 0 rfl ?_
  refine r_bipush C dX12_people_6 k_b35 ?_
  refine r_cvv (As := [.int (35 : Int32)]) (st := []) C wv_X12_177 (tcX12_beginText K.2.1 g hg o0 (35 : Int32) h1) (Nat.le_of_ble_eq_true rfl) rfl rfl (Nat.le_of_ble_eq_true rfl) dX12_people_8 ⟨Nat.le_of_ble_eq_true rfl, Nat.le_of_ble_eq_true rfl⟩ (fun h2 => ?_)
  refine r_aload_n C dX12_people_11 0 rfl ?_
  refine r_gi C wf_X12_135_11 dX12_people_12 (fun x3 => ?_)
  refine r_if_ne (tgt := 20) C dX12_people_15 (by decide) ?_ ?_
  · refine r_iconst C dX12_people_20 k_i0 ?_
    refine r_istore_n (lv9 := [(1, .int (0 : Int32)), (0, p_rf g o0)]) C dX12_people_21 (by decide) rfl ?_
    refine r_iconst C dX12_people_22 k_i1 ?_
    refine r_istore_n (lv9 := [(2, .int (1 : Int32)), (1, .int (0 : Int32)), (0, p_rf g o0)]) C dX12_people_23 (by decide) rfl ?_
    refine r_perm (lv' := [(0, p_rf g o0), (1, .int (0 : Int32)), (2, .int (1 : Int32))]) [2, 1, 0] rfl ?_
    refine tX12_people_L24 hg C o0 (fun x4 h5 => ?_) FU (0 : Int32) (1 : Int32) h2
    refine r_aload_n C dX12_people_77 0 rfl ?_
    refine r_cvi (As := []) (st := []) C wv_X12_183 (tcX12_wasRight K.2.1 g hg o0 h5) (Nat.le_of_ble_eq_true rfl) rfl rfl (Nat.le_of_ble_eq_true rfl) dX12_people_78 ⟨Nat.le_of_ble_eq_true rfl, Nat.le_of_ble_eq_true rfl⟩ (fun x6 h7 => ?_)
    refine r_if_ne (tgt := 91) C dX12_people_81 (by decide) ?_ ?_
    · refine r_iconst C dX12_people_91 k_i0 ?_
      refine r_istore_n (lv9 := [(3, .int (0 : Int32)), (0, p_rf g o0), (1, .int x4)]) C dX12_people_92 (by decide) rfl ?_
      refine r_perm (lv' := [(0, p_rf g o0), (1, .int x4), (3, .int (0 : Int32))]) [1, 2, 0] rfl ?_
      refine tX12_people_L93 hg C o0 x4 (fun h8 => ?_) FU (0 : Int32) h7
      refine r_aload_n C dX12_people_224 0 rfl ?_
      refine r_cvv (As := []) (st := []) C wv_X12_186 (tcX12_told K.2.1 g hg o0 h8) (Nat.le_of_ble_eq_true rfl) rfl rfl (Nat.le_of_ble_eq_true rfl) dX12_people_225 ⟨Nat.le_of_ble_eq_true rfl, Nat.le_of_ble_eq_true rfl⟩ (fun h9 => ?_)
      refine r_iload_n C dX12_people_228 1 rfl ?_
      exact r_iret C dX12_people_229
    · refine r_iconst C dX12_people_84 k_im1 ?_
      refine r_aload_n C dX12_people_85 0 rfl ?_
      refine r_gi C wf_X12_144_11 dX12_people_86 (fun x10 => ?_)
      refine r_isub C dX12_people_89 ?_
      exact r_iret C dX12_people_90
  · refine r_iconst C dX12_people_18 k_i0 ?_
    exact r_iret C dX12_people_19
