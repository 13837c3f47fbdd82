def fX11_ground_T_J21  (h : PH) : Option (Option Int32 × PH) := some (none, h)
def fX11_ground_T (o0 : Nat) (i1 : Int32) (i2 : Int32) (h : PH) : Option (Option Int32 × PH) := (h_gr 10 7 h o0).bind fun q1 => (h_ck 0 h q1).bind fun _ => h_bd (fX0_hasGround q1 i1 h) fun x2 h3 => if x2 = 0 then (fX11_ground_T_J21  h3) else (h_bd (fX11_within i2 (0 : Int32) (6 : Int32) h3) fun x4 h5 => if x4 = 0 then (fX11_ground_T_J21  h5) else (if i2 = 0 then ((h_gr 10 7 h5 o0).bind fun q15 => (h_ck 0 h5 q15).bind fun _ => h_bd (fX0_gradeOf q15 i1 h5) fun x16 h17 => some (some (x16), h17)) else (if i2 = (1 : Int32) then ((h_gr 10 8 h5 o0).bind fun q12 => (h_ck 7 h5 q12).bind fun _ => h_bd (fX8_stockOf q12 i1 h5) fun x13 h14 => some (some (x13), h14)) else (if i2 = (6 : Int32) then ((h_gr 10 8 h5 o0).bind fun q9 => (h_ck 7 h5 q9).bind fun _ => h_bd (fX8_holdersOf q9 i1 h5) fun x10 h11 => some (some (x10), h11)) else ((h_gr 10 7 h5 o0).bind fun q6 => (h_ck 0 h5 q6).bind fun _ => h_bd (fX0_pullOf q6 i1 (i2 - (2 : Int32)) h5) fun x7 h8 => some (some (x7), h8))))))
set_option maxRecDepth 100000 in
set_option maxHeartbeats 4000000 in
theorem tX11_ground_T_J21 {K : AC} {g : WG} (hg : p_al g = false) (htr : K.2.1.stackTraces = false) (hTb : ∀ x ∈ K.2.2.2.2.2.2.2.2.2.exceptionTable.toList, False)  (C : Cx K g cX11_ground 3 RX11 (some .int) "ground" 6 1 6)   (h : PH) : VX K g 3 0 0 (x_fin K g em_i) 21 [] [] h (fX11_ground_T_J21  h) := by
  unfold fX11_ground_T_J21
  exact r_thr hg htr hTb C (Nat.le_of_ble_eq_true rfl) (Nat.le_of_ble_eq_true rfl) dX11_ground_21 dX11_ground_24 dX11_ground_25 dX11_ground_28
set_option maxRecDepth 100000 in
set_option maxHeartbeats 4000000 in
theorem tcX11_ground_T (l : Launch) (g : WG) (hg : p_al g = false) (htr : l.stackTraces = false) (o0 : Nat) (i1 : Int32) (i2 : Int32) (h : PH) : CX l g 6 yX11_ground cX11_ground 3 (some .int) em_i [p_rf g o0, .int i1, .int i2] h (fX11_ground_T o0 i1 i2 h) := by
  refine CX_of (own := RX11) (nm := "ground") (by decide +kernel) (Nat.le_of_ble_eq_true rfl) rfl rfl rfl (fun K hK C hTb => ?_)
  subst hK
  unfold fX11_ground_T
  show VX K g _ _ _ _ _ [(0, p_rf g o0), (1, .int i1), (2, .int i2)] _ _ _
  refine r_aload_n C dX11_ground_0 0 rfl ?_
  refine r_gr C wf_X11_73_10 dX11_ground_1 (fun q1 => ?_)
  refine r_iload_n C dX11_ground_4 1 rfl ?_
  refine r_cvi (As := [.int i1]) (st := []) C wv_X11_161 (tcX0_hasGround K.2.1 g hg q1 i1 h) (Nat.le_of_ble_eq_true rfl) rfl rfl (Nat.le_of_ble_eq_true rfl) dX11_ground_5 ⟨Nat.le_of_ble_eq_true rfl, Nat.le_of_ble_eq_true rfl⟩ (fun x2 h3 => ?_)
  refine r_if_eq (tgt := 21) C dX11_ground_8 (by decide) ?_ ?_
  · refine r_perm (lv' := []) [] rfl ?_
    exact tX11_ground_T_J21 hg htr hTb C  h3
  · refine r_iload_n C dX11_ground_11 2 rfl ?_
    refine r_iconst C dX11_ground_12 k_i0 ?_
    refine r_bipush C dX11_ground_13 k_b6 ?_
    refine r_csi (As := [.int i2, .int (0 : Int32), .int (6 : Int32)]) (st := []) C ws_X11_164 (tcX11_within K.2.1 g hg i2 (0 : Int32) (6 : Int32) h3) (Nat.le_of_ble_eq_true rfl) rfl rfl (Nat.le_of_ble_eq_true rfl) dX11_ground_15 ⟨Nat.le_of_ble_eq_true rfl, Nat.le_of_ble_eq_true rfl⟩ (fun x4 h5 => ?_)
    refine r_if_ne (tgt := 29) C dX11_ground_18 (by decide) ?_ ?_
    · refine r_iload_n C dX11_ground_29 2 rfl ?_
      refine r_if_ne (tgt := 42) C dX11_ground_30 (by decide) ?_ ?_
      · refine r_iload_n C dX11_ground_42 2 rfl ?_
        refine r_iconst C dX11_ground_43 k_i1 ?_
        refine r_icmp_ne (tgt := 56) C dX11_ground_44 (by decide) ?_ ?_
        · refine r_iload_n C dX11_ground_56 2 rfl ?_
          refine r_bipush C dX11_ground_57 k_b6 ?_
          refine r_icmp_ne (tgt := 73) C dX11_ground_59 (by decide) ?_ ?_
          · refine r_aload_n C dX11_ground_73 0 rfl ?_
            refine r_gr C wf_X11_73_10 dX11_ground_74 (fun q6 => ?_)
            refine r_iload_n C dX11_ground_77 1 rfl ?_
            refine r_iload_n C dX11_ground_78 2 rfl ?_
            refine r_iconst C dX11_ground_79 k_i2 ?_
            refine r_isub C dX11_ground_80 ?_
            refine r_cvi (As := [.int i1, .int (i2 - (2 : Int32))]) (st := []) C wv_X11_180 (tcX0_pullOf K.2.1 g hg q6 i1 (i2 - (2 : Int32)) h5) (Nat.le_of_ble_eq_true rfl) rfl rfl (Nat.le_of_ble_eq_true rfl) dX11_ground_81 ⟨Nat.le_of_ble_eq_true rfl, Nat.le_of_ble_eq_true rfl⟩ (fun x7 h8 => ?_)
            exact r_iretX C dX11_ground_84
          · refine r_aload_n C dX11_ground_62 0 rfl ?_
            refine r_gr C wf_X11_77_10 dX11_ground_63 (fun q9 => ?_)
            refine r_iload_n C dX11_ground_66 1 rfl ?_
            refine r_cvi (As := [.int i1]) (st := []) C wv_X11_177 (tcX8_holdersOf K.2.1 g hg q9 i1 h5) (Nat.le_of_ble_eq_true rfl) rfl rfl (Nat.le_of_ble_eq_true rfl) dX11_ground_67 ⟨Nat.le_of_ble_eq_true rfl, Nat.le_of_ble_eq_true rfl⟩ (fun x10 h11 => ?_)
            refine r_goto (tgt := 84) C dX11_ground_70 (by decide) ?_
            exact r_iretX C dX11_ground_84
        · refine r_aload_n C dX11_ground_47 0 rfl ?_
          refine r_gr C wf_X11_77_10 dX11_ground_48 (fun q12 => ?_)
          refine r_iload_n C dX11_ground_51 1 rfl ?_
          refine r_cvi (As := [.int i1]) (st := []) C wv_X11_174 (tcX8_stockOf K.2.1 g hg q12 i1 h5) (Nat.le_of_ble_eq_true rfl) rfl rfl (Nat.le_of_ble_eq_true rfl) dX11_ground_52 ⟨Nat.le_of_ble_eq_true rfl, Nat.le_of_ble_eq_true rfl⟩ (fun x13 h14 => ?_)
          exact r_iretX C dX11_ground_55
      · refine r_aload_n C dX11_ground_33 0 rfl ?_
        refine r_gr C wf_X11_73_10 dX11_ground_34 (fun q15 => ?_)
        refine r_iload_n C dX11_ground_37 1 rfl ?_
        refine r_cvi (As := [.int i1]) (st := []) C wv_X11_171 (tcX0_gradeOf K.2.1 g hg q15 i1 h5) (Nat.le_of_ble_eq_true rfl) rfl rfl (Nat.le_of_ble_eq_true rfl) dX11_ground_38 ⟨Nat.le_of_ble_eq_true rfl, Nat.le_of_ble_eq_true rfl⟩ (fun x16 h17 => ?_)
        exact r_iretX C dX11_ground_41
    · refine r_perm (lv' := []) [] rfl ?_
      exact tX11_ground_T_J21 hg htr hTb C  h5
def fX11_person_T_J21  (h : PH) : Option (Option Int32 × PH) := some (none, h)
def fX11_person_T (o0 : Nat) (i1 : Int32) (i2 : Int32) (h : PH) : Option (Option Int32 × PH) := (h_gr 10 7 h o0).bind fun q1 => (h_ck 0 h q1).bind fun _ => h_bd (fX0_hasPerson q1 i1 h) fun x2 h3 => if x2 = 0 then (fX11_person_T_J21  h3) else (h_bd (fX11_within i2 (0 : Int32) (6 : Int32) h3) fun x4 h5 => if x4 = 0 then (fX11_person_T_J21  h5) else (if i2 = 0 then ((h_gr 10 7 h5 o0).bind fun q15 => (h_ck 0 h5 q15).bind fun _ => h_bd (fX0_strengthOf q15 i1 h5) fun x16 h17 => some (some (x16), h17)) else (if i2 = (5 : Int32) then ((h_gr 10 8 h5 o0).bind fun q12 => (h_ck 7 h5 q12).bind fun _ => h_bd (fX8_groundsOf q12 i1 h5) fun x13 h14 => some (some (x13), h14)) else (if i2 = (6 : Int32) then ((h_gr 10 8 h5 o0).bind fun q9 => (h_ck 7 h5 q9).bind fun _ => h_bd (fX8_wantsOf q9 i1 h5) fun x10 h11 => some (some (x10), h11)) else ((h_gr 10 8 h5 o0).bind fun q6 => (h_ck 7 h5 q6).bind fun _ => h_bd (fX8_humourOf q6 i1 (i2 - (1 : Int32)) h5) fun x7 h8 => some (some (x7), h8))))))
set_option maxRecDepth 100000 in
set_option maxHeartbeats 4000000 in
theorem tX11_person_T_J21 {K : AC} {g : WG} (hg : p_al g = false) (htr : K.2.1.stackTraces = false) (hTb : ∀ x ∈ K.2.2.2.2.2.2.2.2.2.exceptionTable.toList, False)  (C : Cx K g cX11_person 3 RX11 (some .int) "person" 6 1 6)   (h : PH) : VX K g 3 0 0 (x_fin K g em_i) 21 [] [] h (fX11_person_T_J21  h) := by
  unfold fX11_person_T_J21
  exact r_thr hg htr hTb C (Nat.le_of_ble_eq_true rfl) (Nat.le_of_ble_eq_true rfl) dX11_person_21 dX11_person_24 dX11_person_25 dX11_person_28
set_option maxRecDepth 100000 in
set_option maxHeartbeats 4000000 in
theorem tcX11_person_T (l : Launch) (g : WG) (hg : p_al g = false) (htr : l.stackTraces = false) (o0 : Nat) (i1 : Int32) (i2 : Int32) (h : PH) : CX l g 6 yX11_person cX11_person 3 (some .int) em_i [p_rf g o0, .int i1, .int i2] h (fX11_person_T o0 i1 i2 h) := by
  refine CX_of (own := RX11) (nm := "person") (by decide +kernel) (Nat.le_of_ble_eq_true rfl) rfl rfl rfl (fun K hK C hTb => ?_)
  subst hK
  unfold fX11_person_T
  show VX K g _ _ _ _ _ [(0, p_rf g o0), (1, .int i1), (2, .int i2)] _ _ _
  refine r_aload_n C dX11_person_0 0 rfl ?_
  refine r_gr C wf_X11_73_10 dX11_person_1 (fun q1 => ?_)
  refine r_iload_n C dX11_person_4 1 rfl ?_
  refine r_cvi (As := [.int i1]) (st := []) C wv_X11_184 (tcX0_hasPerson K.2.1 g hg q1 i1 h) (Nat.le_of_ble_eq_true rfl) rfl rfl (Nat.le_of_ble_eq_true rfl) dX11_person_5 ⟨Nat.le_of_ble_eq_true rfl, Nat.le_of_ble_eq_true rfl⟩ (fun x2 h3 => ?_)
  refine r_if_eq (tgt := 21) C dX11_person_8 (by decide) ?_ ?_
  · refine r_perm (lv' := []) [] rfl ?_
    exact tX11_person_T_J21 hg htr hTb C  h3
  · refine r_iload_n C dX11_person_11 2 rfl ?_
    refine r_iconst C dX11_person_12 k_i0 ?_
    refine r_bipush C dX11_person_13 k_b6 ?_
    refine r_csi (As := [.int i2, .int (0 : Int32), .int (6 : Int32)]) (st := []) C ws_X11_164 (tcX11_within K.2.1 g hg i2 (0 : Int32) (6 : Int32) h3) (Nat.le_of_ble_eq_true rfl) rfl rfl (Nat.le_of_ble_eq_true rfl) dX11_person_15 ⟨Nat.le_of_ble_eq_true rfl, Nat.le_of_ble_eq_true rfl⟩ (fun x4 h5 => ?_)
    refine r_if_ne (tgt := 29) C dX11_person_18 (by decide) ?_ ?_
    · refine r_iload_n C dX11_person_29 2 rfl ?_
      refine r_if_ne (tgt := 42) C dX11_person_30 (by decide) ?_ ?_
      · refine r_iload_n C dX11_person_42 2 rfl ?_
        refine r_iconst C dX11_person_43 k_i5 ?_
        refine r_icmp_ne (tgt := 56) C dX11_person_44 (by decide) ?_ ?_
        · refine r_iload_n C dX11_person_56 2 rfl ?_
          refine r_bipush C dX11_person_57 k_b6 ?_
          refine r_icmp_ne (tgt := 73) C dX11_person_59 (by decide) ?_ ?_
          · refine r_aload_n C dX11_person_73 0 rfl ?_
            refine r_gr C wf_X11_77_10 dX11_person_74 (fun q6 => ?_)
            refine r_iload_n C dX11_person_77 1 rfl ?_
            refine r_iload_n C dX11_person_78 2 rfl ?_
            refine r_iconst C dX11_person_79 k_i1 ?_
            refine r_isub C dX11_person_80 ?_
            refine r_cvi (As := [.int i1, .int (i2 - (1 : Int32))]) (st := []) C wv_X11_196 (tcX8_humourOf K.2.1 g hg q6 i1 (i2 - (1 : Int32)) h5) (Nat.le_of_ble_eq_true rfl) rfl rfl (Nat.le_of_ble_eq_true rfl) dX11_person_81 ⟨Nat.le_of_ble_eq_true rfl, Nat.le_of_ble_eq_true rfl⟩ (fun x7 h8 => ?_)
            exact r_iretX C dX11_person_84
          · refine r_aload_n C dX11_person_62 0 rfl ?_
            refine r_gr C wf_X11_77_10 dX11_person_63 (fun q9 => ?_)
            refine r_iload_n C dX11_person_66 1 rfl ?_
            refine r_cvi (As := [.int i1]) (st := []) C wv_X11_193 (tcX8_wantsOf K.2.1 g hg q9 i1 h5) (Nat.le_of_ble_eq_true rfl) rfl rfl (Nat.le_of_ble_eq_true rfl) dX11_person_67 ⟨Nat.le_of_ble_eq_true rfl, Nat.le_of_ble_eq_true rfl⟩ (fun x10 h11 => ?_)
            refine r_goto (tgt := 84) C dX11_person_70 (by decide) ?_
            exact r_iretX C dX11_person_84
        · refine r_aload_n C dX11_person_47 0 rfl ?_
          refine r_gr C wf_X11_77_10 dX11_person_48 (fun q12 => ?_)
          refine r_iload_n C dX11_person_51 1 rfl ?_
          refine r_cvi (As := [.int i1]) (st := []) C wv_X11_190 (tcX8_groundsOf K.2.1 g hg q12 i1 h5) (Nat.le_of_ble_eq_true rfl) rfl rfl (Nat.le_of_ble_eq_true rfl) dX11_person_52 ⟨Nat.le_of_ble_eq_true rfl, Nat.le_of_ble_eq_true rfl⟩ (fun x13 h14 => ?_)
          exact r_iretX C dX11_person_55
      · refine r_aload_n C dX11_person_33 0 rfl ?_
        refine r_gr C wf_X11_73_10 dX11_person_34 (fun q15 => ?_)
        refine r_iload_n C dX11_person_37 1 rfl ?_
        refine r_cvi (As := [.int i1]) (st := []) C wv_X11_187 (tcX0_strengthOf K.2.1 g hg q15 i1 h5) (Nat.le_of_ble_eq_true rfl) rfl rfl (Nat.le_of_ble_eq_true rfl) dX11_person_38 ⟨Nat.le_of_ble_eq_true rfl, Nat.le_of_ble_eq_true rfl⟩ (fun x16 h17 => ?_)
        exact r_iretX C dX11_person_41
    · refine r_perm (lv' := []) [] rfl ?_
      exact tX11_person_T_J21 hg htr hTb C  h5
def fX11_row_T (o0 : Nat) (i1 : Int32) (h : PH) : Option (Option Int64 × PH) := (h_gr 10 6 h o0).bind fun q1 => (h_ck 2 h q1).bind fun _ => h_bd (fX3_size q1 h) fun x2 h3 => h_bd (fX11_within i1 (0 : Int32) (x2 - (1 : Int32)) h3) fun x4 h5 => if x4 = 0 then (some (none, h5)) else ((h_gr 10 6 h5 o0).bind fun q6 => (h_ck 2 h5 q6).bind fun _ => h_bd (fX3_at q6 i1 h5) fun y7 h8 => some (some (y7), h8))
set_option maxRecDepth 100000 in
set_option maxHeartbeats 4000000 in
theorem tcX11_row_T (l : Launch) (g : WG) (hg : p_al g = false) (htr : l.stackTraces = false) (o0 : Nat) (i1 : Int32) (h : PH) : CX l g 6 yX11_row cX11_row 2 (some .long) em_l [p_rf g o0, .int i1] h (fX11_row_T o0 i1 h) := by
  refine CX_of (own := RX11) (nm := "row") (by decide +kernel) (Nat.le_of_ble_eq_true rfl) rfl rfl rfl (fun K hK C hTb => ?_)
  subst hK
  unfold fX11_row_T
  show VX K g _ _ _ _ _ [(0, p_rf g o0), (1, .int i1)] _ _ _
  refine r_iload_n C dX11_row_0 1 rfl ?_
  refine r_iconst C dX11_row_1 k_i0 ?_
  refine r_aload_n C dX11_row_2 0 rfl ?_
  refine r_gr C wf_X11_69_10 dX11_row_3 (fun q1 => ?_)
  refine r_cvi (As := []) (st := [.int (0 : Int32), .int i1]) C wv_X11_417 (tcX3_size K.2.1 g hg q1 h) (Nat.le_of_ble_eq_true rfl) rfl rfl (Nat.le_of_ble_eq_true rfl) dX11_row_6 ⟨Nat.le_of_ble_eq_true rfl, Nat.le_of_ble_eq_true rfl⟩ (fun x2 h3 => ?_)
  refine r_iconst C dX11_row_9 k_i1 ?_
  refine r_isub C dX11_row_10 ?_
  refine r_csi (As := [.int i1, .int (0 : Int32), .int (x2 - (1 : Int32))]) (st := []) C ws_X11_164 (tcX11_within K.2.1 g hg i1 (0 : Int32) (x2 - (1 : Int32)) h3) (Nat.le_of_ble_eq_true rfl) rfl rfl (Nat.le_of_ble_eq_true rfl) dX11_row_11 ⟨Nat.le_of_ble_eq_true rfl, Nat.le_of_ble_eq_true rfl⟩ (fun x4 h5 => ?_)
  refine r_if_ne (tgt := 25) C dX11_row_14 (by decide) ?_ ?_
  · refine r_aload_n C dX11_row_25 0 rfl ?_
    refine r_gr C wf_X11_69_10 dX11_row_26 (fun q6 => ?_)
    refine r_iload_n C dX11_row_29 1 rfl ?_
    refine r_cvl (As := [.int i1]) (st := []) C wv_X11_418 (tcX3_at K.2.1 g hg q6 i1 h5) (Nat.le_of_ble_eq_true rfl) rfl rfl (Nat.le_of_ble_eq_true rfl) dX11_row_30 ⟨Nat.le_of_ble_eq_true rfl, Nat.le_of_ble_eq_true rfl⟩ (fun y7 h8 => ?_)
    exact r_lretX C dX11_row_33
  · exact r_thr hg htr hTb C (Nat.le_of_ble_eq_true rfl) (Nat.le_of_ble_eq_true rfl) dX11_row_17 dX11_row_20 dX11_row_21 dX11_row_24
