set_option maxRecDepth 100000 in
set_option maxHeartbeats 4000000 in
theorem tcX12_hadWith (l : Launch) (g : WG) (hg : p_al g = false) (o0 : Nat) (i1 : Int32) (i2 : Int32) (i3 : Int32) (h : PH) : CT l g 612 0 0 yX12_hadWith cX12_hadWith 4 (some .int) em_i [p_rf g o0, .int i1, .int i2, .int i3] h (fX12_hadWith o0 i1 i2 i3 h) := by
  refine CT_of (own := RX12) (nm := "hadWith") (by decide +kernel) (Nat.le_of_ble_eq_true rfl) rfl rfl rfl ⟨rfl, rfl⟩ (fun K hK C => ?_)
  subst hK
  unfold fX12_hadWith
  show VX K g _ _ _ _ _ [(0, p_rf g o0), (1, .int i1), (2, .int i2), (3, .int i3)] _ _ _
  refine r_aload_n C dX12_hadWith_0 0 rfl ?_
  refine r_iload_n C dX12_hadWith_1 1 rfl ?_
  refine r_iload_n C dX12_hadWith_2 2 rfl ?_
  refine r_iload_n C dX12_hadWith_3 3 rfl ?_
  refine r_cvv (As := [.int i1, .int i2, .int i3]) (st := []) C wv_X12_354 (tcX12_goWith K.2.1 g hg o0 i1 i2 i3 h) (Nat.le_of_ble_eq_true rfl) rfl rfl (Nat.le_of_ble_eq_true rfl) dX12_hadWith_4 ⟨Nat.le_of_ble_eq_true rfl, Nat.le_of_ble_eq_true rfl⟩ (fun h1 => ?_)
  refine r_aload_n C dX12_hadWith_7 0 rfl ?_
  refine r_aload_n C dX12_hadWith_8 0 rfl ?_
  refine r_gr C wf_X12_57_11 dX12_hadWith_9 (fun q2 => ?_)
  refine r_iload_n C dX12_hadWith_12 1 rfl ?_
  refine r_cvi (As := [p_rf g q2, .int i1]) (st := []) C wv_X12_261 (tcX12_had K.2.1 g hg o0 q2 i1 h1) (Nat.le_of_ble_eq_true rfl) rfl rfl (Nat.le_of_ble_eq_true rfl) dX12_hadWith_13 ⟨Nat.le_of_ble_eq_true rfl, Nat.le_of_ble_eq_true rfl⟩ (fun x3 h4 => ?_)
  exact r_iret C dX12_hadWith_16
set_option maxRecDepth 100000 in
set_option maxHeartbeats 4000000 in
theorem tX12_free_J45_4 {K : AC} {g : WG} (hg : p_al g = false)  (C : Cx K g cX12_free 4 RX12 (some .int) "free" 2 0 0) (o0 : Nat) (i1 : Int32) (i3 : Int32) (s0 : Int32) (s1 : Int32)    {rc : Int32 → Int32 → PH → Option (Int32 × PH)} {kx : Int32 → PH → Option (Int32 × PH)} (hr : ∀ (i2' : Int32) (i3' : Int32) (h : PH), VX K g 4 0 0 (a_fin K g 0 0 em_i) 4 [(0, p_rf g o0), (1, .int i1), (2, .int i2'), (3, .int i3')] [] h (rc i2' i3' h)) (hk : ∀ (i2' : Int32) (h : PH), VX K g 4 0 0 (a_fin K g 0 0 em_i) 53 [(2, .int i2')] [] h (kx i2' h)) (h : PH) : VX K g 4 0 0 (a_fin K g 0 0 em_i) 45 [(0, p_rf g o0), (1, .int i1), (3, .int i3)] [.int s0, .int s1] h (fX12_free_J45_4 rc kx o0 i1 i3 s0 s1 h) := by
  unfold fX12_free_J45_4
  refine r_ior C dX12_free_45 ?_
  refine r_topi (fun x1 => ?_)
  refine r_istore_n (lv9 := [(2, .int x1), (0, p_rf g o0), (1, .int i1), (3, .int i3)]) C dX12_free_46 (by decide) rfl ?_
  refine r_iinc (lv' := [(2, .int x1), (0, p_rf g o0), (1, .int i1)]) C dX12_free_47 3 rfl k_i1 (by decide) (fun _ => rfl) (fun x2 => ?_)
  refine r_goto (tgt := 4) C dX12_free_50 (by decide) ?_
  refine r_perm (lv' := [(0, p_rf g o0), (1, .int i1), (2, .int x1), (3, .int x2)]) [2, 3, 1, 0] rfl ?_
  exact hr x1 x2 h
set_option maxRecDepth 100000 in
set_option maxHeartbeats 4000000 in
theorem tX12_free_J44_4 {K : AC} {g : WG} (hg : p_al g = false)  (C : Cx K g cX12_free 4 RX12 (some .int) "free" 2 0 0) (o0 : Nat) (i1 : Int32) (i3 : Int32) (s0 : Int32)    {rc : Int32 → Int32 → PH → Option (Int32 × PH)} {kx : Int32 → PH → Option (Int32 × PH)} (hr : ∀ (i2' : Int32) (i3' : Int32) (h : PH), VX K g 4 0 0 (a_fin K g 0 0 em_i) 4 [(0, p_rf g o0), (1, .int i1), (2, .int i2'), (3, .int i3')] [] h (rc i2' i3' h)) (hk : ∀ (i2' : Int32) (h : PH), VX K g 4 0 0 (a_fin K g 0 0 em_i) 53 [(2, .int i2')] [] h (kx i2' h)) (h : PH) : VX K g 4 0 0 (a_fin K g 0 0 em_i) 44 [(0, p_rf g o0), (1, .int i1), (3, .int i3)] [.int s0] h (fX12_free_J44_4 rc kx o0 i1 i3 s0 h) := by
  unfold fX12_free_J44_4
  refine r_iconst C dX12_free_44 k_i0 ?_
  exact tX12_free_J45_4 hg C o0 i1 i3 (0 : Int32) s0 hr hk h
set_option maxRecDepth 100000 in
set_option maxHeartbeats 4000000 in
theorem tX12_free_L4 {K : AC} {g : WG} (hg : p_al g = false)  (C : Cx K g cX12_free 4 RX12 (some .int) "free" 2 0 0) (o0 : Nat) (i1 : Int32) {kx : Int32 → PH → Option (Int32 × PH)} (hk : ∀ (i2 : Int32) (h : PH), VX K g 4 0 0 (a_fin K g 0 0 em_i) 53 [(2, .int i2)] [] h (kx i2 h)) : ∀ (n : Nat) (i2 : Int32) (i3 : Int32) (h : PH), VX K g 4 0 0 (a_fin K g 0 0 em_i) 4 [(0, p_rf g o0), (1, .int i1), (2, .int i2), (3, .int i3)] [] h (fX12_free_L4 o0 i1 kx n i2 i3 h) := by
  intro n
  induction n with
  | zero =>
    intros
    exact r_none
  | succ n ih =>
    intro i2 i3 h
    rw [fX12_free_L4]
    refine r_iload_n C dX12_free_4 3 rfl ?_
    refine r_aload_n C dX12_free_5 0 rfl ?_
    refine r_gi C wf_X12_116_11 dX12_free_6 (fun x1 => ?_)
    refine r_icmp_ge (tgt := 53) C dX12_free_9 (by decide) ?_ ?_
    · refine r_perm (lv' := [(2, .int i2)]) [2] rfl ?_
      exact hk i2 h
    · refine r_iload_n C dX12_free_12 2 rfl ?_
      refine r_aload_n C dX12_free_13 0 rfl ?_
      refine r_gr C wf_X12_9_11 dX12_free_14 (fun q2 => ?_)
      refine r_iload_n C dX12_free_17 3 rfl ?_
      refine r_iald C dX12_free_18 (fun x3 => ?_)
      refine r_if_le (tgt := 44) C dX12_free_19 (by decide) ?_ ?_
      · refine r_perm (lv' := [(0, p_rf g o0), (1, .int i1), (3, .int i3)]) [0, 1, 3] rfl ?_
        exact tX12_free_J44_4 hg C o0 i1 i3 i2 ih hk h
      · refine r_aload_n C dX12_free_22 0 rfl ?_
        refine r_gr C wf_X12_9_11 dX12_free_23 (fun q4 => ?_)
        refine r_bipush C dX12_free_26 k_b32 ?_
        refine r_iload_n C dX12_free_28 1 rfl ?_
        refine r_iadd C dX12_free_29 ?_
        refine r_iald C dX12_free_30 (fun x5 => ?_)
        refine r_iload_n C dX12_free_31 3 rfl ?_
        refine r_csi (As := [.int x5, .int i3]) (st := [.int i2]) C ws_X12_265 (tcX12_has K.2.1 g hg x5 i3 h) (Nat.le_of_ble_eq_true rfl) rfl rfl (Nat.le_of_ble_eq_true rfl) dX12_free_32 ⟨Nat.le_of_ble_eq_true rfl, Nat.le_of_ble_eq_true rfl⟩ (fun x6 h7 => ?_)
        refine r_if_ne (tgt := 44) C dX12_free_35 (by decide) ?_ ?_
        · refine r_perm (lv' := [(0, p_rf g o0), (1, .int i1), (3, .int i3)]) [0, 1, 3] rfl ?_
          exact tX12_free_J44_4 hg C o0 i1 i3 i2 ih hk h7
        · refine r_iconst C dX12_free_38 k_i1 ?_
          refine r_iload_n C dX12_free_39 3 rfl ?_
          refine r_ishl C dX12_free_40 ?_
          refine r_goto (tgt := 45) C dX12_free_41 (by decide) ?_
          refine r_perm (lv' := [(0, p_rf g o0), (1, .int i1), (3, .int i3)]) [0, 1, 3] rfl ?_
          exact tX12_free_J45_4 hg C o0 i1 i3 ((1 : Int32) <<< (i3 &&& 31)) i2 ih hk h7
set_option maxRecDepth 100000 in
set_option maxHeartbeats 4000000 in
theorem tcX12_free (l : Launch) (g : WG) (hg : p_al g = false) (o0 : Nat) (i1 : Int32) (h : PH) : CT l g 2 0 0 yX12_free cX12_free 4 (some .int) em_i [p_rf g o0, .int i1] h (fX12_free o0 i1 h) := by
  refine CT_of (own := RX12) (nm := "free") (by decide +kernel) (Nat.le_of_ble_eq_true rfl) rfl rfl rfl ⟨rfl, rfl⟩ (fun K hK C => ?_)
  subst hK
  unfold fX12_free
  show VX K g _ _ _ _ _ [(0, p_rf g o0), (1, .int i1)] _ _ _
  refine r_iconst C dX12_free_0 k_i0 ?_
  refine r_istore_n (lv9 := [(2, .int (0 : Int32)), (0, p_rf g o0), (1, .int i1)]) C dX12_free_1 (by decide) rfl ?_
  refine r_iconst C dX12_free_2 k_i0 ?_
  refine r_istore_n (lv9 := [(3, .int (0 : Int32)), (2, .int (0 : Int32)), (0, p_rf g o0), (1, .int i1)]) C dX12_free_3 (by decide) rfl ?_
  refine r_perm (lv' := [(0, p_rf g o0), (1, .int i1), (2, .int (0 : Int32)), (3, .int (0 : Int32))]) [2, 3, 1, 0] rfl ?_
  refine tX12_free_L4 hg C o0 i1 (fun x1 h2 => ?_) FU (0 : Int32) (0 : Int32) h
  refine r_iload_n C dX12_free_53 0 rfl ?_
  exact r_iret C dX12_free_54
set_option maxRecDepth 100000 in
set_option maxHeartbeats 4000000 in
theorem tX12_gradeOf_J31_4 {K : AC} {g : WG} (hg : p_al g = false)  (C : Cx K g cX12_gradeOf 4 RX12 (some .int) "gradeOf" 2 0 0) (o0 : Nat) (i1 : Int32) (i3 : Int32) (s0 : Int32) (s1 : Int32)    {rc : Int32 → Int32 → PH → Option (Int32 × PH)} {kx : Int32 → PH → Option (Int32 × PH)} (hr : ∀ (i2' : Int32) (i3' : Int32) (h : PH), VX K g 4 0 0 (a_fin K g 0 0 em_i) 4 [(0, p_rf g o0), (1, .int i1), (2, .int i2'), (3, .int i3')] [] h (rc i2' i3' h)) (hk : ∀ (i2' : Int32) (h : PH), VX K g 4 0 0 (a_fin K g 0 0 em_i) 39 [(2, .int i2')] [] h (kx i2' h)) (h : PH) : VX K g 4 0 0 (a_fin K g 0 0 em_i) 31 [(0, p_rf g o0), (1, .int i1), (3, .int i3)] [.int s0, .int s1] h (fX12_gradeOf_J31_4 rc kx o0 i1 i3 s0 s1 h) := by
  unfold fX12_gradeOf_J31_4
  refine r_iadd C dX12_gradeOf_31 ?_
  refine r_topi (fun x1 => ?_)
  refine r_istore_n (lv9 := [(2, .int x1), (0, p_rf g o0), (1, .int i1), (3, .int i3)]) C dX12_gradeOf_32 (by decide) rfl ?_
  refine r_iinc (lv' := [(2, .int x1), (0, p_rf g o0), (1, .int i1)]) C dX12_gradeOf_33 3 rfl k_i1 (by decide) (fun _ => rfl) (fun x2 => ?_)
  refine r_goto (tgt := 4) C dX12_gradeOf_36 (by decide) ?_
  refine r_perm (lv' := [(0, p_rf g o0), (1, .int i1), (2, .int x1), (3, .int x2)]) [2, 3, 1, 0] rfl ?_
  exact hr x1 x2 h
set_option maxRecDepth 100000 in
set_option maxHeartbeats 4000000 in
theorem tX12_gradeOf_L4 {K : AC} {g : WG} (hg : p_al g = false)  (C : Cx K g cX12_gradeOf 4 RX12 (some .int) "gradeOf" 2 0 0) (o0 : Nat) (i1 : Int32) {kx : Int32 → PH → Option (Int32 × PH)} (hk : ∀ (i2 : Int32) (h : PH), VX K g 4 0 0 (a_fin K g 0 0 em_i) 39 [(2, .int i2)] [] h (kx i2 h)) : ∀ (n : Nat) (i2 : Int32) (i3 : Int32) (h : PH), VX K g 4 0 0 (a_fin K g 0 0 em_i) 4 [(0, p_rf g o0), (1, .int i1), (2, .int i2), (3, .int i3)] [] h (fX12_gradeOf_L4 o0 i1 kx n i2 i3 h) := by
  intro n
  induction n with
  | zero =>
    intros
    exact r_none
  | succ n ih =>
    intro i2 i3 h
    rw [fX12_gradeOf_L4]
    refine r_iload_n C dX12_gradeOf_4 3 rfl ?_
    refine r_aload_n C dX12_gradeOf_5 0 rfl ?_
    refine r_gi C wf_X12_116_11 dX12_gradeOf_6 (fun x1 => ?_)
    refine r_icmp_ge (tgt := 39) C dX12_gradeOf_9 (by decide) ?_ ?_
    · refine r_perm (lv' := [(2, .int i2)]) [2] rfl ?_
      exact hk i2 h
    · refine r_iload_n C dX12_gradeOf_12 2 rfl ?_
      refine r_iload_n C dX12_gradeOf_13 1 rfl ?_
      refine r_iload_n C dX12_gradeOf_14 3 rfl ?_
      refine r_csi (As := [.int i1, .int i3]) (st := [.int i2]) C ws_X12_265 (tcX12_has K.2.1 g hg i1 i3 h) (Nat.le_of_ble_eq_true rfl) rfl rfl (Nat.le_of_ble_eq_true rfl) dX12_gradeOf_15 ⟨Nat.le_of_ble_eq_true rfl, Nat.le_of_ble_eq_true rfl⟩ (fun x2 h3 => ?_)
      refine r_if_eq (tgt := 30) C dX12_gradeOf_18 (by decide) ?_ ?_
      · refine r_iconst C dX12_gradeOf_30 k_i0 ?_
        refine r_perm (lv' := [(0, p_rf g o0), (1, .int i1), (3, .int i3)]) [0, 1, 3] rfl ?_
        exact tX12_gradeOf_J31_4 hg C o0 i1 i3 (0 : Int32) i2 ih hk h3
      · refine r_aload_n C dX12_gradeOf_21 0 rfl ?_
        refine r_gr C wf_X12_13_11 dX12_gradeOf_22 (fun q4 => ?_)
        refine r_iload_n C dX12_gradeOf_25 3 rfl ?_
        refine r_iald C dX12_gradeOf_26 (fun x5 => ?_)
        refine r_goto (tgt := 31) C dX12_gradeOf_27 (by decide) ?_
        refine r_perm (lv' := [(0, p_rf g o0), (1, .int i1), (3, .int i3)]) [0, 1, 3] rfl ?_
        exact tX12_gradeOf_J31_4 hg C o0 i1 i3 x5 i2 ih hk h3
set_option maxRecDepth 100000 in
set_option maxHeartbeats 4000000 in
theorem tcX12_gradeOf (l : Launch) (g : WG) (hg : p_al g = false) (o0 : Nat) (i1 : Int32) (h : PH) : CT l g 2 0 0 yX12_gradeOf cX12_gradeOf 4 (some .int) em_i [p_rf g o0, .int i1] h (fX12_gradeOf o0 i1 h) := by
  refine CT_of (own := RX12) (nm := "gradeOf") (by decide +kernel) (Nat.le_of_ble_eq_true rfl) rfl rfl rfl ⟨rfl, rfl⟩ (fun K hK C => ?_)
  subst hK
  unfold fX12_gradeOf
  show VX K g _ _ _ _ _ [(0, p_rf g o0), (1, .int i1)] _ _ _
  refine r_iconst C dX12_gradeOf_0 k_i0 ?_
  refine r_istore_n (lv9 := [(2, .int (0 : Int32)), (0, p_rf g o0), (1, .int i1)]) C dX12_gradeOf_1 (by decide) rfl ?_
  refine r_iconst C dX12_gradeOf_2 k_i0 ?_
  refine r_istore_n (lv9 := [(3, .int (0 : Int32)), (2, .int (0 : Int32)), (0, p_rf g o0), (1, .int i1)]) C dX12_gradeOf_3 (by decide) rfl ?_
  refine r_perm (lv' := [(0, p_rf g o0), (1, .int i1), (2, .int (0 : Int32)), (3, .int (0 : Int32))]) [2, 3, 1, 0] rfl ?_
  refine tX12_gradeOf_L4 hg C o0 i1 (fun x1 h2 => ?_) FU (0 : Int32) (0 : Int32) h
  refine r_iload_n C dX12_gradeOf_39 0 rfl ?_
  exact r_iret C dX12_gradeOf_40
set_option maxRecDepth 100000 in
set_option maxHeartbeats 4000000 in
theorem tX12_fewest_J142_46 {K : AC} {g : WG} (hg : p_al g = false)  (C : Cx K g cX12_fewest 8 RX12 (some .int) "fewest" 613 0 0) (o0 : Nat) (i1 : Int32) (i2 : Int32) (i3 : Int32) (i4 : Int32) (i5 : Int32) (i6 : Int32)    {rc : Int32 → Int32 → PH → Option (Int32 × PH)} {kx : Int32 → PH → Option (Int32 × PH)} (hr : ∀ (i5' : Int32) (i6' : Int32) (h : PH), VX K g 8 0 0 (a_fin K g 0 0 em_i) 46 [(0, p_rf g o0), (1, .int i1), (2, .int i2), (3, .int i3), (4, .int i4), (5, .int i5'), (6, .int i6')] [] h (rc i5' i6' h)) (hk : ∀ (i5' : Int32) (h : PH), VX K g 8 0 0 (a_fin K g 0 0 em_i) 148 [(0, p_rf g o0), (5, .int i5')] [] h (kx i5' h)) (h : PH) : VX K g 8 0 0 (a_fin K g 0 0 em_i) 142 [(0, p_rf g o0), (1, .int i1), (2, .int i2), (3, .int i3), (4, .int i4), (5, .int i5), (6, .int i6)] [] h (fX12_fewest_J142_46 rc kx o0 i1 i2 i3 i4 i5 i6 h) := by
  unfold fX12_fewest_J142_46
  refine r_iinc (lv' := [(0, p_rf g o0), (1, .int i1), (2, .int i2), (3, .int i3), (4, .int i4), (5, .int i5)]) C dX12_fewest_142 6 rfl k_i1 (by decide) (fun _ => rfl) (fun x1 => ?_)
  refine r_goto (tgt := 46) C dX12_fewest_145 (by decide) ?_
  refine r_perm (lv' := [(0, p_rf g o0), (1, .int i1), (2, .int i2), (3, .int i3), (4, .int i4), (5, .int i5), (6, .int x1)]) [1, 2, 3, 4, 5, 6, 0] rfl ?_
  exact hr i5 x1 h
set_option maxRecDepth 100000 in
set_option maxHeartbeats 4000000 in
theorem tX12_fewest_J123_46 {K : AC} {g : WG} (hg : p_al g = false)  (C : Cx K g cX12_fewest 8 RX12 (some .int) "fewest" 613 0 0) (o0 : Nat) (i1 : Int32) (i2 : Int32) (i3 : Int32) (i4 : Int32) (i5 : Int32) (i6 : Int32)    {rc : Int32 → Int32 → PH → Option (Int32 × PH)} {kx : Int32 → PH → Option (Int32 × PH)} (hr : ∀ (i5' : Int32) (i6' : Int32) (h : PH), VX K g 8 0 0 (a_fin K g 0 0 em_i) 46 [(0, p_rf g o0), (1, .int i1), (2, .int i2), (3, .int i3), (4, .int i4), (5, .int i5'), (6, .int i6')] [] h (rc i5' i6' h)) (hk : ∀ (i5' : Int32) (h : PH), VX K g 8 0 0 (a_fin K g 0 0 em_i) 148 [(0, p_rf g o0), (5, .int i5')] [] h (kx i5' h)) (h : PH) : VX K g 8 0 0 (a_fin K g 0 0 em_i) 123 [(0, p_rf g o0), (1, .int i1), (2, .int i2), (3, .int i3), (4, .int i4), (5, .int i5), (6, .int i6)] [] h (fX12_fewest_J123_46 rc kx o0 i1 i2 i3 i4 i5 i6 h) := by
  unfold fX12_fewest_J123_46
  refine r_aload_n C dX12_fewest_123 0 rfl ?_
  refine r_iload_n C dX12_fewest_124 1 rfl ?_
  refine r_iload C dX12_fewest_125 6 rfl ?_
  refine r_iload_n C dX12_fewest_127 3 rfl ?_
  refine r_cvi (As := [.int i1, .int i6, .int i3]) (st := []) C wv_X12_364 (tcX12_hadWith K.2.1 g hg o0 i1 i6 i3 h) (Nat.le_of_ble_eq_true rfl) rfl rfl (Nat.le_of_ble_eq_true rfl) dX12_fewest_128 ⟨Nat.le_of_ble_eq_true rfl, Nat.le_of_ble_eq_true rfl⟩ (fun x1 h2 => ?_)
  refine r_iload_n C dX12_fewest_131 2 rfl ?_
  refine r_csi (As := [.int x1, .int i2]) (st := []) C ws_X12_265 (tcX12_has K.2.1 g hg x1 i2 h2) (Nat.le_of_ble_eq_true rfl) rfl rfl (Nat.le_of_ble_eq_true rfl) dX12_fewest_132 ⟨Nat.le_of_ble_eq_true rfl, Nat.le_of_ble_eq_true rfl⟩ (fun x3 h4 => ?_)
  refine r_if_eq (tgt := 142) C dX12_fewest_135 (by decide) ?_ ?_
  · exact tX12_fewest_J142_46 hg C o0 i1 i2 i3 i4 i5 i6 hr hk h4
  · refine r_iload C dX12_fewest_138 6 rfl ?_
    refine r_istore (lv9 := [(5, .int i6), (0, p_rf g o0), (1, .int i1), (2, .int i2), (3, .int i3), (4, .int i4), (6, .int i6)]) C dX12_fewest_140 (by decide) rfl ?_
    refine r_perm (lv' := [(0, p_rf g o0), (1, .int i1), (2, .int i2), (3, .int i3), (4, .int i4), (5, .int i6), (6, .int i6)]) [1, 2, 3, 4, 5, 0, 6] rfl ?_
    exact tX12_fewest_J142_46 hg C o0 i1 i2 i3 i4 i6 i6 hr hk h4
set_option maxRecDepth 100000 in
set_option maxHeartbeats 4000000 in
theorem tX12_fewest_J87_46 {K : AC} {g : WG} (hg : p_al g = false)  (C : Cx K g cX12_fewest 8 RX12 (some .int) "fewest" 613 0 0) (o0 : Nat) (i1 : Int32) (i2 : Int32) (i3 : Int32) (i4 : Int32) (i5 : Int32) (i6 : Int32) (s0 : Int32)    {rc : Int32 → Int32 → PH → Option (Int32 × PH)} {kx : Int32 → PH → Option (Int32 × PH)} (hr : ∀ (i5' : Int32) (i6' : Int32) (h : PH), VX K g 8 0 0 (a_fin K g 0 0 em_i) 46 [(0, p_rf g o0), (1, .int i1), (2, .int i2), (3, .int i3), (4, .int i4), (5, .int i5'), (6, .int i6')] [] h (rc i5' i6' h)) (hk : ∀ (i5' : Int32) (h : PH), VX K g 8 0 0 (a_fin K g 0 0 em_i) 148 [(0, p_rf g o0), (5, .int i5')] [] h (kx i5' h)) (h : PH) : VX K g 8 0 0 (a_fin K g 0 0 em_i) 87 [(0, p_rf g o0), (1, .int i1), (2, .int i2), (3, .int i3), (4, .int i4), (5, .int i5), (6, .int i6)] [.int s0] h (fX12_fewest_J87_46 rc kx o0 i1 i2 i3 i4 i5 i6 s0 h) := by
  unfold fX12_fewest_J87_46
  refine r_istore (lv9 := [(7, .int s0), (0, p_rf g o0), (1, .int i1), (2, .int i2), (3, .int i3), (4, .int i4), (5, .int i5), (6, .int i6)]) C dX12_fewest_87 (by decide) rfl ?_
  refine r_iload C dX12_fewest_89 6 rfl ?_
  refine r_iconst C dX12_fewest_91 k_im1 ?_
  refine r_icmp_eq (tgt := 123) C dX12_fewest_92 (by decide) ?_ ?_
  · refine r_perm (lv' := [(0, p_rf g o0), (1, .int i1), (2, .int i2), (3, .int i3), (4, .int i4), (5, .int i5), (6, .int i6)]) [1, 2, 3, 4, 5, 6, 7] rfl ?_
    exact tX12_fewest_J123_46 hg C o0 i1 i2 i3 i4 i5 i6 hr hk h
  · refine r_iload C dX12_fewest_95 0 rfl ?_
    refine r_if_gt (tgt := 142) C dX12_fewest_97 (by decide) ?_ ?_
    · refine r_perm (lv' := [(0, p_rf g o0), (1, .int i1), (2, .int i2), (3, .int i3), (4, .int i4), (5, .int i5), (6, .int i6)]) [1, 2, 3, 4, 5, 6, 7] rfl ?_
      exact tX12_fewest_J142_46 hg C o0 i1 i2 i3 i4 i5 i6 hr hk h
    · refine r_iload C dX12_fewest_100 0 rfl ?_
      refine r_if_ne (tgt := 123) C dX12_fewest_102 (by decide) ?_ ?_
      · refine r_perm (lv' := [(0, p_rf g o0), (1, .int i1), (2, .int i2), (3, .int i3), (4, .int i4), (5, .int i5), (6, .int i6)]) [1, 2, 3, 4, 5, 6, 7] rfl ?_
        exact tX12_fewest_J123_46 hg C o0 i1 i2 i3 i4 i5 i6 hr hk h
      · refine r_aload_n C dX12_fewest_105 1 rfl ?_
        refine r_iload C dX12_fewest_106 7 rfl ?_
        refine r_cvi (As := [.int i6]) (st := []) C wv_X12_361 (tcX12_gradeOf K.2.1 g hg o0 i6 h) (Nat.le_of_ble_eq_true rfl) rfl rfl (Nat.le_of_ble_eq_true rfl) dX12_fewest_108 ⟨Nat.le_of_ble_eq_true rfl, Nat.le_of_ble_eq_true rfl⟩ (fun x1 h2 => ?_)
        refine r_aload_n C dX12_fewest_111 1 rfl ?_
        refine r_iload C dX12_fewest_112 6 rfl ?_
        refine r_cvi (As := [.int i5]) (st := [.int x1]) C wv_X12_361 (tcX12_gradeOf K.2.1 g hg o0 i5 h2) (Nat.le_of_ble_eq_true rfl) rfl rfl (Nat.le_of_ble_eq_true rfl) dX12_fewest_114 ⟨Nat.le_of_ble_eq_true rfl, Nat.le_of_ble_eq_true rfl⟩ (fun x3 h4 => ?_)
        refine r_icmp_lt (tgt := 123) C dX12_fewest_117 (by decide) ?_ ?_
        · refine r_perm (lv' := [(0, p_rf g o0), (1, .int i1), (2, .int i2), (3, .int i3), (4, .int i4), (5, .int i5), (6, .int i6)]) [1, 2, 3, 4, 5, 6, 7] rfl ?_
          exact tX12_fewest_J123_46 hg C o0 i1 i2 i3 i4 i5 i6 hr hk h4
        · refine r_goto (tgt := 142) C dX12_fewest_120 (by decide) ?_
          refine r_perm (lv' := [(0, p_rf g o0), (1, .int i1), (2, .int i2), (3, .int i3), (4, .int i4), (5, .int i5), (6, .int i6)]) [1, 2, 3, 4, 5, 6, 7] rfl ?_
          exact tX12_fewest_J142_46 hg C o0 i1 i2 i3 i4 i5 i6 hr hk h4
set_option maxRecDepth 100000 in
set_option maxHeartbeats 4000000 in
theorem tX12_fewest_L46 {K : AC} {g : WG} (hg : p_al g = false)  (C : Cx K g cX12_fewest 8 RX12 (some .int) "fewest" 613 0 0) (o0 : Nat) (i1 : Int32) (i2 : Int32) (i3 : Int32) (i4 : Int32) {kx : Int32 → PH → Option (Int32 × PH)} (hk : ∀ (i5 : Int32) (h : PH), VX K g 8 0 0 (a_fin K g 0 0 em_i) 148 [(0, p_rf g o0), (5, .int i5)] [] h (kx i5 h)) : ∀ (n : Nat) (i5 : Int32) (i6 : Int32) (h : PH), VX K g 8 0 0 (a_fin K g 0 0 em_i) 46 [(0, p_rf g o0), (1, .int i1), (2, .int i2), (3, .int i3), (4, .int i4), (5, .int i5), (6, .int i6)] [] h (fX12_fewest_L46 o0 i1 i2 i3 i4 kx n i5 i6 h) := by
  intro n
  induction n with
  | zero =>
    intros
    exact r_none
  | succ n ih =>
    intro i5 i6 h
    rw [fX12_fewest_L46]
    refine r_iload C dX12_fewest_46 6 rfl ?_
    refine r_iload C dX12_fewest_48 4 rfl ?_
    refine r_icmp_gt (tgt := 148) C dX12_fewest_50 (by decide) ?_ ?_
    · refine r_perm (lv' := [(0, p_rf g o0), (5, .int i5)]) [0, 5] rfl ?_
      exact hk i5 h
    · refine r_iload C dX12_fewest_53 6 rfl ?_
      refine r_iload C dX12_fewest_55 4 rfl ?_
      refine r_iconst C dX12_fewest_57 k_im1 ?_
      refine r_ixor C dX12_fewest_58 ?_
      refine r_iand C dX12_fewest_59 ?_
      refine r_if_eq (tgt := 66) C dX12_fewest_60 (by decide) ?_ ?_
      · refine r_iload C dX12_fewest_66 5 rfl ?_
        refine r_iconst C dX12_fewest_68 k_im1 ?_
        refine r_icmp_ne (tgt := 76) C dX12_fewest_69 (by decide) ?_ ?_
        · refine r_iload C dX12_fewest_76 6 rfl ?_
          refine r_csi (As := [.int i6]) (st := []) C ws_X12_242 (tcJ6_bitCount_0f7a4 K.2.1 g hg i6 h) (Nat.le_of_ble_eq_true rfl) rfl rfl (Nat.le_of_ble_eq_true rfl) dX12_fewest_78 ⟨Nat.le_of_ble_eq_true rfl, Nat.le_of_ble_eq_true rfl⟩ (fun x1 h2 => ?_)
          refine r_iload C dX12_fewest_81 5 rfl ?_
          refine r_csi (As := [.int i5]) (st := [.int x1]) C ws_X12_242 (tcJ6_bitCount_0f7a4 K.2.1 g hg i5 h2) (Nat.le_of_ble_eq_true rfl) rfl rfl (Nat.le_of_ble_eq_true rfl) dX12_fewest_83 ⟨Nat.le_of_ble_eq_true rfl, Nat.le_of_ble_eq_true rfl⟩ (fun x3 h4 => ?_)
          refine r_isub C dX12_fewest_86 ?_
          exact tX12_fewest_J87_46 hg C o0 i1 i2 i3 i4 i5 i6 (x1 - x3) ih hk h4
        · refine r_iconst C dX12_fewest_72 k_im1 ?_
          refine r_goto (tgt := 87) C dX12_fewest_73 (by decide) ?_
          exact tX12_fewest_J87_46 hg C o0 i1 i2 i3 i4 i5 i6 (-1 : Int32) ih hk h
      · refine r_goto (tgt := 142) C dX12_fewest_63 (by decide) ?_
        exact tX12_fewest_J142_46 hg C o0 i1 i2 i3 i4 i5 i6 ih hk h
set_option maxRecDepth 100000 in
set_option maxHeartbeats 4000000 in
theorem tcX12_fewest (l : Launch) (g : WG) (hg : p_al g = false) (o0 : Nat) (i1 : Int32) (i2 : Int32) (i3 : Int32) (h : PH) : CT l g 613 0 0 yX12_fewest cX12_fewest 8 (some .int) em_i [p_rf g o0, .int i1, .int i2, .int i3] h (fX12_fewest o0 i1 i2 i3 h) := by
  refine CT_of (own := RX12) (nm := "fewest") (by decide +kernel) (Nat.le_of_ble_eq_true rfl) rfl rfl rfl ⟨rfl, rfl⟩ (fun K hK C => ?_)
  subst hK
  unfold fX12_fewest
  show VX K g _ _ _ _ _ [(0, p_rf g o0), (1, .int i1), (2, .int i2), (3, .int i3)] _ _ _
  refine r_aload_n C dX12_fewest_0 0 rfl ?_
  refine r_iconst C dX12_fewest_1 k_i0 ?_
  refine r_pi C wf_X12_109_11 dX12_fewest_2 (fun h1 => ?_)
  refine r_aload_n C dX12_fewest_5 0 rfl ?_
  refine r_iload_n C dX12_fewest_6 1 rfl ?_
  refine r_cvi (As := [.int i1]) (st := []) C wv_X12_278 (tcX12_isMan K.2.1 g hg o0 i1 h1) (Nat.le_of_ble_eq_true rfl) rfl rfl (Nat.le_of_ble_eq_true rfl) dX12_fewest_7 ⟨Nat.le_of_ble_eq_true rfl, Nat.le_of_ble_eq_true rfl⟩ (fun x2 h3 => ?_)
  refine r_if_eq (tgt := 31) C dX12_fewest_10 (by decide) ?_ ?_
  · refine r_iconst C dX12_fewest_31 k_im1 ?_
    exact r_iret C dX12_fewest_32
  · refine r_aload_n C dX12_fewest_13 0 rfl ?_
    refine r_iload_n C dX12_fewest_14 2 rfl ?_
    refine r_cvi (As := [.int i2]) (st := []) C wv_X12_345 (tcX12_isWant K.2.1 g hg o0 i2 h3) (Nat.le_of_ble_eq_true rfl) rfl rfl (Nat.le_of_ble_eq_true rfl) dX12_fewest_15 ⟨Nat.le_of_ble_eq_true rfl, Nat.le_of_ble_eq_true rfl⟩ (fun x4 h5 => ?_)
    refine r_if_eq (tgt := 31) C dX12_fewest_18 (by decide) ?_ ?_
    · refine r_iconst C dX12_fewest_31 k_im1 ?_
      exact r_iret C dX12_fewest_32
    · refine r_iload_n C dX12_fewest_21 3 rfl ?_
      refine r_iconst C dX12_fewest_22 k_i0 ?_
      refine r_bipush C dX12_fewest_23 k_b20 ?_
      refine r_csi (As := [.int i3, .int (0 : Int32), .int (20 : Int32)]) (st := []) C ws_X12_119 (tcX12_in K.2.1 g hg i3 (0 : Int32) (20 : Int32) h5) (Nat.le_of_ble_eq_true rfl) rfl rfl (Nat.le_of_ble_eq_true rfl) dX12_fewest_25 ⟨Nat.le_of_ble_eq_true rfl, Nat.le_of_ble_eq_true rfl⟩ (fun x6 h7 => ?_)
      refine r_if_ne (tgt := 33) C dX12_fewest_28 (by decide) ?_ ?_
      · refine r_aload_n C dX12_fewest_33 0 rfl ?_
        refine r_iload_n C dX12_fewest_34 1 rfl ?_
        refine r_cvi (As := [.int i1]) (st := []) C wv_X12_358 (tcX12_free K.2.1 g hg o0 i1 h7) (Nat.le_of_ble_eq_true rfl) rfl rfl (Nat.le_of_ble_eq_true rfl) dX12_fewest_35 ⟨Nat.le_of_ble_eq_true rfl, Nat.le_of_ble_eq_true rfl⟩ (fun x8 h9 => ?_)
        refine r_istore (lv9 := [(4, .int x8), (0, p_rf g o0), (1, .int i1), (2, .int i2), (3, .int i3)]) C dX12_fewest_38 (by decide) rfl ?_
        refine r_iconst C dX12_fewest_40 k_im1 ?_
        refine r_istore (lv9 := [(5, .int (-1 : Int32)), (4, .int x8), (0, p_rf g o0), (1, .int i1), (2, .int i2), (3, .int i3)]) C dX12_fewest_41 (by decide) rfl ?_
        refine r_iconst C dX12_fewest_43 k_i0 ?_
        refine r_istore (lv9 := [(6, .int (0 : Int32)), (5, .int (-1 : Int32)), (4, .int x8), (0, p_rf g o0), (1, .int i1), (2, .int i2), (3, .int i3)]) C dX12_fewest_44 (by decide) rfl ?_
        refine r_perm (lv' := [(0, p_rf g o0), (1, .int i1), (2, .int i2), (3, .int i3), (4, .int x8), (5, .int (-1 : Int32)), (6, .int (0 : Int32))]) [3, 4, 5, 6, 2, 1, 0] rfl ?_
        refine tX12_fewest_L46 hg C o0 i1 i2 i3 x8 (fun x10 h11 => ?_) FU (-1 : Int32) (0 : Int32) h9
        refine r_iload C dX12_fewest_148 1 rfl ?_
        refine r_iconst C dX12_fewest_150 k_im1 ?_
        refine r_icmp_ne (tgt := 157) C dX12_fewest_151 (by decide) ?_ ?_
        · refine r_aload_n C dX12_fewest_157 0 rfl ?_
          refine r_iconst C dX12_fewest_158 k_i0 ?_
          refine r_pi C wf_X12_113_11 dX12_fewest_159 (fun h12 => ?_)
          refine r_aload_n C dX12_fewest_162 0 rfl ?_
          refine r_iload C dX12_fewest_163 1 rfl ?_
          refine r_i2l C dX12_fewest_165 ?_
          refine r_cvv (As := [.long (x10.toInt64)]) (st := []) C wv_X12_329 (tcX12_tell K.2.1 g hg o0 (x10.toInt64) h12) (Nat.le_of_ble_eq_true rfl) rfl rfl (Nat.le_of_ble_eq_true rfl) dX12_fewest_166 ⟨Nat.le_of_ble_eq_true rfl, Nat.le_of_ble_eq_true rfl⟩ (fun h13 => ?_)
          refine r_aload_n C dX12_fewest_169 0 rfl ?_
          refine r_aload_n C dX12_fewest_170 0 rfl ?_
          refine r_iload C dX12_fewest_171 1 rfl ?_
          refine r_cvi (As := [.int x10]) (st := [p_rf g o0]) C wv_X12_361 (tcX12_gradeOf K.2.1 g hg o0 x10 h13) (Nat.le_of_ble_eq_true rfl) rfl rfl (Nat.le_of_ble_eq_true rfl) dX12_fewest_173 ⟨Nat.le_of_ble_eq_true rfl, Nat.le_of_ble_eq_true rfl⟩ (fun x14 h15 => ?_)
          refine r_i2l C dX12_fewest_176 ?_
          refine r_cvv (As := [.long (x14.toInt64)]) (st := []) C wv_X12_329 (tcX12_tell K.2.1 g hg o0 (x14.toInt64) h15) (Nat.le_of_ble_eq_true rfl) rfl rfl (Nat.le_of_ble_eq_true rfl) dX12_fewest_177 ⟨Nat.le_of_ble_eq_true rfl, Nat.le_of_ble_eq_true rfl⟩ (fun h16 => ?_)
          refine r_iload C dX12_fewest_180 1 rfl ?_
          refine r_csi (As := [.int x10]) (st := []) C ws_X12_242 (tcJ6_bitCount_0f7a4 K.2.1 g hg x10 h16) (Nat.le_of_ble_eq_true rfl) rfl rfl (Nat.le_of_ble_eq_true rfl) dX12_fewest_182 ⟨Nat.le_of_ble_eq_true rfl, Nat.le_of_ble_eq_true rfl⟩ (fun x17 h18 => ?_)
          exact r_iret C dX12_fewest_185
        · refine r_bipush C dX12_fewest_154 k_bm2 ?_
          exact r_iret C dX12_fewest_156
      · refine r_iconst C dX12_fewest_31 k_im1 ?_
        exact r_iret C dX12_fewest_32
set_option maxRecDepth 100000 in
set_option maxHeartbeats 4000000 in
theorem tX12_serves_J100_34 {K : AC} {g : WG} (hg : p_al g = false)  (C : Cx K g cX12_serves 7 RX12 (some .int) "serves" 613 0 0) (o0 : Nat) (i1 : Int32) (i2 : Int32) (i3 : Int32) (i4 : Int32) (i5 : Int32)    {rc : Int32 → Int32 → Int32 → PH → Option (Int32 × PH)} {kx : Int32 → Int32 → PH → Option (Int32 × PH)} (hr : ∀ (i3' : Int32) (i4' : Int32) (i5' : Int32) (h : PH), VX K g 7 0 0 (a_fin K g 0 0 em_i) 34 [(0, p_rf g o0), (1, .int i1), (2, .int i2), (3, .int i3'), (4, .int i4'), (5, .int i5')] [] h (rc i3' i4' i5' h)) (hk : ∀ (i3' : Int32) (i4' : Int32) (h : PH), VX K g 7 0 0 (a_fin K g 0 0 em_i) 106 [(0, p_rf g o0), (1, .int i1), (2, .int i2), (3, .int i3'), (4, .int i4')] [] h (kx i3' i4' h)) (h : PH) : VX K g 7 0 0 (a_fin K g 0 0 em_i) 100 [(0, p_rf g o0), (1, .int i1), (2, .int i2), (3, .int i3), (4, .int i4), (5, .int i5)] [] h (fX12_serves_J100_34 rc kx o0 i1 i2 i3 i4 i5 h) := by
  unfold fX12_serves_J100_34
  refine r_iinc (lv' := [(0, p_rf g o0), (1, .int i1), (2, .int i2), (3, .int i3), (4, .int i4)]) C dX12_serves_100 5 rfl k_i1 (by decide) (fun _ => rfl) (fun x1 => ?_)
  refine r_goto (tgt := 34) C dX12_serves_103 (by decide) ?_
  refine r_perm (lv' := [(0, p_rf g o0), (1, .int i1), (2, .int i2), (3, .int i3), (4, .int i4), (5, .int x1)]) [1, 2, 3, 4, 5, 0] rfl ?_
  exact hr i3 i4 x1 h
set_option maxRecDepth 100000 in
set_option maxHeartbeats 4000000 in
theorem tX12_serves_J93_34 {K : AC} {g : WG} (hg : p_al g = false)  (C : Cx K g cX12_serves 7 RX12 (some .int) "serves" 613 0 0) (o0 : Nat) (i1 : Int32) (i2 : Int32) (i5 : Int32) (i6 : Int32)    {rc : Int32 → Int32 → Int32 → PH → Option (Int32 × PH)} {kx : Int32 → Int32 → PH → Option (Int32 × PH)} (hr : ∀ (i3' : Int32) (i4' : Int32) (i5' : Int32) (h : PH), VX K g 7 0 0 (a_fin K g 0 0 em_i) 34 [(0, p_rf g o0), (1, .int i1), (2, .int i2), (3, .int i3'), (4, .int i4'), (5, .int i5')] [] h (rc i3' i4' i5' h)) (hk : ∀ (i3' : Int32) (i4' : Int32) (h : PH), VX K g 7 0 0 (a_fin K g 0 0 em_i) 106 [(0, p_rf g o0), (1, .int i1), (2, .int i2), (3, .int i3'), (4, .int i4')] [] h (kx i3' i4' h)) (h : PH) : VX K g 7 0 0 (a_fin K g 0 0 em_i) 93 [(0, p_rf g o0), (1, .int i1), (2, .int i2), (5, .int i5), (6, .int i6)] [] h (fX12_serves_J93_34 rc kx o0 i1 i2 i5 i6 h) := by
  unfold fX12_serves_J93_34
  refine r_iload C dX12_serves_93 3 rfl ?_
  refine r_istore_n (lv9 := [(3, .int i5), (0, p_rf g o0), (1, .int i1), (2, .int i2), (5, .int i5), (6, .int i6)]) C dX12_serves_95 (by decide) rfl ?_
  refine r_iload C dX12_serves_96 5 rfl ?_
  refine r_istore (lv9 := [(4, .int i6), (3, .int i5), (0, p_rf g o0), (1, .int i1), (2, .int i2), (5, .int i5), (6, .int i6)]) C dX12_serves_98 (by decide) rfl ?_
  refine r_perm (lv' := [(0, p_rf g o0), (1, .int i1), (2, .int i2), (3, .int i5), (4, .int i6), (5, .int i5)]) [2, 3, 4, 1, 0, 5] rfl ?_
  exact tX12_serves_J100_34 hg C o0 i1 i2 i5 i6 i5 hr hk h
set_option maxRecDepth 100000 in
set_option maxHeartbeats 4000000 in
theorem tX12_serves_L34 {K : AC} {g : WG} (hg : p_al g = false)  (C : Cx K g cX12_serves 7 RX12 (some .int) "serves" 613 0 0) (o0 : Nat) (i1 : Int32) (i2 : Int32) {kx : Int32 → Int32 → PH → Option (Int32 × PH)} (hk : ∀ (i3 : Int32) (i4 : Int32) (h : PH), VX K g 7 0 0 (a_fin K g 0 0 em_i) 106 [(0, p_rf g o0), (1, .int i1), (2, .int i2), (3, .int i3), (4, .int i4)] [] h (kx i3 i4 h)) : ∀ (n : Nat) (i3 : Int32) (i4 : Int32) (i5 : Int32) (h : PH), VX K g 7 0 0 (a_fin K g 0 0 em_i) 34 [(0, p_rf g o0), (1, .int i1), (2, .int i2), (3, .int i3), (4, .int i4), (5, .int i5)] [] h (fX12_serves_L34 o0 i1 i2 kx n i3 i4 i5 h) := by
  intro n
  induction n with
  | zero =>
    intros
    exact r_none
  | succ n ih =>
    intro i3 i4 i5 h
    rw [fX12_serves_L34]
    refine r_iload C dX12_serves_34 5 rfl ?_
    refine r_aload_n C dX12_serves_36 0 rfl ?_
    refine r_gi C wf_X12_116_11 dX12_serves_37 (fun x1 => ?_)
    refine r_icmp_ge (tgt := 106) C dX12_serves_40 (by decide) ?_ ?_
    · refine r_perm (lv' := [(0, p_rf g o0), (1, .int i1), (2, .int i2), (3, .int i3), (4, .int i4)]) [0, 1, 2, 3, 4] rfl ?_
      exact hk i3 i4 h
    · refine r_aload_n C dX12_serves_43 0 rfl ?_
      refine r_iload_n C dX12_serves_44 1 rfl ?_
      refine r_cvi (As := [.int i1]) (st := []) C wv_X12_358 (tcX12_free K.2.1 g hg o0 i1 h) (Nat.le_of_ble_eq_true rfl) rfl rfl (Nat.le_of_ble_eq_true rfl) dX12_serves_45 ⟨Nat.le_of_ble_eq_true rfl, Nat.le_of_ble_eq_true rfl⟩ (fun x2 h3 => ?_)
      refine r_iload C dX12_serves_48 5 rfl ?_
      refine r_csi (As := [.int x2, .int i5]) (st := []) C ws_X12_265 (tcX12_has K.2.1 g hg x2 i5 h3) (Nat.le_of_ble_eq_true rfl) rfl rfl (Nat.le_of_ble_eq_true rfl) dX12_serves_50 ⟨Nat.le_of_ble_eq_true rfl, Nat.le_of_ble_eq_true rfl⟩ (fun x4 h5 => ?_)
      refine r_if_ne (tgt := 59) C dX12_serves_53 (by decide) ?_ ?_
      · refine r_aload_n C dX12_serves_59 0 rfl ?_
        refine r_iload_n C dX12_serves_60 1 rfl ?_
        refine r_iconst C dX12_serves_61 k_i1 ?_
        refine r_iload C dX12_serves_62 5 rfl ?_
        refine r_ishl C dX12_serves_64 ?_
        refine r_iload_n C dX12_serves_65 2 rfl ?_
        refine r_cvi (As := [.int i1, .int ((1 : Int32) <<< (i5 &&& 31)), .int i2]) (st := []) C wv_X12_364 (tcX12_hadWith K.2.1 g hg o0 i1 ((1 : Int32) <<< (i5 &&& 31)) i2 h5) (Nat.le_of_ble_eq_true rfl) rfl rfl (Nat.le_of_ble_eq_true rfl) dX12_serves_66 ⟨Nat.le_of_ble_eq_true rfl, Nat.le_of_ble_eq_true rfl⟩ (fun x6 h7 => ?_)
        refine r_istore (lv9 := [(6, .int x6), (0, p_rf g o0), (1, .int i1), (2, .int i2), (3, .int i3), (4, .int i4), (5, .int i5)]) C dX12_serves_69 (by decide) rfl ?_
        refine r_iload_n C dX12_serves_71 4 rfl ?_
        refine r_bipush C dX12_serves_72 k_bm2 ?_
        refine r_icmp_eq (tgt := 93) C dX12_serves_74 (by decide) ?_ ?_
        · refine r_perm (lv' := [(0, p_rf g o0), (1, .int i1), (2, .int i2), (5, .int i5), (6, .int x6)]) [1, 2, 3, 6, 0] rfl ?_
          exact tX12_serves_J93_34 hg C o0 i1 i2 i5 x6 ih hk h7
        · refine r_iload C dX12_serves_77 0 rfl ?_
          refine r_csi (As := [.int x6]) (st := []) C ws_X12_242 (tcJ6_bitCount_0f7a4 K.2.1 g hg x6 h7) (Nat.le_of_ble_eq_true rfl) rfl rfl (Nat.le_of_ble_eq_true rfl) dX12_serves_79 ⟨Nat.le_of_ble_eq_true rfl, Nat.le_of_ble_eq_true rfl⟩ (fun x8 h9 => ?_)
          refine r_iload C dX12_serves_82 5 rfl ?_
          refine r_csi (As := [.int i4]) (st := [.int x8]) C ws_X12_242 (tcJ6_bitCount_0f7a4 K.2.1 g hg i4 h9) (Nat.le_of_ble_eq_true rfl) rfl rfl (Nat.le_of_ble_eq_true rfl) dX12_serves_84 ⟨Nat.le_of_ble_eq_true rfl, Nat.le_of_ble_eq_true rfl⟩ (fun x10 h11 => ?_)
          refine r_icmp_gt (tgt := 93) C dX12_serves_87 (by decide) ?_ ?_
          · refine r_perm (lv' := [(0, p_rf g o0), (1, .int i1), (2, .int i2), (5, .int i5), (6, .int x6)]) [1, 2, 3, 6, 0] rfl ?_
            exact tX12_serves_J93_34 hg C o0 i1 i2 i5 x6 ih hk h11
          · refine r_goto (tgt := 100) C dX12_serves_90 (by decide) ?_
            refine r_perm (lv' := [(0, p_rf g o0), (1, .int i1), (2, .int i2), (3, .int i3), (4, .int i4), (5, .int i5)]) [1, 2, 3, 4, 5, 6] rfl ?_
            exact tX12_serves_J100_34 hg C o0 i1 i2 i3 i4 i5 ih hk h11
      · refine r_goto (tgt := 100) C dX12_serves_56 (by decide) ?_
        exact tX12_serves_J100_34 hg C o0 i1 i2 i3 i4 i5 ih hk h5
set_option maxRecDepth 100000 in
set_option maxHeartbeats 4000000 in
theorem tcX12_serves (l : Launch) (g : WG) (hg : p_al g = false) (o0 : Nat) (i1 : Int32) (i2 : Int32) (h : PH) : CT l g 613 0 0 yX12_serves cX12_serves 7 (some .int) em_i [p_rf g o0, .int i1, .int i2] h (fX12_serves o0 i1 i2 h) := by
  refine CT_of (own := RX12) (nm := "serves") (by decide +kernel) (Nat.le_of_ble_eq_true rfl) rfl rfl rfl ⟨rfl, rfl⟩ (fun K hK C => ?_)
  subst hK
  unfold fX12_serves
  show VX K g _ _ _ _ _ [(0, p_rf g o0), (1, .int i1), (2, .int i2)] _ _ _
  refine r_aload_n C dX12_serves_0 0 rfl ?_
  refine r_iconst C dX12_serves_1 k_i0 ?_
  refine r_pi C wf_X12_109_11 dX12_serves_2 (fun h1 => ?_)
  refine r_aload_n C dX12_serves_5 0 rfl ?_
  refine r_iload_n C dX12_serves_6 1 rfl ?_
  refine r_cvi (As := [.int i1]) (st := []) C wv_X12_278 (tcX12_isMan K.2.1 g hg o0 i1 h1) (Nat.le_of_ble_eq_true rfl) rfl rfl (Nat.le_of_ble_eq_true rfl) dX12_serves_7 ⟨Nat.le_of_ble_eq_true rfl, Nat.le_of_ble_eq_true rfl⟩ (fun x2 h3 => ?_)
  refine r_if_eq (tgt := 23) C dX12_serves_10 (by decide) ?_ ?_
  · refine r_iconst C dX12_serves_23 k_im1 ?_
    exact r_iret C dX12_serves_24
  · refine r_iload_n C dX12_serves_13 2 rfl ?_
    refine r_iconst C dX12_serves_14 k_i0 ?_
    refine r_bipush C dX12_serves_15 k_b60 ?_
    refine r_csi (As := [.int i2, .int (0 : Int32), .int (60 : Int32)]) (st := []) C ws_X12_119 (tcX12_in K.2.1 g hg i2 (0 : Int32) (60 : Int32) h3) (Nat.le_of_ble_eq_true rfl) rfl rfl (Nat.le_of_ble_eq_true rfl) dX12_serves_17 ⟨Nat.le_of_ble_eq_true rfl, Nat.le_of_ble_eq_true rfl⟩ (fun x4 h5 => ?_)
    refine r_if_ne (tgt := 25) C dX12_serves_20 (by decide) ?_ ?_
    · refine r_bipush C dX12_serves_25 k_bm2 ?_
      refine r_istore_n (lv9 := [(3, .int (-2 : Int32)), (0, p_rf g o0), (1, .int i1), (2, .int i2)]) C dX12_serves_27 (by decide) rfl ?_
      refine r_iconst C dX12_serves_28 k_i0 ?_
      refine r_istore (lv9 := [(4, .int (0 : Int32)), (3, .int (-2 : Int32)), (0, p_rf g o0), (1, .int i1), (2, .int i2)]) C dX12_serves_29 (by decide) rfl ?_
      refine r_iconst C dX12_serves_31 k_i0 ?_
      refine r_istore (lv9 := [(5, .int (0 : Int32)), (4, .int (0 : Int32)), (3, .int (-2 : Int32)), (0, p_rf g o0), (1, .int i1), (2, .int i2)]) C dX12_serves_32 (by decide) rfl ?_
      refine r_perm (lv' := [(0, p_rf g o0), (1, .int i1), (2, .int i2), (3, .int (-2 : Int32)), (4, .int (0 : Int32)), (5, .int (0 : Int32))]) [3, 4, 5, 2, 1, 0] rfl ?_
      refine tX12_serves_L34 hg C o0 i1 i2 (fun x6 x7 h8 => ?_) FU (-2 : Int32) (0 : Int32) (0 : Int32) h5
      refine r_iload_n C dX12_serves_106 3 rfl ?_
      refine r_bipush C dX12_serves_107 k_bm2 ?_
      refine r_icmp_ne (tgt := 115) C dX12_serves_109 (by decide) ?_ ?_
      · refine r_aload_n C dX12_serves_115 0 rfl ?_
        refine r_iconst C dX12_serves_116 k_i0 ?_
        refine r_pi C wf_X12_113_11 dX12_serves_117 (fun h9 => ?_)
        refine r_aload_n C dX12_serves_120 0 rfl ?_
        refine r_iload C dX12_serves_121 4 rfl ?_
        refine r_i2l C dX12_serves_123 ?_
        refine r_cvv (As := [.long (x7.toInt64)]) (st := []) C wv_X12_329 (tcX12_tell K.2.1 g hg o0 (x7.toInt64) h9) (Nat.le_of_ble_eq_true rfl) rfl rfl (Nat.le_of_ble_eq_true rfl) dX12_serves_124 ⟨Nat.le_of_ble_eq_true rfl, Nat.le_of_ble_eq_true rfl⟩ (fun h10 => ?_)
        refine r_aload_n C dX12_serves_127 0 rfl ?_
        refine r_aload_n C dX12_serves_128 0 rfl ?_
        refine r_iload_n C dX12_serves_129 1 rfl ?_
        refine r_iconst C dX12_serves_130 k_i0 ?_
        refine r_iload_n C dX12_serves_131 2 rfl ?_
        refine r_cvi (As := [.int i1, .int (0 : Int32), .int i2]) (st := [p_rf g o0]) C wv_X12_364 (tcX12_hadWith K.2.1 g hg o0 i1 (0 : Int32) i2 h10) (Nat.le_of_ble_eq_true rfl) rfl rfl (Nat.le_of_ble_eq_true rfl) dX12_serves_132 ⟨Nat.le_of_ble_eq_true rfl, Nat.le_of_ble_eq_true rfl⟩ (fun x11 h12 => ?_)
        refine r_i2l C dX12_serves_135 ?_
        refine r_cvv (As := [.long (x11.toInt64)]) (st := []) C wv_X12_329 (tcX12_tell K.2.1 g hg o0 (x11.toInt64) h12) (Nat.le_of_ble_eq_true rfl) rfl rfl (Nat.le_of_ble_eq_true rfl) dX12_serves_136 ⟨Nat.le_of_ble_eq_true rfl, Nat.le_of_ble_eq_true rfl⟩ (fun h13 => ?_)
        refine r_iload_n C dX12_serves_139 3 rfl ?_
        exact r_iret C dX12_serves_140
      · refine r_bipush C dX12_serves_112 k_bm2 ?_
        exact r_iret C dX12_serves_114
    · refine r_iconst C dX12_serves_23 k_im1 ?_
      exact r_iret C dX12_serves_24
set_option maxRecDepth 100000 in
set_option maxHeartbeats 4000000 in
theorem tX12_burdens_L88 {K : AC} {g : WG} (hg : p_al g = false)  (C : Cx K g cX12_burdens 7 RX12 (some .int) "burdens" 611 0 0) (o0 : Nat) (i1 : Int32) (i2 : Int32) (i3 : Int32) (i4 : Int32) (i5 : Int32) {kx : PH → Option (Int32 × PH)} (hk : ∀  (h : PH), VX K g 7 0 0 (a_fin K g 0 0 em_i) 105 [(0, p_rf g o0), (1, .int i1), (2, .int i2), (3, .int i3), (4, .int i4), (5, .int i5)] [] h (kx h)) : ∀ (n : Nat) (i6 : Int32) (h : PH), VX K g 7 0 0 (a_fin K g 0 0 em_i) 88 [(0, p_rf g o0), (1, .int i1), (2, .int i2), (3, .int i3), (4, .int i4), (5, .int i5), (6, .int i6)] [] h (fX12_burdens_L88 o0 i1 i2 i3 i4 i5 kx n i6 h) := by
  intro n
  induction n with
  | zero =>
    intros
    exact r_none
  | succ n ih =>
    intro i6 h
    rw [fX12_burdens_L88]
    refine r_iload C dX12_burdens_88 6 rfl ?_
    refine r_iload_n C dX12_burdens_90 2 rfl ?_
    refine r_icmp_ge (tgt := 105) C dX12_burdens_91 (by decide) ?_ ?_
    · refine r_perm (lv' := [(0, p_rf g o0), (1, .int i1), (2, .int i2), (3, .int i3), (4, .int i4), (5, .int i5)]) [0, 1, 2, 3, 4, 5] rfl ?_
      exact hk h
    · refine r_aload_n C dX12_burdens_94 0 rfl ?_
      refine r_iload_n C dX12_burdens_95 1 rfl ?_
      refine r_cvv (As := [.int i1]) (st := []) C wv_X12_351 (tcX12_goAlone K.2.1 g hg o0 i1 h) (Nat.le_of_ble_eq_true rfl) rfl rfl (Nat.le_of_ble_eq_true rfl) dX12_burdens_96 ⟨Nat.le_of_ble_eq_true rfl, Nat.le_of_ble_eq_true rfl⟩ (fun h1 => ?_)
      refine r_iinc (lv' := [(0, p_rf g o0), (1, .int i1), (2, .int i2), (3, .int i3), (4, .int i4), (5, .int i5)]) C dX12_burdens_99 6 rfl k_i1 (by decide) (fun _ => rfl) (fun x2 => ?_)
      refine r_goto (tgt := 88) C dX12_burdens_102 (by decide) ?_
      refine r_perm (lv' := [(0, p_rf g o0), (1, .int i1), (2, .int i2), (3, .int i3), (4, .int i4), (5, .int i5), (6, .int x2)]) [1, 2, 3, 4, 5, 6, 0] rfl ?_
      exact ih x2 h1
set_option maxRecDepth 100000 in
set_option maxHeartbeats 4000000 in
theorem tX12_burdens_J145_34 {K : AC} {g : WG} (hg : p_al g = false)  (C : Cx K g cX12_burdens 7 RX12 (some .int) "burdens" 611 0 0) (o0 : Nat) (i1 : Int32) (i2 : Int32) (i3 : Int32) (i4 : Int32) (i5 : Int32)    {rc : Int32 → Int32 → Int32 → PH → Option (Int32 × PH)} {kx : Int32 → Int32 → PH → Option (Int32 × PH)} (hr : ∀ (i3' : Int32) (i4' : Int32) (i5' : Int32) (h : PH), VX K g 7 0 0 (a_fin K g 0 0 em_i) 34 [(0, p_rf g o0), (1, .int i1), (2, .int i2), (3, .int i3'), (4, .int i4'), (5, .int i5')] [] h (rc i3' i4' i5' h)) (hk : ∀ (i3' : Int32) (i4' : Int32) (h : PH), VX K g 7 0 0 (a_fin K g 0 0 em_i) 151 [(0, p_rf g o0), (3, .int i3'), (4, .int i4')] [] h (kx i3' i4' h)) (h : PH) : VX K g 7 0 0 (a_fin K g 0 0 em_i) 145 [(0, p_rf g o0), (1, .int i1), (2, .int i2), (3, .int i3), (4, .int i4), (5, .int i5)] [] h (fX12_burdens_J145_34 rc kx o0 i1 i2 i3 i4 i5 h) := by
  unfold fX12_burdens_J145_34
  refine r_iinc (lv' := [(0, p_rf g o0), (1, .int i1), (2, .int i2), (3, .int i3), (4, .int i4)]) C dX12_burdens_145 5 rfl k_i1 (by decide) (fun _ => rfl) (fun x1 => ?_)
  refine r_goto (tgt := 34) C dX12_burdens_148 (by decide) ?_
  refine r_perm (lv' := [(0, p_rf g o0), (1, .int i1), (2, .int i2), (3, .int i3), (4, .int i4), (5, .int x1)]) [1, 2, 3, 4, 5, 0] rfl ?_
  exact hr i3 i4 x1 h
set_option maxRecDepth 100000 in
set_option maxHeartbeats 4000000 in
theorem tX12_burdens_J138_34 {K : AC} {g : WG} (hg : p_al g = false)  (C : Cx K g cX12_burdens 7 RX12 (some .int) "burdens" 611 0 0) (o0 : Nat) (i1 : Int32) (i2 : Int32) (i5 : Int32) (i6 : Int32)    {rc : Int32 → Int32 → Int32 → PH → Option (Int32 × PH)} {kx : Int32 → Int32 → PH → Option (Int32 × PH)} (hr : ∀ (i3' : Int32) (i4' : Int32) (i5' : Int32) (h : PH), VX K g 7 0 0 (a_fin K g 0 0 em_i) 34 [(0, p_rf g o0), (1, .int i1), (2, .int i2), (3, .int i3'), (4, .int i4'), (5, .int i5')] [] h (rc i3' i4' i5' h)) (hk : ∀ (i3' : Int32) (i4' : Int32) (h : PH), VX K g 7 0 0 (a_fin K g 0 0 em_i) 151 [(0, p_rf g o0), (3, .int i3'), (4, .int i4')] [] h (kx i3' i4' h)) (h : PH) : VX K g 7 0 0 (a_fin K g 0 0 em_i) 138 [(0, p_rf g o0), (1, .int i1), (2, .int i2), (5, .int i5), (6, .int i6)] [] h (fX12_burdens_J138_34 rc kx o0 i1 i2 i5 i6 h) := by
  unfold fX12_burdens_J138_34
  refine r_iload C dX12_burdens_138 3 rfl ?_
  refine r_istore_n (lv9 := [(3, .int i5), (0, p_rf g o0), (1, .int i1), (2, .int i2), (5, .int i5), (6, .int i6)]) C dX12_burdens_140 (by decide) rfl ?_
  refine r_iload C dX12_burdens_141 5 rfl ?_
  refine r_istore (lv9 := [(4, .int i6), (3, .int i5), (0, p_rf g o0), (1, .int i1), (2, .int i2), (5, .int i5), (6, .int i6)]) C dX12_burdens_143 (by decide) rfl ?_
  refine r_perm (lv' := [(0, p_rf g o0), (1, .int i1), (2, .int i2), (3, .int i5), (4, .int i6), (5, .int i5)]) [2, 3, 4, 1, 0, 5] rfl ?_
  exact tX12_burdens_J145_34 hg C o0 i1 i2 i5 i6 i5 hr hk h
set_option maxRecDepth 100000 in
set_option maxHeartbeats 4000000 in
theorem tX12_burdens_L34 {K : AC} {g : WG} (hg : p_al g = false)  (C : Cx K g cX12_burdens 7 RX12 (some .int) "burdens" 611 0 0) (o0 : Nat) (i1 : Int32) (i2 : Int32) {kx : Int32 → Int32 → PH → Option (Int32 × PH)} (hk : ∀ (i3 : Int32) (i4 : Int32) (h : PH), VX K g 7 0 0 (a_fin K g 0 0 em_i) 151 [(0, p_rf g o0), (3, .int i3), (4, .int i4)] [] h (kx i3 i4 h)) : ∀ (n : Nat) (i3 : Int32) (i4 : Int32) (i5 : Int32) (h : PH), VX K g 7 0 0 (a_fin K g 0 0 em_i) 34 [(0, p_rf g o0), (1, .int i1), (2, .int i2), (3, .int i3), (4, .int i4), (5, .int i5)] [] h (fX12_burdens_L34 o0 i1 i2 kx n i3 i4 i5 h) := by
  intro n
  induction n with
  | zero =>
    intros
    exact r_none
  | succ n ih =>
    intro i3 i4 i5 h
    rw [fX12_burdens_L34]
    refine r_iload C dX12_burdens_34 5 rfl ?_
    refine r_aload_n C dX12_burdens_36 0 rfl ?_
    refine r_gi C wf_X12_116_11 dX12_burdens_37 (fun x1 => ?_)
    refine r_icmp_ge (tgt := 151) C dX12_burdens_40 (by decide) ?_ ?_
    · refine r_perm (lv' := [(0, p_rf g o0), (3, .int i3), (4, .int i4)]) [0, 3, 4] rfl ?_
      exact hk i3 i4 h
    · refine r_aload_n C dX12_burdens_43 0 rfl ?_
      refine r_gr C wf_X12_9_11 dX12_burdens_44 (fun q2 => ?_)
      refine r_bipush C dX12_burdens_47 k_b32 ?_
      refine r_iload_n C dX12_burdens_49 1 rfl ?_
      refine r_iadd C dX12_burdens_50 ?_
      refine r_iald C dX12_burdens_51 (fun x3 => ?_)
      refine r_iload C dX12_burdens_52 5 rfl ?_
      refine r_csi (As := [.int x3, .int i5]) (st := []) C ws_X12_265 (tcX12_has K.2.1 g hg x3 i5 h) (Nat.le_of_ble_eq_true rfl) rfl rfl (Nat.le_of_ble_eq_true rfl) dX12_burdens_54 ⟨Nat.le_of_ble_eq_true rfl, Nat.le_of_ble_eq_true rfl⟩ (fun x4 h5 => ?_)
      refine r_if_ne (tgt := 63) C dX12_burdens_57 (by decide) ?_ ?_
      · refine r_aload_n C dX12_burdens_63 0 rfl ?_
        refine r_gr C wf_X12_9_11 dX12_burdens_64 (fun q6 => ?_)
        refine r_aload_n C dX12_burdens_67 0 rfl ?_
        refine r_gr C wf_X12_57_11 dX12_burdens_68 (fun q7 => ?_)
        refine r_iconst C dX12_burdens_71 k_i0 ?_
        refine r_csv (As := [p_rf g q6, p_rf g q7, .int (0 : Int32)]) (st := []) C ws_X12_284 (tcX12_lay K.2.1 g hg q6 q7 (0 : Int32) h5) (Nat.le_of_ble_eq_true rfl) rfl rfl (Nat.le_of_ble_eq_true rfl) dX12_burdens_72 ⟨Nat.le_of_ble_eq_true rfl, Nat.le_of_ble_eq_true rfl⟩ (fun h8 => ?_)
        refine r_aload_n C dX12_burdens_75 0 rfl ?_
        refine r_gr C wf_X12_57_11 dX12_burdens_76 (fun q9 => ?_)
        refine r_iload_n C dX12_burdens_79 1 rfl ?_
        refine r_iload C dX12_burdens_80 5 rfl ?_
        refine r_csv (As := [p_rf g q9, .int i1, .int i5]) (st := []) C ws_X12_305 (tcX12_goBack K.2.1 g hg q9 i1 i5 h8) (Nat.le_of_ble_eq_true rfl) rfl rfl (Nat.le_of_ble_eq_true rfl) dX12_burdens_82 ⟨Nat.le_of_ble_eq_true rfl, Nat.le_of_ble_eq_true rfl⟩ (fun h10 => ?_)
        refine r_iconst C dX12_burdens_85 k_i0 ?_
        refine r_istore (lv9 := [(6, .int (0 : Int32)), (0, p_rf g o0), (1, .int i1), (2, .int i2), (3, .int i3), (4, .int i4), (5, .int i5)]) C dX12_burdens_86 (by decide) rfl ?_
        refine r_perm (lv' := [(0, p_rf g o0), (1, .int i1), (2, .int i2), (3, .int i3), (4, .int i4), (5, .int i5), (6, .int (0 : Int32))]) [1, 2, 3, 4, 5, 6, 0] rfl ?_
        refine tX12_burdens_L88 hg C o0 i1 i2 i3 i4 i5 (fun h11 => ?_) FU (0 : Int32) h10
        refine r_aload_n C dX12_burdens_105 0 rfl ?_
        refine r_aload_n C dX12_burdens_106 0 rfl ?_
        refine r_gr C wf_X12_57_11 dX12_burdens_107 (fun q12 => ?_)
        refine r_iload_n C dX12_burdens_110 1 rfl ?_
        refine r_cvi (As := [p_rf g q12, .int i1]) (st := []) C wv_X12_261 (tcX12_had K.2.1 g hg o0 q12 i1 h11) (Nat.le_of_ble_eq_true rfl) rfl rfl (Nat.le_of_ble_eq_true rfl) dX12_burdens_111 ⟨Nat.le_of_ble_eq_true rfl, Nat.le_of_ble_eq_true rfl⟩ (fun x13 h14 => ?_)
        refine r_istore (lv9 := [(6, .int x13), (0, p_rf g o0), (1, .int i1), (2, .int i2), (3, .int i3), (4, .int i4), (5, .int i5)]) C dX12_burdens_114 (by decide) rfl ?_
        refine r_iload_n C dX12_burdens_116 4 rfl ?_
        refine r_bipush C dX12_burdens_117 k_bm2 ?_
        refine r_icmp_eq (tgt := 138) C dX12_burdens_119 (by decide) ?_ ?_
        · refine r_perm (lv' := [(0, p_rf g o0), (1, .int i1), (2, .int i2), (5, .int i5), (6, .int x13)]) [1, 2, 3, 6, 0] rfl ?_
          exact tX12_burdens_J138_34 hg C o0 i1 i2 i5 x13 ih hk h14
        · refine r_iload C dX12_burdens_122 0 rfl ?_
          refine r_csi (As := [.int x13]) (st := []) C ws_X12_242 (tcJ6_bitCount_0f7a4 K.2.1 g hg x13 h14) (Nat.le_of_ble_eq_true rfl) rfl rfl (Nat.le_of_ble_eq_true rfl) dX12_burdens_124 ⟨Nat.le_of_ble_eq_true rfl, Nat.le_of_ble_eq_true rfl⟩ (fun x15 h16 => ?_)
          refine r_iload C dX12_burdens_127 5 rfl ?_
          refine r_csi (As := [.int i4]) (st := [.int x15]) C ws_X12_242 (tcJ6_bitCount_0f7a4 K.2.1 g hg i4 h16) (Nat.le_of_ble_eq_true rfl) rfl rfl (Nat.le_of_ble_eq_true rfl) dX12_burdens_129 ⟨Nat.le_of_ble_eq_true rfl, Nat.le_of_ble_eq_true rfl⟩ (fun x17 h18 => ?_)
          refine r_icmp_gt (tgt := 138) C dX12_burdens_132 (by decide) ?_ ?_
          · refine r_perm (lv' := [(0, p_rf g o0), (1, .int i1), (2, .int i2), (5, .int i5), (6, .int x13)]) [1, 2, 3, 6, 0] rfl ?_
            exact tX12_burdens_J138_34 hg C o0 i1 i2 i5 x13 ih hk h18
          · refine r_goto (tgt := 145) C dX12_burdens_135 (by decide) ?_
            refine r_perm (lv' := [(0, p_rf g o0), (1, .int i1), (2, .int i2), (3, .int i3), (4, .int i4), (5, .int i5)]) [1, 2, 3, 4, 5, 6] rfl ?_
            exact tX12_burdens_J145_34 hg C o0 i1 i2 i3 i4 i5 ih hk h18
      · refine r_goto (tgt := 145) C dX12_burdens_60 (by decide) ?_
        exact tX12_burdens_J145_34 hg C o0 i1 i2 i3 i4 i5 ih hk h5
set_option maxRecDepth 100000 in
set_option maxHeartbeats 4000000 in
theorem tcX12_burdens (l : Launch) (g : WG) (hg : p_al g = false) (o0 : Nat) (i1 : Int32) (i2 : Int32) (h : PH) : CT l g 611 0 0 yX12_burdens cX12_burdens 7 (some .int) em_i [p_rf g o0, .int i1, .int i2] h (fX12_burdens o0 i1 i2 h) := by
  refine CT_of (own := RX12) (nm := "burdens") (by decide +kernel) (Nat.le_of_ble_eq_true rfl) rfl rfl rfl ⟨rfl, rfl⟩ (fun K hK C => ?_)
  subst hK
  unfold fX12_burdens
  show VX K g _ _ _ _ _ [(0, p_rf g o0), (1, .int i1), (2, .int i2)] _ _ _
  refine r_aload_n C dX12_burdens_0 0 rfl ?_
  refine r_iconst C dX12_burdens_1 k_i0 ?_
  refine r_pi C wf_X12_109_11 dX12_burdens_2 (fun h1 => ?_)
  refine r_aload_n C dX12_burdens_5 0 rfl ?_
  refine r_iload_n C dX12_burdens_6 1 rfl ?_
  refine r_cvi (As := [.int i1]) (st := []) C wv_X12_278 (tcX12_isMan K.2.1 g hg o0 i1 h1) (Nat.le_of_ble_eq_true rfl) rfl rfl (Nat.le_of_ble_eq_true rfl) dX12_burdens_7 ⟨Nat.le_of_ble_eq_true rfl, Nat.le_of_ble_eq_true rfl⟩ (fun x2 h3 => ?_)
  refine r_if_eq (tgt := 23) C dX12_burdens_10 (by decide) ?_ ?_
  · refine r_iconst C dX12_burdens_23 k_im1 ?_
    exact r_iret C dX12_burdens_24
  · refine r_iload_n C dX12_burdens_13 2 rfl ?_
    refine r_iconst C dX12_burdens_14 k_i0 ?_
    refine r_bipush C dX12_burdens_15 k_b60 ?_
    refine r_csi (As := [.int i2, .int (0 : Int32), .int (60 : Int32)]) (st := []) C ws_X12_119 (tcX12_in K.2.1 g hg i2 (0 : Int32) (60 : Int32) h3) (Nat.le_of_ble_eq_true rfl) rfl rfl (Nat.le_of_ble_eq_true rfl) dX12_burdens_17 ⟨Nat.le_of_ble_eq_true rfl, Nat.le_of_ble_eq_true rfl⟩ (fun x4 h5 => ?_)
    refine r_if_ne (tgt := 25) C dX12_burdens_20 (by decide) ?_ ?_
    · refine r_bipush C dX12_burdens_25 k_bm2 ?_
      refine r_istore_n (lv9 := [(3, .int (-2 : Int32)), (0, p_rf g o0), (1, .int i1), (2, .int i2)]) C dX12_burdens_27 (by decide) rfl ?_
      refine r_iconst C dX12_burdens_28 k_i0 ?_
      refine r_istore (lv9 := [(4, .int (0 : Int32)), (3, .int (-2 : Int32)), (0, p_rf g o0), (1, .int i1), (2, .int i2)]) C dX12_burdens_29 (by decide) rfl ?_
      refine r_iconst C dX12_burdens_31 k_i0 ?_
      refine r_istore (lv9 := [(5, .int (0 : Int32)), (4, .int (0 : Int32)), (3, .int (-2 : Int32)), (0, p_rf g o0), (1, .int i1), (2, .int i2)]) C dX12_burdens_32 (by decide) rfl ?_
      refine r_perm (lv' := [(0, p_rf g o0), (1, .int i1), (2, .int i2), (3, .int (-2 : Int32)), (4, .int (0 : Int32)), (5, .int (0 : Int32))]) [3, 4, 5, 2, 1, 0] rfl ?_
      refine tX12_burdens_L34 hg C o0 i1 i2 (fun x6 x7 h8 => ?_) FU (-2 : Int32) (0 : Int32) (0 : Int32) h5
      refine r_iload_n C dX12_burdens_151 1 rfl ?_
      refine r_bipush C dX12_burdens_152 k_bm2 ?_
      refine r_icmp_ne (tgt := 160) C dX12_burdens_154 (by decide) ?_ ?_
      · refine r_aload_n C dX12_burdens_160 0 rfl ?_
        refine r_iconst C dX12_burdens_161 k_i0 ?_
        refine r_pi C wf_X12_113_11 dX12_burdens_162 (fun h9 => ?_)
        refine r_aload_n C dX12_burdens_165 0 rfl ?_
        refine r_iload C dX12_burdens_166 2 rfl ?_
        refine r_i2l C dX12_burdens_168 ?_
        refine r_cvv (As := [.long (x7.toInt64)]) (st := []) C wv_X12_329 (tcX12_tell K.2.1 g hg o0 (x7.toInt64) h9) (Nat.le_of_ble_eq_true rfl) rfl rfl (Nat.le_of_ble_eq_true rfl) dX12_burdens_169 ⟨Nat.le_of_ble_eq_true rfl, Nat.le_of_ble_eq_true rfl⟩ (fun h10 => ?_)
        refine r_iload_n C dX12_burdens_172 1 rfl ?_
        exact r_iret C dX12_burdens_173
      · refine r_bipush C dX12_burdens_157 k_bm2 ?_
        exact r_iret C dX12_burdens_159
    · refine r_iconst C dX12_burdens_23 k_im1 ?_
      exact r_iret C dX12_burdens_24
set_option maxRecDepth 100000 in
set_option maxHeartbeats 4000000 in
theorem tX12_doQuarrel_J61_3 {K : AC} {g : WG} (hg : p_al g = false)  (C : Cx K g cX12_doQuarrel 7 RX12 (some .boolean) "doQuarrel" 1 0 0) (o0 : Nat) (i1 : Int32) (i2 : Int32) (i3 : Int32) (i4 : Int32)    {rc : Int32 → PH → Option (Int32 × PH)} {kx : PH → Option (Int32 × PH)} (hr : ∀ (i4' : Int32) (h : PH), VX K g 7 0 0 (a_fin K g 0 0 em_i) 3 [(0, p_rf g o0), (1, .int i1), (2, .int i2), (3, .int i3), (4, .int i4')] [] h (rc i4' h)) (hk : ∀  (h : PH), VX K g 7 0 0 (a_fin K g 0 0 em_i) 67 [] [] h (kx  h)) (h : PH) : VX K g 7 0 0 (a_fin K g 0 0 em_i) 61 [(0, p_rf g o0), (1, .int i1), (2, .int i2), (3, .int i3), (4, .int i4)] [] h (fX12_doQuarrel_J61_3 rc kx o0 i1 i2 i3 i4 h) := by
  unfold fX12_doQuarrel_J61_3
  refine r_iinc (lv' := [(0, p_rf g o0), (1, .int i1), (2, .int i2), (3, .int i3)]) C dX12_doQuarrel_61 4 rfl k_i1 (by decide) (fun _ => rfl) (fun x1 => ?_)
  refine r_goto (tgt := 3) C dX12_doQuarrel_64 (by decide) ?_
  refine r_perm (lv' := [(0, p_rf g o0), (1, .int i1), (2, .int i2), (3, .int i3), (4, .int x1)]) [1, 2, 3, 4, 0] rfl ?_
  exact hr x1 h
set_option maxRecDepth 100000 in
set_option maxHeartbeats 4000000 in
theorem tX12_doQuarrel_L3 {K : AC} {g : WG} (hg : p_al g = false)  (C : Cx K g cX12_doQuarrel 7 RX12 (some .boolean) "doQuarrel" 1 0 0) (o0 : Nat) (i1 : Int32) (i2 : Int32) (i3 : Int32) {kx : PH → Option (Int32 × PH)} (hk : ∀  (h : PH), VX K g 7 0 0 (a_fin K g 0 0 em_i) 67 [] [] h (kx h)) : ∀ (n : Nat) (i4 : Int32) (h : PH), VX K g 7 0 0 (a_fin K g 0 0 em_i) 3 [(0, p_rf g o0), (1, .int i1), (2, .int i2), (3, .int i3), (4, .int i4)] [] h (fX12_doQuarrel_L3 o0 i1 i2 i3 kx n i4 h) := by
  intro n
  induction n with
  | zero =>
    intros
    exact r_none
  | succ n ih =>
    intro i4 h
    rw [fX12_doQuarrel_L3]
    refine r_iload C dX12_doQuarrel_3 4 rfl ?_
    refine r_iconst C dX12_doQuarrel_5 k_i4 ?_
    refine r_icmp_ge (tgt := 67) C dX12_doQuarrel_6 (by decide) ?_ ?_
    · refine r_perm (lv' := []) [] rfl ?_
      exact hk h
    · refine r_aload_n C dX12_doQuarrel_9 0 rfl ?_
      refine r_gr C wf_X12_16_11 dX12_doQuarrel_10 (fun q1 => ?_)
      refine r_iconst C dX12_doQuarrel_13 k_i4 ?_
      refine r_iload_n C dX12_doQuarrel_14 1 rfl ?_
      refine r_imul C dX12_doQuarrel_15 ?_
      refine r_iload C dX12_doQuarrel_16 4 rfl ?_
      refine r_iadd C dX12_doQuarrel_18 ?_
      refine r_iald C dX12_doQuarrel_19 (fun x2 => ?_)
      refine r_istore (lv9 := [(5, .int x2), (0, p_rf g o0), (1, .int i1), (2, .int i2), (3, .int i3), (4, .int i4)]) C dX12_doQuarrel_20 (by decide) rfl ?_
      refine r_aload_n C dX12_doQuarrel_22 1 rfl ?_
      refine r_gr C wf_X12_16_11 dX12_doQuarrel_23 (fun q3 => ?_)
      refine r_iconst C dX12_doQuarrel_26 k_i4 ?_
      refine r_iload_n C dX12_doQuarrel_27 3 rfl ?_
      refine r_imul C dX12_doQuarrel_28 ?_
      refine r_iload C dX12_doQuarrel_29 5 rfl ?_
      refine r_iadd C dX12_doQuarrel_31 ?_
      refine r_iald C dX12_doQuarrel_32 (fun x4 => ?_)
      refine r_istore (lv9 := [(6, .int x4), (5, .int x2), (0, p_rf g o0), (1, .int i1), (2, .int i2), (3, .int i3), (4, .int i4)]) C dX12_doQuarrel_33 (by decide) rfl ?_
      refine r_iload C dX12_doQuarrel_35 1 rfl ?_
      refine r_iconst C dX12_doQuarrel_37 k_im1 ?_
      refine r_icmp_eq (tgt := 61) C dX12_doQuarrel_38 (by decide) ?_ ?_
      · refine r_perm (lv' := [(0, p_rf g o0), (1, .int i1), (2, .int i2), (3, .int i3), (4, .int i4)]) [2, 3, 4, 5, 6] rfl ?_
        exact tX12_doQuarrel_J61_3 hg C o0 i1 i2 i3 i4 ih hk h
      · refine r_iload C dX12_doQuarrel_41 0 rfl ?_
        refine r_iconst C dX12_doQuarrel_43 k_im1 ?_
        refine r_icmp_eq (tgt := 61) C dX12_doQuarrel_44 (by decide) ?_ ?_
        · refine r_perm (lv' := [(0, p_rf g o0), (1, .int i1), (2, .int i2), (3, .int i3), (4, .int i4)]) [2, 3, 4, 5, 6] rfl ?_
          exact tX12_doQuarrel_J61_3 hg C o0 i1 i2 i3 i4 ih hk h
        · refine r_iload C dX12_doQuarrel_47 1 rfl ?_
          refine r_iload C dX12_doQuarrel_49 0 rfl ?_
          refine r_isub C dX12_doQuarrel_51 ?_
          refine r_topi (fun x5 => ?_)
          refine r_abs C wm_X12_348 (Nat.le_of_ble_eq_true rfl) (Nat.le_of_ble_eq_true rfl) ⟨Nat.le_of_ble_eq_true rfl, Nat.le_of_ble_eq_true rfl⟩ dX12_doQuarrel_52 ?_
          refine r_iload_n C dX12_doQuarrel_55 5 rfl ?_
          refine r_icmp_le (tgt := 61) C dX12_doQuarrel_56 (by decide) ?_ ?_
          · refine r_perm (lv' := [(0, p_rf g o0), (1, .int i1), (2, .int i2), (3, .int i3), (4, .int i4)]) [2, 3, 4, 5, 6] rfl ?_
            exact tX12_doQuarrel_J61_3 hg C o0 i1 i2 i3 i4 ih hk h
          · refine r_iconst C dX12_doQuarrel_59 k_i1 ?_
            exact r_zret C dX12_doQuarrel_60
set_option maxRecDepth 100000 in
set_option maxHeartbeats 4000000 in
theorem tcX12_doQuarrel (l : Launch) (g : WG) (hg : p_al g = false) (o0 : Nat) (i1 : Int32) (i2 : Int32) (i3 : Int32) (h : PH) : CT l g 1 0 0 yX12_doQuarrel cX12_doQuarrel 7 (some .boolean) em_i [p_rf g o0, .int i1, .int i2, .int i3] h (fX12_doQuarrel o0 i1 i2 i3 h) := by
  refine CT_of (own := RX12) (nm := "doQuarrel") (by decide +kernel) (Nat.le_of_ble_eq_true rfl) rfl rfl rfl ⟨rfl, rfl⟩ (fun K hK C => ?_)
  subst hK
  unfold fX12_doQuarrel
  show VX K g _ _ _ _ _ [(0, p_rf g o0), (1, .int i1), (2, .int i2), (3, .int i3)] _ _ _
  refine r_iconst C dX12_doQuarrel_0 k_i0 ?_
  refine r_istore (lv9 := [(4, .int (0 : Int32)), (0, p_rf g o0), (1, .int i1), (2, .int i2), (3, .int i3)]) C dX12_doQuarrel_1 (by decide) rfl ?_
  refine r_perm (lv' := [(0, p_rf g o0), (1, .int i1), (2, .int i2), (3, .int i3), (4, .int (0 : Int32))]) [1, 2, 3, 4, 0] rfl ?_
  refine tX12_doQuarrel_L3 hg C o0 i1 i2 i3 (fun h1 => ?_) FU (0 : Int32) h
  refine r_iconst C dX12_doQuarrel_67 k_i0 ?_
  exact r_zret C dX12_doQuarrel_68
set_option maxRecDepth 100000 in
set_option maxHeartbeats 4000000 in
theorem tX12_quarrels_J82_39 {K : AC} {g : WG} (hg : p_al g = false)  (C : Cx K g cX12_quarrels 5 RX12 (some .int) "quarrels" 2 0 0) (o0 : Nat) (i1 : Int32) (i2 : Int32) (i3 : Int32) (i4 : Int32)    {rc : Int32 → Int32 → PH → Option (Int32 × PH)} {kx : Int32 → PH → Option (Int32 × PH)} (hr : ∀ (i2' : Int32) (i4' : Int32) (h : PH), VX K g 5 0 0 (a_fin K g 0 0 em_i) 39 [(0, p_rf g o0), (1, .int i1), (2, .int i2'), (3, .int i3), (4, .int i4')] [] h (rc i2' i4' h)) (hk : ∀ (i2' : Int32) (h : PH), VX K g 5 0 0 (a_fin K g 0 0 em_i) 88 [(0, p_rf g o0), (1, .int i1), (2, .int i2'), (3, .int i3)] [] h (kx i2' h)) (h : PH) : VX K g 5 0 0 (a_fin K g 0 0 em_i) 82 [(0, p_rf g o0), (1, .int i1), (2, .int i2), (3, .int i3), (4, .int i4)] [] h (fX12_quarrels_J82_39 rc kx o0 i1 i2 i3 i4 h) := by
  unfold fX12_quarrels_J82_39
  refine r_iinc (lv' := [(0, p_rf g o0), (1, .int i1), (2, .int i2), (3, .int i3)]) C dX12_quarrels_82 4 rfl k_i1 (by decide) (fun _ => rfl) (fun x1 => ?_)
  refine r_goto (tgt := 39) C dX12_quarrels_85 (by decide) ?_
  refine r_perm (lv' := [(0, p_rf g o0), (1, .int i1), (2, .int i2), (3, .int i3), (4, .int x1)]) [1, 2, 3, 4, 0] rfl ?_
  exact hr i2 x1 h
set_option maxRecDepth 100000 in
set_option maxHeartbeats 4000000 in
theorem tX12_quarrels_J79_39 {K : AC} {g : WG} (hg : p_al g = false)  (C : Cx K g cX12_quarrels 5 RX12 (some .int) "quarrels" 2 0 0) (o0 : Nat) (i1 : Int32) (i2 : Int32) (i3 : Int32) (i4 : Int32)    {rc : Int32 → Int32 → PH → Option (Int32 × PH)} {kx : Int32 → PH → Option (Int32 × PH)} (hr : ∀ (i2' : Int32) (i4' : Int32) (h : PH), VX K g 5 0 0 (a_fin K g 0 0 em_i) 39 [(0, p_rf g o0), (1, .int i1), (2, .int i2'), (3, .int i3), (4, .int i4')] [] h (rc i2' i4' h)) (hk : ∀ (i2' : Int32) (h : PH), VX K g 5 0 0 (a_fin K g 0 0 em_i) 88 [(0, p_rf g o0), (1, .int i1), (2, .int i2'), (3, .int i3)] [] h (kx i2' h)) (h : PH) : VX K g 5 0 0 (a_fin K g 0 0 em_i) 79 [(0, p_rf g o0), (1, .int i1), (2, .int i2), (3, .int i3), (4, .int i4)] [] h (fX12_quarrels_J79_39 rc kx o0 i1 i2 i3 i4 h) := by
  unfold fX12_quarrels_J79_39
  refine r_iinc (lv' := [(0, p_rf g o0), (1, .int i1), (3, .int i3), (4, .int i4)]) C dX12_quarrels_79 2 rfl k_i1 (by decide) (fun _ => rfl) (fun x1 => ?_)
  refine r_perm (lv' := [(0, p_rf g o0), (1, .int i1), (2, .int x1), (3, .int i3), (4, .int i4)]) [1, 2, 0, 3, 4] rfl ?_
  exact tX12_quarrels_J82_39 hg C o0 i1 x1 i3 i4 hr hk h
set_option maxRecDepth 100000 in
set_option maxHeartbeats 4000000 in
theorem tX12_quarrels_L39 {K : AC} {g : WG} (hg : p_al g = false)  (C : Cx K g cX12_quarrels 5 RX12 (some .int) "quarrels" 2 0 0) (o0 : Nat) (i1 : Int32) (i3 : Int32) {kx : Int32 → PH → Option (Int32 × PH)} (hk : ∀ (i2 : Int32) (h : PH), VX K g 5 0 0 (a_fin K g 0 0 em_i) 88 [(0, p_rf g o0), (1, .int i1), (2, .int i2), (3, .int i3)] [] h (kx i2 h)) : ∀ (n : Nat) (i2 : Int32) (i4 : Int32) (h : PH), VX K g 5 0 0 (a_fin K g 0 0 em_i) 39 [(0, p_rf g o0), (1, .int i1), (2, .int i2), (3, .int i3), (4, .int i4)] [] h (fX12_quarrels_L39 o0 i1 i3 kx n i2 i4 h) := by
  intro n
  induction n with
  | zero =>
    intros
    exact r_none
  | succ n ih =>
    intro i2 i4 h
    rw [fX12_quarrels_L39]
    refine r_iload C dX12_quarrels_39 4 rfl ?_
    refine r_aload_n C dX12_quarrels_41 0 rfl ?_
    refine r_gi C wf_X12_116_11 dX12_quarrels_42 (fun x1 => ?_)
    refine r_icmp_ge (tgt := 88) C dX12_quarrels_45 (by decide) ?_ ?_
    · refine r_perm (lv' := [(0, p_rf g o0), (1, .int i1), (2, .int i2), (3, .int i3)]) [0, 1, 2, 3] rfl ?_
      exact hk i2 h
    · refine r_aload_n C dX12_quarrels_48 0 rfl ?_
      refine r_iload_n C dX12_quarrels_49 3 rfl ?_
      refine r_iload C dX12_quarrels_50 4 rfl ?_
      refine r_iload_n C dX12_quarrels_52 1 rfl ?_
      refine r_cvi (As := [.int i3, .int i4, .int i1]) (st := []) C wv_X12_368 (tcX12_doQuarrel K.2.1 g hg o0 i3 i4 i1 h) (Nat.le_of_ble_eq_true rfl) rfl rfl (Nat.le_of_ble_eq_true rfl) dX12_quarrels_53 ⟨Nat.le_of_ble_eq_true rfl, Nat.le_of_ble_eq_true rfl⟩ (fun x2 h3 => ?_)
      refine r_if_ne (tgt := 62) C dX12_quarrels_56 (by decide) ?_ ?_
      · refine r_iload_n C dX12_quarrels_62 2 rfl ?_
        refine r_if_ne (tgt := 79) C dX12_quarrels_63 (by decide) ?_ ?_
        · exact tX12_quarrels_J79_39 hg C o0 i1 i2 i3 i4 ih hk h3
        · refine r_aload_n C dX12_quarrels_66 0 rfl ?_
          refine r_iload_n C dX12_quarrels_67 3 rfl ?_
          refine r_i2l C dX12_quarrels_68 ?_
          refine r_cvv (As := [.long (i3.toInt64)]) (st := []) C wv_X12_329 (tcX12_tell K.2.1 g hg o0 (i3.toInt64) h3) (Nat.le_of_ble_eq_true rfl) rfl rfl (Nat.le_of_ble_eq_true rfl) dX12_quarrels_69 ⟨Nat.le_of_ble_eq_true rfl, Nat.le_of_ble_eq_true rfl⟩ (fun h4 => ?_)
          refine r_aload_n C dX12_quarrels_72 0 rfl ?_
          refine r_iload C dX12_quarrels_73 4 rfl ?_
          refine r_i2l C dX12_quarrels_75 ?_
          refine r_cvv (As := [.long (i4.toInt64)]) (st := []) C wv_X12_329 (tcX12_tell K.2.1 g hg o0 (i4.toInt64) h4) (Nat.le_of_ble_eq_true rfl) rfl rfl (Nat.le_of_ble_eq_true rfl) dX12_quarrels_76 ⟨Nat.le_of_ble_eq_true rfl, Nat.le_of_ble_eq_true rfl⟩ (fun h5 => ?_)
          exact tX12_quarrels_J79_39 hg C o0 i1 i2 i3 i4 ih hk h5
      · refine r_goto (tgt := 82) C dX12_quarrels_59 (by decide) ?_
        exact tX12_quarrels_J82_39 hg C o0 i1 i2 i3 i4 ih hk h3
set_option maxRecDepth 100000 in
set_option maxHeartbeats 4000000 in
theorem tX12_quarrels_L26 {K : AC} {g : WG} (hg : p_al g = false)  (C : Cx K g cX12_quarrels 5 RX12 (some .int) "quarrels" 2 0 0) (o0 : Nat) (i1 : Int32) {kx : Int32 → PH → Option (Int32 × PH)} (hk : ∀ (i2 : Int32) (h : PH), VX K g 5 0 0 (a_fin K g 0 0 em_i) 94 [(2, .int i2)] [] h (kx i2 h)) : ∀ (n : Nat) (i2 : Int32) (i3 : Int32) (h : PH), VX K g 5 0 0 (a_fin K g 0 0 em_i) 26 [(0, p_rf g o0), (1, .int i1), (2, .int i2), (3, .int i3)] [] h (fX12_quarrels_L26 o0 i1 kx n i2 i3 h) := by
  intro n
  induction n with
  | zero =>
    intros
    exact r_none
  | succ n ih =>
    intro i2 i3 h
    rw [fX12_quarrels_L26]
    refine r_iload_n C dX12_quarrels_26 3 rfl ?_
    refine r_aload_n C dX12_quarrels_27 0 rfl ?_
    refine r_gi C wf_X12_116_11 dX12_quarrels_28 (fun x1 => ?_)
    refine r_icmp_ge (tgt := 94) C dX12_quarrels_31 (by decide) ?_ ?_
    · refine r_perm (lv' := [(2, .int i2)]) [2] rfl ?_
      exact hk i2 h
    · refine r_iload_n C dX12_quarrels_34 3 rfl ?_
      refine r_iconst C dX12_quarrels_35 k_i1 ?_
      refine r_iadd C dX12_quarrels_36 ?_
      refine r_topi (fun x2 => ?_)
      refine r_istore (lv9 := [(4, .int x2), (0, p_rf g o0), (1, .int i1), (2, .int i2), (3, .int i3)]) C dX12_quarrels_37 (by decide) rfl ?_
      refine r_perm (lv' := [(0, p_rf g o0), (1, .int i1), (2, .int i2), (3, .int i3), (4, .int x2)]) [1, 2, 3, 4, 0] rfl ?_
      refine tX12_quarrels_L39 hg C o0 i1 i3 (fun x3 h4 => ?_) FU i2 x2 h
      refine r_iinc (lv' := [(0, p_rf g o0), (1, .int i1), (2, .int x3)]) C dX12_quarrels_88 3 rfl k_i1 (by decide) (fun _ => rfl) (fun x5 => ?_)
      refine r_goto (tgt := 26) C dX12_quarrels_91 (by decide) ?_
      refine r_perm (lv' := [(0, p_rf g o0), (1, .int i1), (2, .int x3), (3, .int x5)]) [1, 2, 3, 0] rfl ?_
      exact ih x3 x5 h4
set_option maxRecDepth 100000 in
set_option maxHeartbeats 4000000 in
theorem tcX12_quarrels (l : Launch) (g : WG) (hg : p_al g = false) (o0 : Nat) (i1 : Int32) (h : PH) : CT l g 2 0 0 yX12_quarrels cX12_quarrels 5 (some .int) em_i [p_rf g o0, .int i1] h (fX12_quarrels o0 i1 h) := by
  refine CT_of (own := RX12) (nm := "quarrels") (by decide +kernel) (Nat.le_of_ble_eq_true rfl) rfl rfl rfl ⟨rfl, rfl⟩ (fun K hK C => ?_)
  subst hK
  unfold fX12_quarrels
  show VX K g _ _ _ _ _ [(0, p_rf g o0), (1, .int i1)] _ _ _
  refine r_aload_n C dX12_quarrels_0 0 rfl ?_
  refine r_iconst C dX12_quarrels_1 k_i0 ?_
  refine r_pi C wf_X12_109_11 dX12_quarrels_2 (fun h1 => ?_)
  refine r_iload_n C dX12_quarrels_5 1 rfl ?_
  refine r_iconst C dX12_quarrels_6 k_i0 ?_
  refine r_bipush C dX12_quarrels_7 k_b9 ?_
  refine r_csi (As := [.int i1, .int (0 : Int32), .int (9 : Int32)]) (st := []) C ws_X12_119 (tcX12_in K.2.1 g hg i1 (0 : Int32) (9 : Int32) h1) (Nat.le_of_ble_eq_true rfl) rfl rfl (Nat.le_of_ble_eq_true rfl) dX12_quarrels_9 ⟨Nat.le_of_ble_eq_true rfl, Nat.le_of_ble_eq_true rfl⟩ (fun x2 h3 => ?_)
  refine r_if_ne (tgt := 17) C dX12_quarrels_12 (by decide) ?_ ?_
  · refine r_iconst C dX12_quarrels_17 k_i0 ?_
    refine r_istore_n (lv9 := [(2, .int (0 : Int32)), (0, p_rf g o0), (1, .int i1)]) C dX12_quarrels_18 (by decide) rfl ?_
    refine r_aload_n C dX12_quarrels_19 1 rfl ?_
    refine r_iconst C dX12_quarrels_20 k_i0 ?_
    refine r_pi C wf_X12_113_11 dX12_quarrels_21 (fun h4 => ?_)
    refine r_iconst C dX12_quarrels_24 k_i0 ?_
    refine r_istore_n (lv9 := [(3, .int (0 : Int32)), (2, .int (0 : Int32)), (0, p_rf g o0), (1, .int i1)]) C dX12_quarrels_25 (by decide) rfl ?_
    refine r_perm (lv' := [(0, p_rf g o0), (1, .int i1), (2, .int (0 : Int32)), (3, .int (0 : Int32))]) [2, 3, 1, 0] rfl ?_
    refine tX12_quarrels_L26 hg C o0 i1 (fun x5 h6 => ?_) FU (0 : Int32) (0 : Int32) h4
    refine r_iload_n C dX12_quarrels_94 0 rfl ?_
    exact r_iret C dX12_quarrels_95
  · refine r_iconst C dX12_quarrels_15 k_im1 ?_
    exact r_iret C dX12_quarrels_16
set_option maxRecDepth 100000 in
set_option maxHeartbeats 4000000 in
theorem tX12_isPeace_J54_15 {K : AC} {g : WG} (hg : p_al g = false)  (C : Cx K g cX12_isPeace 5 RX12 (some .boolean) "isPeace" 2 0 0) (o0 : Nat) (i1 : Int32) (i2 : Int32) (i3 : Int32) (i4 : Int32)    {rc : Int32 → PH → Option (Int32 × PH)} {kx : PH → Option (Int32 × PH)} (hr : ∀ (i4' : Int32) (h : PH), VX K g 5 0 0 (a_fin K g 0 0 em_i) 15 [(0, p_rf g o0), (1, .int i1), (2, .int i2), (3, .int i3), (4, .int i4')] [] h (rc i4' h)) (hk : ∀  (h : PH), VX K g 5 0 0 (a_fin K g 0 0 em_i) 60 [(0, p_rf g o0), (1, .int i1), (2, .int i2), (3, .int i3)] [] h (kx  h)) (h : PH) : VX K g 5 0 0 (a_fin K g 0 0 em_i) 54 [(0, p_rf g o0), (1, .int i1), (2, .int i2), (3, .int i3), (4, .int i4)] [] h (fX12_isPeace_J54_15 rc kx o0 i1 i2 i3 i4 h) := by
  unfold fX12_isPeace_J54_15
  refine r_iinc (lv' := [(0, p_rf g o0), (1, .int i1), (2, .int i2), (3, .int i3)]) C dX12_isPeace_54 4 rfl k_i1 (by decide) (fun _ => rfl) (fun x1 => ?_)
  refine r_goto (tgt := 15) C dX12_isPeace_57 (by decide) ?_
  refine r_perm (lv' := [(0, p_rf g o0), (1, .int i1), (2, .int i2), (3, .int i3), (4, .int x1)]) [1, 2, 3, 4, 0] rfl ?_
  exact hr x1 h
set_option maxRecDepth 100000 in
set_option maxHeartbeats 4000000 in
theorem tX12_isPeace_L15 {K : AC} {g : WG} (hg : p_al g = false)  (C : Cx K g cX12_isPeace 5 RX12 (some .boolean) "isPeace" 2 0 0) (o0 : Nat) (i1 : Int32) (i2 : Int32) (i3 : Int32) {kx : PH → Option (Int32 × PH)} (hk : ∀  (h : PH), VX K g 5 0 0 (a_fin K g 0 0 em_i) 60 [(0, p_rf g o0), (1, .int i1), (2, .int i2), (3, .int i3)] [] h (kx h)) : ∀ (n : Nat) (i4 : Int32) (h : PH), VX K g 5 0 0 (a_fin K g 0 0 em_i) 15 [(0, p_rf g o0), (1, .int i1), (2, .int i2), (3, .int i3), (4, .int i4)] [] h (fX12_isPeace_L15 o0 i1 i2 i3 kx n i4 h) := by
  intro n
  induction n with
  | zero =>
    intros
    exact r_none
  | succ n ih =>
    intro i4 h
    rw [fX12_isPeace_L15]
    refine r_iload C dX12_isPeace_15 4 rfl ?_
    refine r_aload_n C dX12_isPeace_17 0 rfl ?_
    refine r_gi C wf_X12_116_11 dX12_isPeace_18 (fun x1 => ?_)
    refine r_icmp_ge (tgt := 60) C dX12_isPeace_21 (by decide) ?_ ?_
    · refine r_perm (lv' := [(0, p_rf g o0), (1, .int i1), (2, .int i2), (3, .int i3)]) [0, 1, 2, 3] rfl ?_
      exact hk h
    · refine r_iload_n C dX12_isPeace_24 1 rfl ?_
      refine r_iload_n C dX12_isPeace_25 3 rfl ?_
      refine r_csi (As := [.int i1, .int i3]) (st := []) C ws_X12_265 (tcX12_has K.2.1 g hg i1 i3 h) (Nat.le_of_ble_eq_true rfl) rfl rfl (Nat.le_of_ble_eq_true rfl) dX12_isPeace_26 ⟨Nat.le_of_ble_eq_true rfl, Nat.le_of_ble_eq_true rfl⟩ (fun x2 h3 => ?_)
      refine r_if_eq (tgt := 54) C dX12_isPeace_29 (by decide) ?_ ?_
      · exact tX12_isPeace_J54_15 hg C o0 i1 i2 i3 i4 ih hk h3
      · refine r_iload_n C dX12_isPeace_32 1 rfl ?_
        refine r_iload C dX12_isPeace_33 4 rfl ?_
        refine r_csi (As := [.int i1, .int i4]) (st := []) C ws_X12_265 (tcX12_has K.2.1 g hg i1 i4 h3) (Nat.le_of_ble_eq_true rfl) rfl rfl (Nat.le_of_ble_eq_true rfl) dX12_isPeace_35 ⟨Nat.le_of_ble_eq_true rfl, Nat.le_of_ble_eq_true rfl⟩ (fun x4 h5 => ?_)
        refine r_if_eq (tgt := 54) C dX12_isPeace_38 (by decide) ?_ ?_
        · exact tX12_isPeace_J54_15 hg C o0 i1 i2 i3 i4 ih hk h5
        · refine r_aload_n C dX12_isPeace_41 0 rfl ?_
          refine r_iload_n C dX12_isPeace_42 3 rfl ?_
          refine r_iload C dX12_isPeace_43 4 rfl ?_
          refine r_iload_n C dX12_isPeace_45 2 rfl ?_
          refine r_cvi (As := [.int i3, .int i4, .int i2]) (st := []) C wv_X12_368 (tcX12_doQuarrel K.2.1 g hg o0 i3 i4 i2 h5) (Nat.le_of_ble_eq_true rfl) rfl rfl (Nat.le_of_ble_eq_true rfl) dX12_isPeace_46 ⟨Nat.le_of_ble_eq_true rfl, Nat.le_of_ble_eq_true rfl⟩ (fun x6 h7 => ?_)
          refine r_if_eq (tgt := 54) C dX12_isPeace_49 (by decide) ?_ ?_
          · exact tX12_isPeace_J54_15 hg C o0 i1 i2 i3 i4 ih hk h7
          · refine r_iconst C dX12_isPeace_52 k_i0 ?_
            exact r_zret C dX12_isPeace_53
set_option maxRecDepth 100000 in
set_option maxHeartbeats 4000000 in
theorem tX12_isPeace_L2 {K : AC} {g : WG} (hg : p_al g = false)  (C : Cx K g cX12_isPeace 5 RX12 (some .boolean) "isPeace" 2 0 0) (o0 : Nat) (i1 : Int32) (i2 : Int32) {kx : PH → Option (Int32 × PH)} (hk : ∀  (h : PH), VX K g 5 0 0 (a_fin K g 0 0 em_i) 66 [] [] h (kx h)) : ∀ (n : Nat) (i3 : Int32) (h : PH), VX K g 5 0 0 (a_fin K g 0 0 em_i) 2 [(0, p_rf g o0), (1, .int i1), (2, .int i2), (3, .int i3)] [] h (fX12_isPeace_L2 o0 i1 i2 kx n i3 h) := by
  intro n
  induction n with
  | zero =>
    intros
    exact r_none
  | succ n ih =>
    intro i3 h
    rw [fX12_isPeace_L2]
    refine r_iload_n C dX12_isPeace_2 3 rfl ?_
    refine r_aload_n C dX12_isPeace_3 0 rfl ?_
    refine r_gi C wf_X12_116_11 dX12_isPeace_4 (fun x1 => ?_)
    refine r_icmp_ge (tgt := 66) C dX12_isPeace_7 (by decide) ?_ ?_
    · refine r_perm (lv' := []) [] rfl ?_
      exact hk h
    · refine r_iload_n C dX12_isPeace_10 3 rfl ?_
      refine r_iconst C dX12_isPeace_11 k_i1 ?_
      refine r_iadd C dX12_isPeace_12 ?_
      refine r_topi (fun x2 => ?_)
      refine r_istore (lv9 := [(4, .int x2), (0, p_rf g o0), (1, .int i1), (2, .int i2), (3, .int i3)]) C dX12_isPeace_13 (by decide) rfl ?_
      refine r_perm (lv' := [(0, p_rf g o0), (1, .int i1), (2, .int i2), (3, .int i3), (4, .int x2)]) [1, 2, 3, 4, 0] rfl ?_
      refine tX12_isPeace_L15 hg C o0 i1 i2 i3 (fun h3 => ?_) FU x2 h
      refine r_iinc (lv' := [(0, p_rf g o0), (1, .int i1), (2, .int i2)]) C dX12_isPeace_60 3 rfl k_i1 (by decide) (fun _ => rfl) (fun x4 => ?_)
      refine r_goto (tgt := 2) C dX12_isPeace_63 (by decide) ?_
      refine r_perm (lv' := [(0, p_rf g o0), (1, .int i1), (2, .int i2), (3, .int x4)]) [1, 2, 3, 0] rfl ?_
      exact ih x4 h3
set_option maxRecDepth 100000 in
set_option maxHeartbeats 4000000 in
theorem tcX12_isPeace (l : Launch) (g : WG) (hg : p_al g = false) (o0 : Nat) (i1 : Int32) (i2 : Int32) (h : PH) : CT l g 2 0 0 yX12_isPeace cX12_isPeace 5 (some .boolean) em_i [p_rf g o0, .int i1, .int i2] h (fX12_isPeace o0 i1 i2 h) := by
  refine CT_of (own := RX12) (nm := "isPeace") (by decide +kernel) (Nat.le_of_ble_eq_true rfl) rfl rfl rfl ⟨rfl, rfl⟩ (fun K hK C => ?_)
  subst hK
  unfold fX12_isPeace
  show VX K g _ _ _ _ _ [(0, p_rf g o0), (1, .int i1), (2, .int i2)] _ _ _
  refine r_iconst C dX12_isPeace_0 k_i0 ?_
  refine r_istore_n (lv9 := [(3, .int (0 : Int32)), (0, p_rf g o0), (1, .int i1), (2, .int i2)]) C dX12_isPeace_1 (by decide) rfl ?_
  refine r_perm (lv' := [(0, p_rf g o0), (1, .int i1), (2, .int i2), (3, .int (0 : Int32))]) [1, 2, 3, 0] rfl ?_
  refine tX12_isPeace_L2 hg C o0 i1 i2 (fun h1 => ?_) FU (0 : Int32) h
  refine r_iconst C dX12_isPeace_66 k_i1 ?_
  exact r_zret C dX12_isPeace_67
set_option maxRecDepth 100000 in
set_option maxHeartbeats 4000000 in
theorem tX12_peace_J51_21 {K : AC} {g : WG} (hg : p_al g = false)  (C : Cx K g cX12_peace 4 RX12 (some .int) "peace" 3 0 0) (o0 : Nat) (i1 : Int32) (i2 : Int32) (i3 : Int32)    {rc : Int32 → Int32 → PH → Option (Int32 × PH)} {kx : Int32 → PH → Option (Int32 × PH)} (hr : ∀ (i2' : Int32) (i3' : Int32) (h : PH), VX K g 4 0 0 (a_fin K g 0 0 em_i) 21 [(0, p_rf g o0), (1, .int i1), (2, .int i2'), (3, .int i3')] [] h (rc i2' i3' h)) (hk : ∀ (i2' : Int32) (h : PH), VX K g 4 0 0 (a_fin K g 0 0 em_i) 57 [(0, p_rf g o0), (2, .int i2')] [] h (kx i2' h)) (h : PH) : VX K g 4 0 0 (a_fin K g 0 0 em_i) 51 [(0, p_rf g o0), (1, .int i1), (2, .int i2), (3, .int i3)] [] h (fX12_peace_J51_21 rc kx o0 i1 i2 i3 h) := by
  unfold fX12_peace_J51_21
  refine r_iinc (lv' := [(0, p_rf g o0), (1, .int i1), (2, .int i2)]) C dX12_peace_51 3 rfl k_i1 (by decide) (fun _ => rfl) (fun x1 => ?_)
  refine r_goto (tgt := 21) C dX12_peace_54 (by decide) ?_
  refine r_perm (lv' := [(0, p_rf g o0), (1, .int i1), (2, .int i2), (3, .int x1)]) [1, 2, 3, 0] rfl ?_
  exact hr i2 x1 h
set_option maxRecDepth 100000 in
set_option maxHeartbeats 4000000 in
theorem tX12_peace_L21 {K : AC} {g : WG} (hg : p_al g = false)  (C : Cx K g cX12_peace 4 RX12 (some .int) "peace" 3 0 0) (o0 : Nat) (i1 : Int32) {kx : Int32 → PH → Option (Int32 × PH)} (hk : ∀ (i2 : Int32) (h : PH), VX K g 4 0 0 (a_fin K g 0 0 em_i) 57 [(0, p_rf g o0), (2, .int i2)] [] h (kx i2 h)) : ∀ (n : Nat) (i2 : Int32) (i3 : Int32) (h : PH), VX K g 4 0 0 (a_fin K g 0 0 em_i) 21 [(0, p_rf g o0), (1, .int i1), (2, .int i2), (3, .int i3)] [] h (fX12_peace_L21 o0 i1 kx n i2 i3 h) := by
  intro n
  induction n with
  | zero =>
    intros
    exact r_none
  | succ n ih =>
    intro i2 i3 h
    rw [fX12_peace_L21]
    refine r_iload_n C dX12_peace_21 3 rfl ?_
    refine r_aload_n C dX12_peace_22 0 rfl ?_
    refine r_cvi (As := []) (st := [.int i3]) C wv_X12_371 (tcX12_all K.2.1 g hg o0 h) (Nat.le_of_ble_eq_true rfl) rfl rfl (Nat.le_of_ble_eq_true rfl) dX12_peace_23 ⟨Nat.le_of_ble_eq_true rfl, Nat.le_of_ble_eq_true rfl⟩ (fun x1 h2 => ?_)
    refine r_icmp_gt (tgt := 57) C dX12_peace_26 (by decide) ?_ ?_
    · refine r_perm (lv' := [(0, p_rf g o0), (2, .int i2)]) [0, 2] rfl ?_
      exact hk i2 h2
    · refine r_iload_n C dX12_peace_29 3 rfl ?_
      refine r_csi (As := [.int i3]) (st := []) C ws_X12_242 (tcJ6_bitCount_0f7a4 K.2.1 g hg i3 h2) (Nat.le_of_ble_eq_true rfl) rfl rfl (Nat.le_of_ble_eq_true rfl) dX12_peace_30 ⟨Nat.le_of_ble_eq_true rfl, Nat.le_of_ble_eq_true rfl⟩ (fun x3 h4 => ?_)
      refine r_iload_n C dX12_peace_33 2 rfl ?_
      refine r_csi (As := [.int i2]) (st := [.int x3]) C ws_X12_242 (tcJ6_bitCount_0f7a4 K.2.1 g hg i2 h4) (Nat.le_of_ble_eq_true rfl) rfl rfl (Nat.le_of_ble_eq_true rfl) dX12_peace_34 ⟨Nat.le_of_ble_eq_true rfl, Nat.le_of_ble_eq_true rfl⟩ (fun x5 h6 => ?_)
      refine r_icmp_le (tgt := 51) C dX12_peace_37 (by decide) ?_ ?_
      · exact tX12_peace_J51_21 hg C o0 i1 i2 i3 ih hk h6
      · refine r_aload_n C dX12_peace_40 0 rfl ?_
        refine r_iload_n C dX12_peace_41 3 rfl ?_
        refine r_iload_n C dX12_peace_42 1 rfl ?_
        refine r_cvi (As := [.int i3, .int i1]) (st := []) C wv_X12_374 (tcX12_isPeace K.2.1 g hg o0 i3 i1 h6) (Nat.le_of_ble_eq_true rfl) rfl rfl (Nat.le_of_ble_eq_true rfl) dX12_peace_43 ⟨Nat.le_of_ble_eq_true rfl, Nat.le_of_ble_eq_true rfl⟩ (fun x7 h8 => ?_)
        refine r_if_eq (tgt := 51) C dX12_peace_46 (by decide) ?_ ?_
        · exact tX12_peace_J51_21 hg C o0 i1 i2 i3 ih hk h8
        · refine r_iload_n C dX12_peace_49 3 rfl ?_
          refine r_istore_n (lv9 := [(2, .int i3), (0, p_rf g o0), (1, .int i1), (3, .int i3)]) C dX12_peace_50 (by decide) rfl ?_
          refine r_perm (lv' := [(0, p_rf g o0), (1, .int i1), (2, .int i3), (3, .int i3)]) [1, 2, 0, 3] rfl ?_
          exact tX12_peace_J51_21 hg C o0 i1 i3 i3 ih hk h8
set_option maxRecDepth 100000 in
set_option maxHeartbeats 4000000 in
theorem tcX12_peace (l : Launch) (g : WG) (hg : p_al g = false) (o0 : Nat) (i1 : Int32) (h : PH) : CT l g 3 0 0 yX12_peace cX12_peace 4 (some .int) em_i [p_rf g o0, .int i1] h (fX12_peace o0 i1 h) := by
  refine CT_of (own := RX12) (nm := "peace") (by decide +kernel) (Nat.le_of_ble_eq_true rfl) rfl rfl rfl ⟨rfl, rfl⟩ (fun K hK C => ?_)
  subst hK
  unfold fX12_peace
  show VX K g _ _ _ _ _ [(0, p_rf g o0), (1, .int i1)] _ _ _
  refine r_aload_n C dX12_peace_0 0 rfl ?_
  refine r_iconst C dX12_peace_1 k_i0 ?_
  refine r_pi C wf_X12_109_11 dX12_peace_2 (fun h1 => ?_)
  refine r_iload_n C dX12_peace_5 1 rfl ?_
  refine r_iconst C dX12_peace_6 k_i0 ?_
  refine r_bipush C dX12_peace_7 k_b9 ?_
  refine r_csi (As := [.int i1, .int (0 : Int32), .int (9 : Int32)]) (st := []) C ws_X12_119 (tcX12_in K.2.1 g hg i1 (0 : Int32) (9 : Int32) h1) (Nat.le_of_ble_eq_true rfl) rfl rfl (Nat.le_of_ble_eq_true rfl) dX12_peace_9 ⟨Nat.le_of_ble_eq_true rfl, Nat.le_of_ble_eq_true rfl⟩ (fun x2 h3 => ?_)
  refine r_if_ne (tgt := 17) C dX12_peace_12 (by decide) ?_ ?_
  · refine r_iconst C dX12_peace_17 k_i0 ?_
    refine r_istore_n (lv9 := [(2, .int (0 : Int32)), (0, p_rf g o0), (1, .int i1)]) C dX12_peace_18 (by decide) rfl ?_
    refine r_iconst C dX12_peace_19 k_i1 ?_
    refine r_istore_n (lv9 := [(3, .int (1 : Int32)), (2, .int (0 : Int32)), (0, p_rf g o0), (1, .int i1)]) C dX12_peace_20 (by decide) rfl ?_
    refine r_perm (lv' := [(0, p_rf g o0), (1, .int i1), (2, .int (0 : Int32)), (3, .int (1 : Int32))]) [2, 3, 1, 0] rfl ?_
    refine tX12_peace_L21 hg C o0 i1 (fun x4 h5 => ?_) FU (0 : Int32) (1 : Int32) h3
    refine r_aload_n C dX12_peace_57 0 rfl ?_
    refine r_iconst C dX12_peace_58 k_i0 ?_
    refine r_pi C wf_X12_113_11 dX12_peace_59 (fun h6 => ?_)
    refine r_aload_n C dX12_peace_62 0 rfl ?_
    refine r_iload_n C dX12_peace_63 1 rfl ?_
    refine r_i2l C dX12_peace_64 ?_
    refine r_cvv (As := [.long (x4.toInt64)]) (st := []) C wv_X12_329 (tcX12_tell K.2.1 g hg o0 (x4.toInt64) h6) (Nat.le_of_ble_eq_true rfl) rfl rfl (Nat.le_of_ble_eq_true rfl) dX12_peace_65 ⟨Nat.le_of_ble_eq_true rfl, Nat.le_of_ble_eq_true rfl⟩ (fun h7 => ?_)
    refine r_iload_n C dX12_peace_68 1 rfl ?_
    refine r_csi (As := [.int x4]) (st := []) C ws_X12_242 (tcJ6_bitCount_0f7a4 K.2.1 g hg x4 h7) (Nat.le_of_ble_eq_true rfl) rfl rfl (Nat.le_of_ble_eq_true rfl) dX12_peace_69 ⟨Nat.le_of_ble_eq_true rfl, Nat.le_of_ble_eq_true rfl⟩ (fun x8 h9 => ?_)
    exact r_iret C dX12_peace_72
  · refine r_iconst C dX12_peace_15 k_im1 ?_
    exact r_iret C dX12_peace_16
set_option maxRecDepth 100000 in
set_option maxHeartbeats 4000000 in
theorem tX12_pulls_J97_42 {K : AC} {g : WG} (hg : p_al g = false)  (C : Cx K g cX12_pulls 7 RX12 (some .int) "pulls" 2 0 0) (o0 : Nat) (i1 : Int32) (i2 : Int32) (i3 : Int32) (i4 : Int32) (i5 : Int32) (i6 : Int32)    {rc : Int32 → Int32 → Int32 → PH → Option (Int32 × PH)} {kx : Int32 → Int32 → PH → Option (Int32 × PH)} (hr : ∀ (i4' : Int32) (i5' : Int32) (i6' : Int32) (h : PH), VX K g 7 0 0 (a_fin K g 0 0 em_i) 42 [(0, p_rf g o0), (1, .int i1), (2, .int i2), (3, .int i3), (4, .int i4'), (5, .int i5'), (6, .int i6')] [] h (rc i4' i5' i6' h)) (hk : ∀ (i4' : Int32) (i5' : Int32) (h : PH), VX K g 7 0 0 (a_fin K g 0 0 em_i) 103 [(0, p_rf g o0), (1, .int i1), (2, .int i2), (3, .int i3), (4, .int i4'), (5, .int i5')] [] h (kx i4' i5' h)) (h : PH) : VX K g 7 0 0 (a_fin K g 0 0 em_i) 97 [(0, p_rf g o0), (1, .int i1), (2, .int i2), (3, .int i3), (4, .int i4), (5, .int i5), (6, .int i6)] [] h (fX12_pulls_J97_42 rc kx o0 i1 i2 i3 i4 i5 i6 h) := by
  unfold fX12_pulls_J97_42
  refine r_iinc (lv' := [(0, p_rf g o0), (1, .int i1), (2, .int i2), (3, .int i3), (4, .int i4), (5, .int i5)]) C dX12_pulls_97 6 rfl k_i1 (by decide) (fun _ => rfl) (fun x1 => ?_)
  refine r_goto (tgt := 42) C dX12_pulls_100 (by decide) ?_
  refine r_perm (lv' := [(0, p_rf g o0), (1, .int i1), (2, .int i2), (3, .int i3), (4, .int i4), (5, .int i5), (6, .int x1)]) [1, 2, 3, 4, 5, 6, 0] rfl ?_
  exact hr i4 i5 x1 h
set_option maxRecDepth 100000 in
set_option maxHeartbeats 4000000 in
theorem tX12_pulls_L42 {K : AC} {g : WG} (hg : p_al g = false)  (C : Cx K g cX12_pulls 7 RX12 (some .int) "pulls" 2 0 0) (o0 : Nat) (i1 : Int32) (i2 : Int32) (i3 : Int32) {kx : Int32 → Int32 → PH → Option (Int32 × PH)} (hk : ∀ (i4 : Int32) (i5 : Int32) (h : PH), VX K g 7 0 0 (a_fin K g 0 0 em_i) 103 [(0, p_rf g o0), (1, .int i1), (2, .int i2), (3, .int i3), (4, .int i4), (5, .int i5)] [] h (kx i4 i5 h)) : ∀ (n : Nat) (i4 : Int32) (i5 : Int32) (i6 : Int32) (h : PH), VX K g 7 0 0 (a_fin K g 0 0 em_i) 42 [(0, p_rf g o0), (1, .int i1), (2, .int i2), (3, .int i3), (4, .int i4), (5, .int i5), (6, .int i6)] [] h (fX12_pulls_L42 o0 i1 i2 i3 kx n i4 i5 i6 h) := by
  intro n
  induction n with
  | zero =>
    intros
    exact r_none
  | succ n ih =>
    intro i4 i5 i6 h
    rw [fX12_pulls_L42]
    refine r_iload C dX12_pulls_42 6 rfl ?_
    refine r_aload_n C dX12_pulls_44 0 rfl ?_
    refine r_gi C wf_X12_116_11 dX12_pulls_45 (fun x1 => ?_)
    refine r_icmp_ge (tgt := 103) C dX12_pulls_48 (by decide) ?_ ?_
    · refine r_perm (lv' := [(0, p_rf g o0), (1, .int i1), (2, .int i2), (3, .int i3), (4, .int i4), (5, .int i5)]) [0, 1, 2, 3, 4, 5] rfl ?_
      exact hk i4 i5 h
    · refine r_iload_n C dX12_pulls_51 1 rfl ?_
      refine r_iload C dX12_pulls_52 6 rfl ?_
      refine r_csi (As := [.int i1, .int i6]) (st := []) C ws_X12_265 (tcX12_has K.2.1 g hg i1 i6 h) (Nat.le_of_ble_eq_true rfl) rfl rfl (Nat.le_of_ble_eq_true rfl) dX12_pulls_54 ⟨Nat.le_of_ble_eq_true rfl, Nat.le_of_ble_eq_true rfl⟩ (fun x2 h3 => ?_)
      refine r_if_eq (tgt := 97) C dX12_pulls_57 (by decide) ?_ ?_
      · exact tX12_pulls_J97_42 hg C o0 i1 i2 i3 i4 i5 i6 ih hk h3
      · refine r_aload_n C dX12_pulls_60 0 rfl ?_
        refine r_gr C wf_X12_16_11 dX12_pulls_61 (fun q4 => ?_)
        refine r_iconst C dX12_pulls_64 k_i4 ?_
        refine r_iload C dX12_pulls_65 6 rfl ?_
        refine r_imul C dX12_pulls_67 ?_
        refine r_iload_n C dX12_pulls_68 3 rfl ?_
        refine r_iadd C dX12_pulls_69 ?_
        refine r_iald C dX12_pulls_70 (fun x5 => ?_)
        refine r_iconst C dX12_pulls_71 k_im1 ?_
        refine r_icmp_ne (tgt := 78) C dX12_pulls_72 (by decide) ?_ ?_
        · refine r_iload C dX12_pulls_78 4 rfl ?_
          refine r_aload_n C dX12_pulls_80 0 rfl ?_
          refine r_gr C wf_X12_16_11 dX12_pulls_81 (fun q6 => ?_)
          refine r_iconst C dX12_pulls_84 k_i4 ?_
          refine r_iload C dX12_pulls_85 6 rfl ?_
          refine r_imul C dX12_pulls_87 ?_
          refine r_iload_n C dX12_pulls_88 3 rfl ?_
          refine r_iadd C dX12_pulls_89 ?_
          refine r_iald C dX12_pulls_90 (fun x7 => ?_)
          refine r_iadd C dX12_pulls_91 ?_
          refine r_topi (fun x8 => ?_)
          refine r_istore (lv9 := [(4, .int x8), (0, p_rf g o0), (1, .int i1), (2, .int i2), (3, .int i3), (5, .int i5), (6, .int i6)]) C dX12_pulls_92 (by decide) rfl ?_
          refine r_iinc (lv' := [(4, .int x8), (0, p_rf g o0), (1, .int i1), (2, .int i2), (3, .int i3), (6, .int i6)]) C dX12_pulls_94 5 rfl k_i1 (by decide) (fun _ => rfl) (fun x9 => ?_)
          refine r_perm (lv' := [(0, p_rf g o0), (1, .int i1), (2, .int i2), (3, .int i3), (4, .int x8), (5, .int x9), (6, .int i6)]) [2, 3, 4, 5, 1, 0, 6] rfl ?_
          exact tX12_pulls_J97_42 hg C o0 i1 i2 i3 x8 x9 i6 ih hk h3
        · refine r_goto (tgt := 97) C dX12_pulls_75 (by decide) ?_
          exact tX12_pulls_J97_42 hg C o0 i1 i2 i3 i4 i5 i6 ih hk h3
set_option maxRecDepth 100000 in
set_option maxHeartbeats 4000000 in
theorem tX12_pulls_J136_28 {K : AC} {g : WG} (hg : p_al g = false)  (C : Cx K g cX12_pulls 7 RX12 (some .int) "pulls" 2 0 0) (o0 : Nat) (i1 : Int32) (i2 : Int32) (i3 : Int32) (s0 : Int64) (s1 : Nat)    {rc : Int32 → Int32 → PH → Option (Int32 × PH)} {kx : Int32 → PH → Option (Int32 × PH)} (hr : ∀ (i2' : Int32) (i3' : Int32) (h : PH), VX K g 7 0 0 (a_fin K g 0 0 em_i) 28 [(0, p_rf g o0), (1, .int i1), (2, .int i2'), (3, .int i3')] [] h (rc i2' i3' h)) (hk : ∀ (i2' : Int32) (h : PH), VX K g 7 0 0 (a_fin K g 0 0 em_i) 145 [(2, .int i2')] [] h (kx i2' h)) (h : PH) : VX K g 7 0 0 (a_fin K g 0 0 em_i) 136 [(0, p_rf g o0), (1, .int i1), (2, .int i2), (3, .int i3)] [.long s0, p_rf g s1] h (fX12_pulls_J136_28 rc kx o0 i1 i2 i3 s0 s1 h) := by
  unfold fX12_pulls_J136_28
  refine r_cvv (As := [.long s0]) (st := []) C wv_X12_329 (tcX12_tell K.2.1 g hg s1 s0 h) (Nat.le_of_ble_eq_true rfl) rfl rfl (Nat.le_of_ble_eq_true rfl) dX12_pulls_136 ⟨Nat.le_of_ble_eq_true rfl, Nat.le_of_ble_eq_true rfl⟩ (fun h1 => ?_)
  refine r_iinc (lv' := [(0, p_rf g o0), (1, .int i1), (2, .int i2)]) C dX12_pulls_139 3 rfl k_i1 (by decide) (fun _ => rfl) (fun x2 => ?_)
  refine r_goto (tgt := 28) C dX12_pulls_142 (by decide) ?_
  refine r_perm (lv' := [(0, p_rf g o0), (1, .int i1), (2, .int i2), (3, .int x2)]) [1, 2, 3, 0] rfl ?_
  exact hr i2 x2 h1
set_option maxRecDepth 100000 in
set_option maxHeartbeats 4000000 in
theorem tX12_pulls_J116_28 {K : AC} {g : WG} (hg : p_al g = false)  (C : Cx K g cX12_pulls 7 RX12 (some .int) "pulls" 2 0 0) (o0 : Nat) (i1 : Int32) (i3 : Int32) (i4 : Int32) (i5 : Int32) (s0 : Int32) (s1 : Int32)    {rc : Int32 → Int32 → PH → Option (Int32 × PH)} {kx : Int32 → PH → Option (Int32 × PH)} (hr : ∀ (i2' : Int32) (i3' : Int32) (h : PH), VX K g 7 0 0 (a_fin K g 0 0 em_i) 28 [(0, p_rf g o0), (1, .int i1), (2, .int i2'), (3, .int i3')] [] h (rc i2' i3' h)) (hk : ∀ (i2' : Int32) (h : PH), VX K g 7 0 0 (a_fin K g 0 0 em_i) 145 [(2, .int i2')] [] h (kx i2' h)) (h : PH) : VX K g 7 0 0 (a_fin K g 0 0 em_i) 116 [(0, p_rf g o0), (1, .int i1), (3, .int i3), (4, .int i4), (5, .int i5)] [.int s0, .int s1] h (fX12_pulls_J116_28 rc kx o0 i1 i3 i4 i5 s0 s1 h) := by
  unfold fX12_pulls_J116_28
  refine r_ior C dX12_pulls_116 ?_
  refine r_topi (fun x1 => ?_)
  refine r_istore_n (lv9 := [(2, .int x1), (0, p_rf g o0), (1, .int i1), (3, .int i3), (4, .int i4), (5, .int i5)]) C dX12_pulls_117 (by decide) rfl ?_
  refine r_aload_n C dX12_pulls_118 1 rfl ?_
  refine r_iload C dX12_pulls_119 5 rfl ?_
  refine r_if_le (tgt := 133) C dX12_pulls_121 (by decide) ?_ ?_
  · refine r_ldc2 (v := (-1 : Int64)) C dX12_pulls_133 m_1927 ?_
    refine r_perm (lv' := [(0, p_rf g o0), (1, .int i1), (2, .int x1), (3, .int i3)]) [1, 2, 0, 3] rfl ?_
    exact tX12_pulls_J136_28 hg C o0 i1 x1 i3 (-1 : Int64) o0 hr hk h
  · refine r_iload C dX12_pulls_124 4 rfl ?_
    refine r_iload C dX12_pulls_126 5 rfl ?_
    refine r_idiv C dX12_pulls_128 ?_
    refine r_i2l C dX12_pulls_129 ?_
    refine r_goto (tgt := 136) C dX12_pulls_130 (by decide) ?_
    refine r_perm (lv' := [(0, p_rf g o0), (1, .int i1), (2, .int x1), (3, .int i3)]) [1, 2, 0, 3] rfl ?_
    exact tX12_pulls_J136_28 hg C o0 i1 x1 i3 ((i4 / i5).toInt64) o0 hr hk h
set_option maxRecDepth 100000 in
set_option maxHeartbeats 4000000 in
theorem tX12_pulls_L28 {K : AC} {g : WG} (hg : p_al g = false)  (C : Cx K g cX12_pulls 7 RX12 (some .int) "pulls" 2 0 0) (o0 : Nat) (i1 : Int32) {kx : Int32 → PH → Option (Int32 × PH)} (hk : ∀ (i2 : Int32) (h : PH), VX K g 7 0 0 (a_fin K g 0 0 em_i) 145 [(2, .int i2)] [] h (kx i2 h)) : ∀ (n : Nat) (i2 : Int32) (i3 : Int32) (h : PH), VX K g 7 0 0 (a_fin K g 0 0 em_i) 28 [(0, p_rf g o0), (1, .int i1), (2, .int i2), (3, .int i3)] [] h (fX12_pulls_L28 o0 i1 kx n i2 i3 h) := by
  intro n
  induction n with
  | zero =>
    intros
    exact r_none
  | succ n ih =>
    intro i2 i3 h
    rw [fX12_pulls_L28]
    refine r_iload_n C dX12_pulls_28 3 rfl ?_
    refine r_iconst C dX12_pulls_29 k_i4 ?_
    refine r_icmp_ge (tgt := 145) C dX12_pulls_30 (by decide) ?_ ?_
    · refine r_perm (lv' := [(2, .int i2)]) [2] rfl ?_
      exact hk i2 h
    · refine r_iconst C dX12_pulls_33 k_i0 ?_
      refine r_istore (lv9 := [(4, .int (0 : Int32)), (0, p_rf g o0), (1, .int i1), (2, .int i2), (3, .int i3)]) C dX12_pulls_34 (by decide) rfl ?_
      refine r_iconst C dX12_pulls_36 k_i0 ?_
      refine r_istore (lv9 := [(5, .int (0 : Int32)), (4, .int (0 : Int32)), (0, p_rf g o0), (1, .int i1), (2, .int i2), (3, .int i3)]) C dX12_pulls_37 (by decide) rfl ?_
      refine r_iconst C dX12_pulls_39 k_i0 ?_
      refine r_istore (lv9 := [(6, .int (0 : Int32)), (5, .int (0 : Int32)), (4, .int (0 : Int32)), (0, p_rf g o0), (1, .int i1), (2, .int i2), (3, .int i3)]) C dX12_pulls_40 (by decide) rfl ?_
      refine r_perm (lv' := [(0, p_rf g o0), (1, .int i1), (2, .int i2), (3, .int i3), (4, .int (0 : Int32)), (5, .int (0 : Int32)), (6, .int (0 : Int32))]) [3, 4, 5, 6, 2, 1, 0] rfl ?_
      refine tX12_pulls_L42 hg C o0 i1 i2 i3 (fun x1 x2 h3 => ?_) FU (0 : Int32) (0 : Int32) (0 : Int32) h
      refine r_iload_n C dX12_pulls_103 2 rfl ?_
      refine r_iload C dX12_pulls_104 5 rfl ?_
      refine r_if_le (tgt := 115) C dX12_pulls_106 (by decide) ?_ ?_
      · refine r_iconst C dX12_pulls_115 k_i0 ?_
        refine r_perm (lv' := [(0, p_rf g o0), (1, .int i1), (3, .int i3), (4, .int x1), (5, .int x2)]) [0, 1, 3, 4, 5] rfl ?_
        exact tX12_pulls_J116_28 hg C o0 i1 i3 x1 x2 (0 : Int32) i2 ih hk h3
      · refine r_iconst C dX12_pulls_109 k_i1 ?_
        refine r_iload_n C dX12_pulls_110 3 rfl ?_
        refine r_ishl C dX12_pulls_111 ?_
        refine r_goto (tgt := 116) C dX12_pulls_112 (by decide) ?_
        refine r_perm (lv' := [(0, p_rf g o0), (1, .int i1), (3, .int i3), (4, .int x1), (5, .int x2)]) [0, 1, 3, 4, 5] rfl ?_
        exact tX12_pulls_J116_28 hg C o0 i1 i3 x1 x2 ((1 : Int32) <<< (i3 &&& 31)) i2 ih hk h3
set_option maxRecDepth 100000 in
set_option maxHeartbeats 4000000 in
theorem tcX12_pulls (l : Launch) (g : WG) (hg : p_al g = false) (o0 : Nat) (i1 : Int32) (h : PH) : CT l g 2 0 0 yX12_pulls cX12_pulls 7 (some .int) em_i [p_rf g o0, .int i1] h (fX12_pulls o0 i1 h) := by
  refine CT_of (own := RX12) (nm := "pulls") (by decide +kernel) (Nat.le_of_ble_eq_true rfl) rfl rfl rfl ⟨rfl, rfl⟩ (fun K hK C => ?_)
  subst hK
  unfold fX12_pulls
  show VX K g _ _ _ _ _ [(0, p_rf g o0), (1, .int i1)] _ _ _
  refine r_aload_n C dX12_pulls_0 0 rfl ?_
  refine r_iconst C dX12_pulls_1 k_i0 ?_
  refine r_pi C wf_X12_109_11 dX12_pulls_2 (fun h1 => ?_)
  refine r_iload_n C dX12_pulls_5 1 rfl ?_
  refine r_iconst C dX12_pulls_6 k_i0 ?_
  refine r_aload_n C dX12_pulls_7 0 rfl ?_
  refine r_cvi (As := []) (st := [.int (0 : Int32), .int i1]) C wv_X12_371 (tcX12_all K.2.1 g hg o0 h1) (Nat.le_of_ble_eq_true rfl) rfl rfl (Nat.le_of_ble_eq_true rfl) dX12_pulls_8 ⟨Nat.le_of_ble_eq_true rfl, Nat.le_of_ble_eq_true rfl⟩ (fun x2 h3 => ?_)
  refine r_csi (As := [.int i1, .int (0 : Int32), .int x2]) (st := []) C ws_X12_119 (tcX12_in K.2.1 g hg i1 (0 : Int32) x2 h3) (Nat.le_of_ble_eq_true rfl) rfl rfl (Nat.le_of_ble_eq_true rfl) dX12_pulls_11 ⟨Nat.le_of_ble_eq_true rfl, Nat.le_of_ble_eq_true rfl⟩ (fun x4 h5 => ?_)
  refine r_if_ne (tgt := 19) C dX12_pulls_14 (by decide) ?_ ?_
  · refine r_iconst C dX12_pulls_19 k_i0 ?_
    refine r_istore_n (lv9 := [(2, .int (0 : Int32)), (0, p_rf g o0), (1, .int i1)]) C dX12_pulls_20 (by decide) rfl ?_
    refine r_aload_n C dX12_pulls_21 1 rfl ?_
    refine r_iconst C dX12_pulls_22 k_i0 ?_
    refine r_pi C wf_X12_113_11 dX12_pulls_23 (fun h6 => ?_)
    refine r_iconst C dX12_pulls_26 k_i0 ?_
    refine r_istore_n (lv9 := [(3, .int (0 : Int32)), (2, .int (0 : Int32)), (0, p_rf g o0), (1, .int i1)]) C dX12_pulls_27 (by decide) rfl ?_
    refine r_perm (lv' := [(0, p_rf g o0), (1, .int i1), (2, .int (0 : Int32)), (3, .int (0 : Int32))]) [2, 3, 1, 0] rfl ?_
    refine tX12_pulls_L28 hg C o0 i1 (fun x7 h8 => ?_) FU (0 : Int32) (0 : Int32) h6
    refine r_iload_n C dX12_pulls_145 0 rfl ?_
    exact r_iret C dX12_pulls_146
  · refine r_iconst C dX12_pulls_17 k_im1 ?_
    exact r_iret C dX12_pulls_18
set_option maxRecDepth 100000 in
set_option maxHeartbeats 4000000 in
theorem tcX12_seen (l : Launch) (g : WG) (hg : p_al g = false) (o0 : Nat) (i1 : Int32) (i2 : Int32) (i3 : Int32) (h : PH) : CT l g 2 0 0 yX12_seen cX12_seen 4 (some .int) em_i [p_rf g o0, .int i1, .int i2, .int i3] h (fX12_seen o0 i1 i2 i3 h) := by
  refine CT_of (own := RX12) (nm := "seen") (by decide +kernel) (Nat.le_of_ble_eq_true rfl) rfl rfl rfl ⟨rfl, rfl⟩ (fun K hK C => ?_)
  subst hK
  unfold fX12_seen
  show VX K g _ _ _ _ _ [(0, p_rf g o0), (1, .int i1), (2, .int i2), (3, .int i3)] _ _ _
  refine r_aload_n C dX12_seen_0 0 rfl ?_
  refine r_iconst C dX12_seen_1 k_i0 ?_
  refine r_pi C wf_X12_109_11 dX12_seen_2 (fun h1 => ?_)
  refine r_iload_n C dX12_seen_5 1 rfl ?_
  refine r_iconst C dX12_seen_6 k_i0 ?_
  refine r_bipush C dX12_seen_7 k_b30 ?_
  refine r_csi (As := [.int i1, .int (0 : Int32), .int (30 : Int32)]) (st := []) C ws_X12_119 (tcX12_in K.2.1 g hg i1 (0 : Int32) (30 : Int32) h1) (Nat.le_of_ble_eq_true rfl) rfl rfl (Nat.le_of_ble_eq_true rfl) dX12_seen_9 ⟨Nat.le_of_ble_eq_true rfl, Nat.le_of_ble_eq_true rfl⟩ (fun x2 h3 => ?_)
  refine r_if_eq (tgt := 43) C dX12_seen_12 (by decide) ?_ ?_
  · refine r_iconst C dX12_seen_43 k_im1 ?_
    exact r_iret C dX12_seen_44
  · refine r_iload_n C dX12_seen_15 2 rfl ?_
    refine r_iconst C dX12_seen_16 k_i0 ?_
    refine r_iconst C dX12_seen_17 k_i3 ?_
    refine r_csi (As := [.int i2, .int (0 : Int32), .int (3 : Int32)]) (st := []) C ws_X12_119 (tcX12_in K.2.1 g hg i2 (0 : Int32) (3 : Int32) h3) (Nat.le_of_ble_eq_true rfl) rfl rfl (Nat.le_of_ble_eq_true rfl) dX12_seen_18 ⟨Nat.le_of_ble_eq_true rfl, Nat.le_of_ble_eq_true rfl⟩ (fun x4 h5 => ?_)
    refine r_if_eq (tgt := 43) C dX12_seen_21 (by decide) ?_ ?_
    · refine r_iconst C dX12_seen_43 k_im1 ?_
      exact r_iret C dX12_seen_44
    · refine r_iload_n C dX12_seen_24 3 rfl ?_
      refine r_iconst C dX12_seen_25 k_i0 ?_
      refine r_bipush C dX12_seen_26 k_b9 ?_
      refine r_csi (As := [.int i3, .int (0 : Int32), .int (9 : Int32)]) (st := []) C ws_X12_119 (tcX12_in K.2.1 g hg i3 (0 : Int32) (9 : Int32) h5) (Nat.le_of_ble_eq_true rfl) rfl rfl (Nat.le_of_ble_eq_true rfl) dX12_seen_28 ⟨Nat.le_of_ble_eq_true rfl, Nat.le_of_ble_eq_true rfl⟩ (fun x6 h7 => ?_)
      refine r_if_eq (tgt := 43) C dX12_seen_31 (by decide) ?_ ?_
      · refine r_iconst C dX12_seen_43 k_im1 ?_
        exact r_iret C dX12_seen_44
      · refine r_aload_n C dX12_seen_34 0 rfl ?_
        refine r_gi C wf_X12_379_11 dX12_seen_35 (fun x8 => ?_)
        refine r_bipush C dX12_seen_38 k_b12 ?_
        refine r_icmp_ne (tgt := 45) C dX12_seen_40 (by decide) ?_ ?_
        · refine r_aload_n C dX12_seen_45 0 rfl ?_
          refine r_gr C wf_X12_69_11 dX12_seen_46 (fun q9 => ?_)
          refine r_aload_n C dX12_seen_49 0 rfl ?_
          refine r_gi C wf_X12_379_11 dX12_seen_50 (fun x10 => ?_)
          refine r_iload_n C dX12_seen_53 1 rfl ?_
          refine r_iast C dX12_seen_54 (fun h11 => ?_)
          refine r_aload_n C dX12_seen_55 0 rfl ?_
          refine r_gr C wf_X12_72_11 dX12_seen_56 (fun q12 => ?_)
          refine r_aload_n C dX12_seen_59 0 rfl ?_
          refine r_gi C wf_X12_379_11 dX12_seen_60 (fun x13 => ?_)
          refine r_iload_n C dX12_seen_63 2 rfl ?_
          refine r_iast C dX12_seen_64 (fun h14 => ?_)
          refine r_aload_n C dX12_seen_65 0 rfl ?_
          refine r_gr C wf_X12_75_11 dX12_seen_66 (fun q15 => ?_)
          refine r_aload_n C dX12_seen_69 0 rfl ?_
          refine r_gi C wf_X12_379_11 dX12_seen_70 (fun x16 => ?_)
          refine r_iload_n C dX12_seen_73 3 rfl ?_
          refine r_iast C dX12_seen_74 (fun h17 => ?_)
          refine r_aload_n C dX12_seen_75 0 rfl ?_
          refine r_dup C dX12_seen_76 rfl ?_
          refine r_gi C wf_X12_379_11 dX12_seen_77 (fun x18 => ?_)
          refine r_iconst C dX12_seen_80 k_i1 ?_
          refine r_iadd C dX12_seen_81 ?_
          refine r_pi C wf_X12_379_11 dX12_seen_82 (fun h19 => ?_)
          refine r_aload_n C dX12_seen_85 0 rfl ?_
          refine r_gi C wf_X12_379_11 dX12_seen_86 (fun x20 => ?_)
          exact r_iret C dX12_seen_89
        · refine r_iconst C dX12_seen_43 k_im1 ?_
          exact r_iret C dX12_seen_44
set_option maxRecDepth 100000 in
set_option maxHeartbeats 4000000 in
theorem tcX12_forget (l : Launch) (g : WG) (hg : p_al g = false) (o0 : Nat) (h : PH) : CT l g 1 0 0 yX12_forget cX12_forget 2 (some .int) em_i [p_rf g o0] h (fX12_forget o0 h) := by
  refine CT_of (own := RX12) (nm := "forget") (by decide +kernel) (Nat.le_of_ble_eq_true rfl) rfl rfl rfl ⟨rfl, rfl⟩ (fun K hK C => ?_)
  subst hK
  unfold fX12_forget
  show VX K g _ _ _ _ _ [(0, p_rf g o0)] _ _ _
  refine r_aload_n C dX12_forget_0 0 rfl ?_
  refine r_iconst C dX12_forget_1 k_i0 ?_
  refine r_pi C wf_X12_109_11 dX12_forget_2 (fun h1 => ?_)
  refine r_aload_n C dX12_forget_5 0 rfl ?_
  refine r_gi C wf_X12_379_11 dX12_forget_6 (fun x2 => ?_)
  refine r_istore_n (lv9 := [(1, .int x2), (0, p_rf g o0)]) C dX12_forget_9 (by decide) rfl ?_
  refine r_aload_n C dX12_forget_10 1 rfl ?_
  refine r_iconst C dX12_forget_11 k_i0 ?_
  refine r_pi C wf_X12_379_11 dX12_forget_12 (fun h3 => ?_)
  refine r_iload_n C dX12_forget_15 0 rfl ?_
  exact r_iret C dX12_forget_16
set_option maxRecDepth 100000 in
set_option maxHeartbeats 4000000 in
theorem tX12_isSeen_J65_18 {K : AC} {g : WG} (hg : p_al g = false)  (C : Cx K g cX12_isSeen 5 RX12 (some .boolean) "isSeen" 612 0 0) (o0 : Nat) (i1 : Int32) (i3 : Int32) (i4 : Int32)    {rc : Int32 → PH → Option (Int32 × PH)} {kx : PH → Option (Int32 × PH)} (hr : ∀ (i4' : Int32) (h : PH), VX K g 5 0 0 (a_fin K g 0 0 em_i) 18 [(0, p_rf g o0), (1, .int i1), (3, .int i3), (4, .int i4')] [] h (rc i4' h)) (hk : ∀  (h : PH), VX K g 5 0 0 (a_fin K g 0 0 em_i) 71 [(0, p_rf g o0), (1, .int i1), (3, .int i3)] [] h (kx  h)) (h : PH) : VX K g 5 0 0 (a_fin K g 0 0 em_i) 65 [(0, p_rf g o0), (1, .int i1), (3, .int i3), (4, .int i4)] [] h (fX12_isSeen_J65_18 rc kx o0 i1 i3 i4 h) := by
  unfold fX12_isSeen_J65_18
  refine r_iinc (lv' := [(0, p_rf g o0), (1, .int i1), (3, .int i3)]) C dX12_isSeen_65 3 rfl k_i1 (by decide) (fun _ => rfl) (fun x1 => ?_)
  refine r_goto (tgt := 18) C dX12_isSeen_68 (by decide) ?_
  refine r_perm (lv' := [(0, p_rf g o0), (1, .int i1), (3, .int i3), (4, .int x1)]) [1, 2, 3, 0] rfl ?_
  exact hr x1 h
set_option maxRecDepth 100000 in
set_option maxHeartbeats 4000000 in
theorem tX12_isSeen_L18 {K : AC} {g : WG} (hg : p_al g = false)  (C : Cx K g cX12_isSeen 5 RX12 (some .boolean) "isSeen" 612 0 0) (o0 : Nat) (i1 : Int32) (i3 : Int32) {kx : PH → Option (Int32 × PH)} (hk : ∀  (h : PH), VX K g 5 0 0 (a_fin K g 0 0 em_i) 71 [(0, p_rf g o0), (1, .int i1), (3, .int i3)] [] h (kx h)) : ∀ (n : Nat) (i4 : Int32) (h : PH), VX K g 5 0 0 (a_fin K g 0 0 em_i) 18 [(0, p_rf g o0), (1, .int i1), (3, .int i3), (4, .int i4)] [] h (fX12_isSeen_L18 o0 i1 i3 kx n i4 h) := by
  intro n
  induction n with
  | zero =>
    intros
    exact r_none
  | succ n ih =>
    intro i4 h
    rw [fX12_isSeen_L18]
    refine r_iload C dX12_isSeen_18 3 rfl ?_
    refine r_aload_n C dX12_isSeen_20 0 rfl ?_
    refine r_gi C wf_X12_379_11 dX12_isSeen_21 (fun x1 => ?_)
    refine r_icmp_ge (tgt := 71) C dX12_isSeen_24 (by decide) ?_ ?_
    · refine r_perm (lv' := [(0, p_rf g o0), (1, .int i1), (3, .int i3)]) [0, 1, 2] rfl ?_
      exact hk h
    · refine r_aload_n C dX12_isSeen_27 0 rfl ?_
      refine r_gr C wf_X12_69_11 dX12_isSeen_28 (fun q2 => ?_)
      refine r_iload C dX12_isSeen_31 3 rfl ?_
      refine r_iald C dX12_isSeen_33 (fun x3 => ?_)
      refine r_iload_n C dX12_isSeen_34 2 rfl ?_
      refine r_icmp_ne (tgt := 65) C dX12_isSeen_35 (by decide) ?_ ?_
      · exact tX12_isSeen_J65_18 hg C o0 i1 i3 i4 ih hk h
      · refine r_aload_n C dX12_isSeen_38 0 rfl ?_
        refine r_gr C wf_X12_57_11 dX12_isSeen_39 (fun q4 => ?_)
        refine r_iload_n C dX12_isSeen_42 1 rfl ?_
        refine r_aload_n C dX12_isSeen_43 0 rfl ?_
        refine r_gr C wf_X12_72_11 dX12_isSeen_44 (fun q5 => ?_)
        refine r_iload C dX12_isSeen_47 3 rfl ?_
        refine r_iald C dX12_isSeen_49 (fun x6 => ?_)
        refine r_csi (As := [p_rf g q4, .int i1, .int x6]) (st := []) C ws_X12_232 (tcX12_humour K.2.1 g hg q4 i1 x6 h) (Nat.le_of_ble_eq_true rfl) rfl rfl (Nat.le_of_ble_eq_true rfl) dX12_isSeen_50 ⟨Nat.le_of_ble_eq_true rfl, Nat.le_of_ble_eq_true rfl⟩ (fun x7 h8 => ?_)
        refine r_aload_n C dX12_isSeen_53 0 rfl ?_
        refine r_gr C wf_X12_75_11 dX12_isSeen_54 (fun q9 => ?_)
        refine r_iload C dX12_isSeen_57 3 rfl ?_
        refine r_iald C dX12_isSeen_59 (fun x10 => ?_)
        refine r_icmp_eq (tgt := 65) C dX12_isSeen_60 (by decide) ?_ ?_
        · exact tX12_isSeen_J65_18 hg C o0 i1 i3 i4 ih hk h8
        · refine r_iconst C dX12_isSeen_63 k_i0 ?_
          exact r_zret C dX12_isSeen_64
set_option maxRecDepth 100000 in
set_option maxHeartbeats 4000000 in
theorem tX12_isSeen_L9 {K : AC} {g : WG} (hg : p_al g = false)  (C : Cx K g cX12_isSeen 5 RX12 (some .boolean) "isSeen" 612 0 0) (o0 : Nat) (i1 : Int32) {kx : PH → Option (Int32 × PH)} (hk : ∀  (h : PH), VX K g 5 0 0 (a_fin K g 0 0 em_i) 82 [] [] h (kx h)) : ∀ (n : Nat) (i3 : Int32) (h : PH), VX K g 5 0 0 (a_fin K g 0 0 em_i) 9 [(0, p_rf g o0), (1, .int i1), (3, .int i3)] [] h (fX12_isSeen_L9 o0 i1 kx n i3 h) := by
  intro n
  induction n with
  | zero =>
    intros
    exact r_none
  | succ n ih =>
    intro i3 h
    rw [fX12_isSeen_L9]
    refine r_iload_n C dX12_isSeen_9 2 rfl ?_
    refine r_bipush C dX12_isSeen_10 k_b30 ?_
    refine r_icmp_gt (tgt := 82) C dX12_isSeen_12 (by decide) ?_ ?_
    · refine r_perm (lv' := []) [] rfl ?_
      exact hk h
    · refine r_iconst C dX12_isSeen_15 k_i0 ?_
      refine r_istore (lv9 := [(4, .int (0 : Int32)), (0, p_rf g o0), (1, .int i1), (3, .int i3)]) C dX12_isSeen_16 (by decide) rfl ?_
      refine r_perm (lv' := [(0, p_rf g o0), (1, .int i1), (3, .int i3), (4, .int (0 : Int32))]) [1, 2, 3, 0] rfl ?_
      refine tX12_isSeen_L18 hg C o0 i1 i3 (fun h1 => ?_) FU (0 : Int32) h
      refine r_aload_n C dX12_isSeen_71 0 rfl ?_
      refine r_iload_n C dX12_isSeen_72 1 rfl ?_
      refine r_cvv (As := [.int i1]) (st := []) C wv_X12_351 (tcX12_goAlone K.2.1 g hg o0 i1 h1) (Nat.le_of_ble_eq_true rfl) rfl rfl (Nat.le_of_ble_eq_true rfl) dX12_isSeen_73 ⟨Nat.le_of_ble_eq_true rfl, Nat.le_of_ble_eq_true rfl⟩ (fun h2 => ?_)
      refine r_iinc (lv' := [(0, p_rf g o0), (1, .int i1)]) C dX12_isSeen_76 2 rfl k_i1 (by decide) (fun _ => rfl) (fun x3 => ?_)
      refine r_goto (tgt := 9) C dX12_isSeen_79 (by decide) ?_
      refine r_perm (lv' := [(0, p_rf g o0), (1, .int i1), (3, .int x3)]) [1, 2, 0] rfl ?_
      exact ih x3 h2
set_option maxRecDepth 100000 in
set_option maxHeartbeats 4000000 in
theorem tcX12_isSeen (l : Launch) (g : WG) (hg : p_al g = false) (o0 : Nat) (i1 : Int32) (i2 : Int32) (h : PH) : CT l g 612 0 0 yX12_isSeen cX12_isSeen 5 (some .boolean) em_i [p_rf g o0, .int i1, .int i2] h (fX12_isSeen o0 i1 i2 h) := by
  refine CT_of (own := RX12) (nm := "isSeen") (by decide +kernel) (Nat.le_of_ble_eq_true rfl) rfl rfl rfl ⟨rfl, rfl⟩ (fun K hK C => ?_)
  subst hK
  unfold fX12_isSeen
  show VX K g _ _ _ _ _ [(0, p_rf g o0), (1, .int i1), (2, .int i2)] _ _ _
  refine r_aload_n C dX12_isSeen_0 0 rfl ?_
  refine r_iload_n C dX12_isSeen_1 1 rfl ?_
  refine r_iload_n C dX12_isSeen_2 2 rfl ?_
  refine r_iconst C dX12_isSeen_3 k_i0 ?_
  refine r_cvv (As := [.int i1, .int i2, .int (0 : Int32)]) (st := []) C wv_X12_354 (tcX12_goWith K.2.1 g hg o0 i1 i2 (0 : Int32) h) (Nat.le_of_ble_eq_true rfl) rfl rfl (Nat.le_of_ble_eq_true rfl) dX12_isSeen_4 ⟨Nat.le_of_ble_eq_true rfl, Nat.le_of_ble_eq_true rfl⟩ (fun h1 => ?_)
  refine r_iconst C dX12_isSeen_7 k_i0 ?_
  refine r_istore_n (lv9 := [(3, .int (0 : Int32)), (0, p_rf g o0), (1, .int i1), (2, .int i2)]) C dX12_isSeen_8 (by decide) rfl ?_
  refine r_perm (lv' := [(0, p_rf g o0), (1, .int i1), (3, .int (0 : Int32))]) [1, 2, 0] rfl ?_
  refine tX12_isSeen_L9 hg C o0 i1 (fun h2 => ?_) FU (0 : Int32) h1
  refine r_iconst C dX12_isSeen_82 k_i1 ?_
  exact r_zret C dX12_isSeen_83
set_option maxRecDepth 100000 in
set_option maxHeartbeats 4000000 in
theorem tX12_fitting_J47_4 {K : AC} {g : WG} (hg : p_al g = false)  (C : Cx K g cX12_fitting 4 RX12 (some .int) "fitting" 613 0 0) (o0 : Nat) (i1 : Int32) (i3 : Int32) (s0 : Int32) (s1 : Int32)    {rc : Int32 → Int32 → PH → Option (Int32 × PH)} {kx : Int32 → PH → Option (Int32 × PH)} (hr : ∀ (i2' : Int32) (i3' : Int32) (h : PH), VX K g 4 0 0 (a_fin K g 0 0 em_i) 4 [(0, p_rf g o0), (1, .int i1), (2, .int i2'), (3, .int i3')] [] h (rc i2' i3' h)) (hk : ∀ (i2' : Int32) (h : PH), VX K g 4 0 0 (a_fin K g 0 0 em_i) 55 [(2, .int i2')] [] h (kx i2' h)) (h : PH) : VX K g 4 0 0 (a_fin K g 0 0 em_i) 47 [(0, p_rf g o0), (1, .int i1), (3, .int i3)] [.int s0, .int s1] h (fX12_fitting_J47_4 rc kx o0 i1 i3 s0 s1 h) := by
  unfold fX12_fitting_J47_4
  refine r_ior C dX12_fitting_47 ?_
  refine r_topi (fun x1 => ?_)
  refine r_istore_n (lv9 := [(2, .int x1), (0, p_rf g o0), (1, .int i1), (3, .int i3)]) C dX12_fitting_48 (by decide) rfl ?_
  refine r_iinc (lv' := [(2, .int x1), (0, p_rf g o0), (1, .int i1)]) C dX12_fitting_49 3 rfl k_i1 (by decide) (fun _ => rfl) (fun x2 => ?_)
  refine r_goto (tgt := 4) C dX12_fitting_52 (by decide) ?_
  refine r_perm (lv' := [(0, p_rf g o0), (1, .int i1), (2, .int x1), (3, .int x2)]) [2, 3, 1, 0] rfl ?_
  exact hr x1 x2 h
set_option maxRecDepth 100000 in
set_option maxHeartbeats 4000000 in
theorem tX12_fitting_J46_4 {K : AC} {g : WG} (hg : p_al g = false)  (C : Cx K g cX12_fitting 4 RX12 (some .int) "fitting" 613 0 0) (o0 : Nat) (i1 : Int32) (i3 : Int32) (s0 : Int32)    {rc : Int32 → Int32 → PH → Option (Int32 × PH)} {kx : Int32 → PH → Option (Int32 × PH)} (hr : ∀ (i2' : Int32) (i3' : Int32) (h : PH), VX K g 4 0 0 (a_fin K g 0 0 em_i) 4 [(0, p_rf g o0), (1, .int i1), (2, .int i2'), (3, .int i3')] [] h (rc i2' i3' h)) (hk : ∀ (i2' : Int32) (h : PH), VX K g 4 0 0 (a_fin K g 0 0 em_i) 55 [(2, .int i2')] [] h (kx i2' h)) (h : PH) : VX K g 4 0 0 (a_fin K g 0 0 em_i) 46 [(0, p_rf g o0), (1, .int i1), (3, .int i3)] [.int s0] h (fX12_fitting_J46_4 rc kx o0 i1 i3 s0 h) := by
  unfold fX12_fitting_J46_4
  refine r_iconst C dX12_fitting_46 k_i0 ?_
  exact tX12_fitting_J47_4 hg C o0 i1 i3 (0 : Int32) s0 hr hk h
set_option maxRecDepth 100000 in
set_option maxHeartbeats 4000000 in
theorem tX12_fitting_L4 {K : AC} {g : WG} (hg : p_al g = false)  (C : Cx K g cX12_fitting 4 RX12 (some .int) "fitting" 613 0 0) (o0 : Nat) (i1 : Int32) {kx : Int32 → PH → Option (Int32 × PH)} (hk : ∀ (i2 : Int32) (h : PH), VX K g 4 0 0 (a_fin K g 0 0 em_i) 55 [(2, .int i2)] [] h (kx i2 h)) : ∀ (n : Nat) (i2 : Int32) (i3 : Int32) (h : PH), VX K g 4 0 0 (a_fin K g 0 0 em_i) 4 [(0, p_rf g o0), (1, .int i1), (2, .int i2), (3, .int i3)] [] h (fX12_fitting_L4 o0 i1 kx n i2 i3 h) := by
  intro n
  induction n with
  | zero =>
    intros
    exact r_none
  | succ n ih =>
    intro i2 i3 h
    rw [fX12_fitting_L4]
    refine r_iload_n C dX12_fitting_4 3 rfl ?_
    refine r_aload_n C dX12_fitting_5 0 rfl ?_
    refine r_gi C wf_X12_116_11 dX12_fitting_6 (fun x1 => ?_)
    refine r_icmp_ge (tgt := 55) C dX12_fitting_9 (by decide) ?_ ?_
    · refine r_perm (lv' := [(2, .int i2)]) [2] rfl ?_
      exact hk i2 h
    · refine r_iload_n C dX12_fitting_12 2 rfl ?_
      refine r_aload_n C dX12_fitting_13 0 rfl ?_
      refine r_gr C wf_X12_9_11 dX12_fitting_14 (fun q2 => ?_)
      refine r_bipush C dX12_fitting_17 k_b32 ?_
      refine r_iload_n C dX12_fitting_19 1 rfl ?_
      refine r_iadd C dX12_fitting_20 ?_
      refine r_iald C dX12_fitting_21 (fun x3 => ?_)
      refine r_iload_n C dX12_fitting_22 3 rfl ?_
      refine r_csi (As := [.int x3, .int i3]) (st := [.int i2]) C ws_X12_265 (tcX12_has K.2.1 g hg x3 i3 h) (Nat.le_of_ble_eq_true rfl) rfl rfl (Nat.le_of_ble_eq_true rfl) dX12_fitting_23 ⟨Nat.le_of_ble_eq_true rfl, Nat.le_of_ble_eq_true rfl⟩ (fun x4 h5 => ?_)
      refine r_if_ne (tgt := 46) C dX12_fitting_26 (by decide) ?_ ?_
      · refine r_perm (lv' := [(0, p_rf g o0), (1, .int i1), (3, .int i3)]) [0, 1, 3] rfl ?_
        exact tX12_fitting_J46_4 hg C o0 i1 i3 i2 ih hk h5
      · refine r_aload_n C dX12_fitting_29 0 rfl ?_
        refine r_iload_n C dX12_fitting_30 1 rfl ?_
        refine r_iconst C dX12_fitting_31 k_i1 ?_
        refine r_iload_n C dX12_fitting_32 3 rfl ?_
        refine r_ishl C dX12_fitting_33 ?_
        refine r_cvi (As := [.int i1, .int ((1 : Int32) <<< (i3 &&& 31))]) (st := [.int i2]) C wv_X12_382 (tcX12_isSeen K.2.1 g hg o0 i1 ((1 : Int32) <<< (i3 &&& 31)) h5) (Nat.le_of_ble_eq_true rfl) rfl rfl (Nat.le_of_ble_eq_true rfl) dX12_fitting_34 ⟨Nat.le_of_ble_eq_true rfl, Nat.le_of_ble_eq_true rfl⟩ (fun x6 h7 => ?_)
        refine r_if_eq (tgt := 46) C dX12_fitting_37 (by decide) ?_ ?_
        · refine r_perm (lv' := [(0, p_rf g o0), (1, .int i1), (3, .int i3)]) [0, 1, 3] rfl ?_
          exact tX12_fitting_J46_4 hg C o0 i1 i3 i2 ih hk h7
        · refine r_iconst C dX12_fitting_40 k_i1 ?_
          refine r_iload_n C dX12_fitting_41 3 rfl ?_
          refine r_ishl C dX12_fitting_42 ?_
          refine r_goto (tgt := 47) C dX12_fitting_43 (by decide) ?_
          refine r_perm (lv' := [(0, p_rf g o0), (1, .int i1), (3, .int i3)]) [0, 1, 3] rfl ?_
          exact tX12_fitting_J47_4 hg C o0 i1 i3 ((1 : Int32) <<< (i3 &&& 31)) i2 ih hk h7
set_option maxRecDepth 100000 in
set_option maxHeartbeats 4000000 in
theorem tcX12_fitting (l : Launch) (g : WG) (hg : p_al g = false) (o0 : Nat) (i1 : Int32) (h : PH) : CT l g 613 0 0 yX12_fitting cX12_fitting 4 (some .int) em_i [p_rf g o0, .int i1] h (fX12_fitting o0 i1 h) := by
  refine CT_of (own := RX12) (nm := "fitting") (by decide +kernel) (Nat.le_of_ble_eq_true rfl) rfl rfl rfl ⟨rfl, rfl⟩ (fun K hK C => ?_)
  subst hK
  unfold fX12_fitting
  show VX K g _ _ _ _ _ [(0, p_rf g o0), (1, .int i1)] _ _ _
  refine r_iconst C dX12_fitting_0 k_i0 ?_
  refine r_istore_n (lv9 := [(2, .int (0 : Int32)), (0, p_rf g o0), (1, .int i1)]) C dX12_fitting_1 (by decide) rfl ?_
  refine r_iconst C dX12_fitting_2 k_i0 ?_
  refine r_istore_n (lv9 := [(3, .int (0 : Int32)), (2, .int (0 : Int32)), (0, p_rf g o0), (1, .int i1)]) C dX12_fitting_3 (by decide) rfl ?_
  refine r_perm (lv' := [(0, p_rf g o0), (1, .int i1), (2, .int (0 : Int32)), (3, .int (0 : Int32))]) [2, 3, 1, 0] rfl ?_
  refine tX12_fitting_L4 hg C o0 i1 (fun x1 h2 => ?_) FU (0 : Int32) (0 : Int32) h
  refine r_iload_n C dX12_fitting_55 0 rfl ?_
  exact r_iret C dX12_fitting_56
set_option maxRecDepth 100000 in
set_option maxHeartbeats 4000000 in
theorem tX12_fits_J50 {K : AC} {g : WG} (hg : p_al g = false)  (C : Cx K g cX12_fits 3 RX12 (some .int) "fits" 614 0 0) (i2 : Int32) (s0 : Int64) (s1 : Nat)  (h : PH) : VX K g 3 0 0 (a_fin K g 0 0 em_i) 50 [(2, .int i2)] [.long s0, p_rf g s1] h (fX12_fits_J50 i2 s0 s1 h) := by
  unfold fX12_fits_J50
  refine r_cvv (As := [.long s0]) (st := []) C wv_X12_329 (tcX12_tell K.2.1 g hg s1 s0 h) (Nat.le_of_ble_eq_true rfl) rfl rfl (Nat.le_of_ble_eq_true rfl) dX12_fits_50 ⟨Nat.le_of_ble_eq_true rfl, Nat.le_of_ble_eq_true rfl⟩ (fun h1 => ?_)
  refine r_iload_n C dX12_fits_53 0 rfl ?_
  exact r_iret C dX12_fits_54
set_option maxRecDepth 100000 in
set_option maxHeartbeats 4000000 in
theorem tcX12_fits (l : Launch) (g : WG) (hg : p_al g = false) (o0 : Nat) (i1 : Int32) (h : PH) : CT l g 614 0 0 yX12_fits cX12_fits 3 (some .int) em_i [p_rf g o0, .int i1] h (fX12_fits o0 i1 h) := by
  refine CT_of (own := RX12) (nm := "fits") (by decide +kernel) (Nat.le_of_ble_eq_true rfl) rfl rfl rfl ⟨rfl, rfl⟩ (fun K hK C => ?_)
  subst hK
  unfold fX12_fits
  show VX K g _ _ _ _ _ [(0, p_rf g o0), (1, .int i1)] _ _ _
  refine r_aload_n C dX12_fits_0 0 rfl ?_
  refine r_iconst C dX12_fits_1 k_i0 ?_
  refine r_pi C wf_X12_109_11 dX12_fits_2 (fun h1 => ?_)
  refine r_aload_n C dX12_fits_5 0 rfl ?_
  refine r_iload_n C dX12_fits_6 1 rfl ?_
  refine r_cvi (As := [.int i1]) (st := []) C wv_X12_278 (tcX12_isMan K.2.1 g hg o0 i1 h1) (Nat.le_of_ble_eq_true rfl) rfl rfl (Nat.le_of_ble_eq_true rfl) dX12_fits_7 ⟨Nat.le_of_ble_eq_true rfl, Nat.le_of_ble_eq_true rfl⟩ (fun x2 h3 => ?_)
  refine r_if_ne (tgt := 15) C dX12_fits_10 (by decide) ?_ ?_
  · refine r_aload_n C dX12_fits_15 0 rfl ?_
    refine r_iload_n C dX12_fits_16 1 rfl ?_
    refine r_cvi (As := [.int i1]) (st := []) C wv_X12_385 (tcX12_fitting K.2.1 g hg o0 i1 h3) (Nat.le_of_ble_eq_true rfl) rfl rfl (Nat.le_of_ble_eq_true rfl) dX12_fits_17 ⟨Nat.le_of_ble_eq_true rfl, Nat.le_of_ble_eq_true rfl⟩ (fun x4 h5 => ?_)
    refine r_istore_n (lv9 := [(2, .int x4), (0, p_rf g o0), (1, .int i1)]) C dX12_fits_20 (by decide) rfl ?_
    refine r_aload_n C dX12_fits_21 1 rfl ?_
    refine r_iconst C dX12_fits_22 k_i0 ?_
    refine r_pi C wf_X12_113_11 dX12_fits_23 (fun h6 => ?_)
    refine r_aload_n C dX12_fits_26 1 rfl ?_
    refine r_iload_n C dX12_fits_27 0 rfl ?_
    refine r_csi (As := [.int x4]) (st := [p_rf g o0]) C ws_X12_242 (tcJ6_bitCount_0f7a4 K.2.1 g hg x4 h6) (Nat.le_of_ble_eq_true rfl) rfl rfl (Nat.le_of_ble_eq_true rfl) dX12_fits_28 ⟨Nat.le_of_ble_eq_true rfl, Nat.le_of_ble_eq_true rfl⟩ (fun x7 h8 => ?_)
    refine r_i2l C dX12_fits_31 ?_
    refine r_cvv (As := [.long (x7.toInt64)]) (st := []) C wv_X12_329 (tcX12_tell K.2.1 g hg o0 (x7.toInt64) h8) (Nat.le_of_ble_eq_true rfl) rfl rfl (Nat.le_of_ble_eq_true rfl) dX12_fits_32 ⟨Nat.le_of_ble_eq_true rfl, Nat.le_of_ble_eq_true rfl⟩ (fun h9 => ?_)
    refine r_aload_n C dX12_fits_35 1 rfl ?_
    refine r_aload_n C dX12_fits_36 1 rfl ?_
    refine r_iload_n C dX12_fits_37 2 rfl ?_
    refine r_iconst C dX12_fits_38 k_i0 ?_
    refine r_cvi (As := [.int i1, .int (0 : Int32)]) (st := [p_rf g o0]) C wv_X12_382 (tcX12_isSeen K.2.1 g hg o0 i1 (0 : Int32) h9) (Nat.le_of_ble_eq_true rfl) rfl rfl (Nat.le_of_ble_eq_true rfl) dX12_fits_39 ⟨Nat.le_of_ble_eq_true rfl, Nat.le_of_ble_eq_true rfl⟩ (fun x10 h11 => ?_)
    refine r_if_eq (tgt := 49) C dX12_fits_42 (by decide) ?_ ?_
    · refine r_lconst (v := (0 : Int64)) C dX12_fits_49 (by decide) ?_
      refine r_perm (lv' := [(2, .int x4)]) [0] rfl ?_
      exact tX12_fits_J50 hg C x4 (0 : Int64) o0 h11
    · refine r_lconst (v := (1 : Int64)) C dX12_fits_45 (by decide) ?_
      refine r_goto (tgt := 50) C dX12_fits_46 (by decide) ?_
      refine r_perm (lv' := [(2, .int x4)]) [0] rfl ?_
      exact tX12_fits_J50 hg C x4 (1 : Int64) o0 h11
  · refine r_iconst C dX12_fits_13 k_im1 ?_
    exact r_iret C dX12_fits_14
set_option maxRecDepth 100000 in
set_option maxHeartbeats 4000000 in
theorem tX12_looks_L75 {K : AC} {g : WG} (hg : p_al g = false)  (C : Cx K g cX12_looks 9 RX12 (some .int) "looks" 614 0 0) (o0 : Nat) (i1 : Int32) (i2 : Int32) (i3 : Int32) (i4 : Int32) {kx : PH → Option (Int32 × PH)} (hk : ∀  (h : PH), VX K g 9 0 0 (a_fin K g 0 0 em_i) 109 [(0, p_rf g o0), (1, .int i1), (2, .int i2), (3, .int i3), (4, .int i4)] [] h (kx h)) : ∀ (n : Nat) (i5 : Int32) (h : PH), VX K g 9 0 0 (a_fin K g 0 0 em_i) 75 [(0, p_rf g o0), (1, .int i1), (2, .int i2), (3, .int i3), (4, .int i4), (5, .int i5)] [] h (fX12_looks_L75 o0 i1 i2 i3 i4 kx n i5 h) := by
  intro n
  induction n with
  | zero =>
    intros
    exact r_none
  | succ n ih =>
    intro i5 h
    rw [fX12_looks_L75]
    refine r_iload C dX12_looks_75 5 rfl ?_
    refine r_iconst C dX12_looks_77 k_i4 ?_
    refine r_icmp_ge (tgt := 109) C dX12_looks_78 (by decide) ?_ ?_
    · refine r_perm (lv' := [(0, p_rf g o0), (1, .int i1), (2, .int i2), (3, .int i3), (4, .int i4)]) [0, 1, 2, 3, 4] rfl ?_
      exact hk h
    · refine r_aload_n C dX12_looks_81 0 rfl ?_
      refine r_gr C wf_X12_78_11 dX12_looks_82 (fun q1 => ?_)
      refine r_iconst C dX12_looks_85 k_i4 ?_
      refine r_iload C dX12_looks_86 4 rfl ?_
      refine r_imul C dX12_looks_88 ?_
      refine r_iload C dX12_looks_89 5 rfl ?_
      refine r_iadd C dX12_looks_91 ?_
      refine r_aload_n C dX12_looks_92 0 rfl ?_
      refine r_gr C wf_X12_57_11 dX12_looks_93 (fun q2 => ?_)
      refine r_iload_n C dX12_looks_96 1 rfl ?_
      refine r_iload C dX12_looks_97 5 rfl ?_
      refine r_csi (As := [p_rf g q2, .int i1, .int i5]) (st := [.int (((4 : Int32) * i4) + i5), p_rf g q1]) C ws_X12_232 (tcX12_humour K.2.1 g hg q2 i1 i5 h) (Nat.le_of_ble_eq_true rfl) rfl rfl (Nat.le_of_ble_eq_true rfl) dX12_looks_99 ⟨Nat.le_of_ble_eq_true rfl, Nat.le_of_ble_eq_true rfl⟩ (fun x3 h4 => ?_)
      refine r_iast C dX12_looks_102 (fun h5 => ?_)
      refine r_iinc (lv' := [(0, p_rf g o0), (1, .int i1), (2, .int i2), (3, .int i3), (4, .int i4)]) C dX12_looks_103 5 rfl k_i1 (by decide) (fun _ => rfl) (fun x6 => ?_)
      refine r_goto (tgt := 75) C dX12_looks_106 (by decide) ?_
      refine r_perm (lv' := [(0, p_rf g o0), (1, .int i1), (2, .int i2), (3, .int i3), (4, .int i4), (5, .int x6)]) [1, 2, 3, 4, 5, 0] rfl ?_
      exact ih x6 h5
set_option maxRecDepth 100000 in
set_option maxHeartbeats 4000000 in
theorem tX12_looks_J109_41 {K : AC} {g : WG} (hg : p_al g = false)  (C : Cx K g cX12_looks 9 RX12 (some .int) "looks" 614 0 0) (o0 : Nat) (i1 : Int32) (i2 : Int32) (i3 : Int32) (i4 : Int32)    {rc : Int32 → PH → Option (Int32 × PH)} {kx : PH → Option (Int32 × PH)} (hr : ∀ (i4' : Int32) (h : PH), VX K g 9 0 0 (a_fin K g 0 0 em_i) 41 [(0, p_rf g o0), (1, .int i1), (2, .int i2), (3, .int i3), (4, .int i4')] [] h (rc i4' h)) (hk : ∀  (h : PH), VX K g 9 0 0 (a_fin K g 0 0 em_i) 115 [(0, p_rf g o0), (3, .int i3)] [] h (kx  h)) (h : PH) : VX K g 9 0 0 (a_fin K g 0 0 em_i) 109 [(0, p_rf g o0), (1, .int i1), (2, .int i2), (3, .int i3), (4, .int i4)] [] h (fX12_looks_J109_41 rc kx o0 i1 i2 i3 i4 h) := by
  unfold fX12_looks_J109_41
  refine r_iinc (lv' := [(0, p_rf g o0), (1, .int i1), (2, .int i2), (3, .int i3)]) C dX12_looks_109 4 rfl k_i1 (by decide) (fun _ => rfl) (fun x1 => ?_)
  refine r_goto (tgt := 41) C dX12_looks_112 (by decide) ?_
  refine r_perm (lv' := [(0, p_rf g o0), (1, .int i1), (2, .int i2), (3, .int i3), (4, .int x1)]) [1, 2, 3, 4, 0] rfl ?_
  exact hr x1 h
set_option maxRecDepth 100000 in
set_option maxHeartbeats 4000000 in
theorem tX12_looks_L41 {K : AC} {g : WG} (hg : p_al g = false)  (C : Cx K g cX12_looks 9 RX12 (some .int) "looks" 614 0 0) (o0 : Nat) (i1 : Int32) (i2 : Int32) (i3 : Int32) {kx : PH → Option (Int32 × PH)} (hk : ∀  (h : PH), VX K g 9 0 0 (a_fin K g 0 0 em_i) 115 [(0, p_rf g o0), (3, .int i3)] [] h (kx h)) : ∀ (n : Nat) (i4 : Int32) (h : PH), VX K g 9 0 0 (a_fin K g 0 0 em_i) 41 [(0, p_rf g o0), (1, .int i1), (2, .int i2), (3, .int i3), (4, .int i4)] [] h (fX12_looks_L41 o0 i1 i2 i3 kx n i4 h) := by
  intro n
  induction n with
  | zero =>
    intros
    exact r_none
  | succ n ih =>
    intro i4 h
    rw [fX12_looks_L41]
    refine r_iload C dX12_looks_41 4 rfl ?_
    refine r_aload_n C dX12_looks_43 0 rfl ?_
    refine r_gi C wf_X12_116_11 dX12_looks_44 (fun x1 => ?_)
    refine r_icmp_ge (tgt := 115) C dX12_looks_47 (by decide) ?_ ?_
    · refine r_perm (lv' := [(0, p_rf g o0), (3, .int i3)]) [0, 3] rfl ?_
      exact hk h
    · refine r_iload_n C dX12_looks_50 3 rfl ?_
      refine r_iload C dX12_looks_51 4 rfl ?_
      refine r_csi (As := [.int i3, .int i4]) (st := []) C ws_X12_265 (tcX12_has K.2.1 g hg i3 i4 h) (Nat.le_of_ble_eq_true rfl) rfl rfl (Nat.le_of_ble_eq_true rfl) dX12_looks_53 ⟨Nat.le_of_ble_eq_true rfl, Nat.le_of_ble_eq_true rfl⟩ (fun x2 h3 => ?_)
      refine r_if_ne (tgt := 62) C dX12_looks_56 (by decide) ?_ ?_
      · refine r_aload_n C dX12_looks_62 0 rfl ?_
        refine r_iload_n C dX12_looks_63 1 rfl ?_
        refine r_iconst C dX12_looks_64 k_i1 ?_
        refine r_iload C dX12_looks_65 4 rfl ?_
        refine r_ishl C dX12_looks_67 ?_
        refine r_iload_n C dX12_looks_68 2 rfl ?_
        refine r_cvv (As := [.int i1, .int ((1 : Int32) <<< (i4 &&& 31)), .int i2]) (st := []) C wv_X12_354 (tcX12_goWith K.2.1 g hg o0 i1 ((1 : Int32) <<< (i4 &&& 31)) i2 h3) (Nat.le_of_ble_eq_true rfl) rfl rfl (Nat.le_of_ble_eq_true rfl) dX12_looks_69 ⟨Nat.le_of_ble_eq_true rfl, Nat.le_of_ble_eq_true rfl⟩ (fun h4 => ?_)
        refine r_iconst C dX12_looks_72 k_i0 ?_
        refine r_istore (lv9 := [(5, .int (0 : Int32)), (0, p_rf g o0), (1, .int i1), (2, .int i2), (3, .int i3), (4, .int i4)]) C dX12_looks_73 (by decide) rfl ?_
        refine r_perm (lv' := [(0, p_rf g o0), (1, .int i1), (2, .int i2), (3, .int i3), (4, .int i4), (5, .int (0 : Int32))]) [1, 2, 3, 4, 5, 0] rfl ?_
        refine tX12_looks_L75 hg C o0 i1 i2 i3 i4 (fun h5 => ?_) FU (0 : Int32) h4
        exact tX12_looks_J109_41 hg C o0 i1 i2 i3 i4 ih hk h5
      · refine r_goto (tgt := 109) C dX12_looks_59 (by decide) ?_
        exact tX12_looks_J109_41 hg C o0 i1 i2 i3 i4 ih hk h3
set_option maxRecDepth 100000 in
set_option maxHeartbeats 4000000 in
theorem tX12_looks_L138 {K : AC} {g : WG} (hg : p_al g = false)  (C : Cx K g cX12_looks 9 RX12 (some .int) "looks" 614 0 0) (o0 : Nat) (i3 : Int32) (i4 : Int32) (i5 : Int32) (i6 : Int32) (i7 : Int32) {kx : PH → Option (Int32 × PH)} (hk : ∀  (h : PH), VX K g 9 0 0 (a_fin K g 0 0 em_i) 159 [(0, p_rf g o0), (3, .int i3), (4, .int i4), (5, .int i5), (6, .int i6), (7, .int i7)] [] h (kx h)) : ∀ (n : Nat) (i8 : Int32) (h : PH), VX K g 9 0 0 (a_fin K g 0 0 em_i) 138 [(0, p_rf g o0), (3, .int i3), (4, .int i4), (5, .int i5), (6, .int i6), (7, .int i7), (8, .int i8)] [] h (fX12_looks_L138 o0 i3 i4 i5 i6 i7 kx n i8 h) := by
  intro n
  induction n with
  | zero =>
    intros
    exact r_none
  | succ n ih =>
    intro i8 h
    rw [fX12_looks_L138]
    refine r_iload C dX12_looks_138 6 rfl ?_
    refine r_bipush C dX12_looks_140 k_b9 ?_
    refine r_icmp_gt (tgt := 159) C dX12_looks_142 (by decide) ?_ ?_
    · refine r_perm (lv' := [(0, p_rf g o0), (3, .int i3), (4, .int i4), (5, .int i5), (6, .int i6), (7, .int i7)]) [0, 1, 2, 3, 4, 5] rfl ?_
      exact hk h
    · refine r_aload_n C dX12_looks_145 0 rfl ?_
      refine r_gr C wf_X12_81_11 dX12_looks_146 (fun q1 => ?_)
      refine r_iload C dX12_looks_149 6 rfl ?_
      refine r_iconst C dX12_looks_151 k_i0 ?_
      refine r_iast C dX12_looks_152 (fun h2 => ?_)
      refine r_iinc (lv' := [(0, p_rf g o0), (3, .int i3), (4, .int i4), (5, .int i5), (6, .int i6), (7, .int i7)]) C dX12_looks_153 6 rfl k_i1 (by decide) (fun _ => rfl) (fun x3 => ?_)
      refine r_goto (tgt := 138) C dX12_looks_156 (by decide) ?_
      refine r_perm (lv' := [(0, p_rf g o0), (3, .int i3), (4, .int i4), (5, .int i5), (6, .int i6), (7, .int i7), (8, .int x3)]) [1, 2, 3, 4, 5, 6, 0] rfl ?_
      exact ih x3 h2
set_option maxRecDepth 100000 in
set_option maxHeartbeats 4000000 in
theorem tX12_looks_J228_162 {K : AC} {g : WG} (hg : p_al g = false)  (C : Cx K g cX12_looks 9 RX12 (some .int) "looks" 614 0 0) (o0 : Nat) (i3 : Int32) (i4 : Int32) (i5 : Int32) (i6 : Int32) (i7 : Int32) (i8 : Int32)    {rc : Int32 → Int32 → PH → Option (Int32 × PH)} {kx : Int32 → PH → Option (Int32 × PH)} (hr : ∀ (i7' : Int32) (i8' : Int32) (h : PH), VX K g 9 0 0 (a_fin K g 0 0 em_i) 162 [(0, p_rf g o0), (3, .int i3), (4, .int i4), (5, .int i5), (6, .int i6), (7, .int i7'), (8, .int i8')] [] h (rc i7' i8' h)) (hk : ∀ (i7' : Int32) (h : PH), VX K g 9 0 0 (a_fin K g 0 0 em_i) 234 [(0, p_rf g o0), (3, .int i3), (4, .int i4), (5, .int i5), (6, .int i6), (7, .int i7')] [] h (kx i7' h)) (h : PH) : VX K g 9 0 0 (a_fin K g 0 0 em_i) 228 [(0, p_rf g o0), (3, .int i3), (4, .int i4), (5, .int i5), (6, .int i6), (7, .int i7), (8, .int i8)] [] h (fX12_looks_J228_162 rc kx o0 i3 i4 i5 i6 i7 i8 h) := by
  unfold fX12_looks_J228_162
  refine r_iinc (lv' := [(0, p_rf g o0), (3, .int i3), (4, .int i4), (5, .int i5), (6, .int i6), (7, .int i7)]) C dX12_looks_228 6 rfl k_i1 (by decide) (fun _ => rfl) (fun x1 => ?_)
  refine r_goto (tgt := 162) C dX12_looks_231 (by decide) ?_
  refine r_perm (lv' := [(0, p_rf g o0), (3, .int i3), (4, .int i4), (5, .int i5), (6, .int i6), (7, .int i7), (8, .int x1)]) [1, 2, 3, 4, 5, 6, 0] rfl ?_
  exact hr i7 x1 h
set_option maxRecDepth 100000 in
set_option maxHeartbeats 4000000 in
theorem tX12_looks_L162 {K : AC} {g : WG} (hg : p_al g = false)  (C : Cx K g cX12_looks 9 RX12 (some .int) "looks" 614 0 0) (o0 : Nat) (i3 : Int32) (i4 : Int32) (i5 : Int32) (i6 : Int32) {kx : Int32 → PH → Option (Int32 × PH)} (hk : ∀ (i7 : Int32) (h : PH), VX K g 9 0 0 (a_fin K g 0 0 em_i) 234 [(0, p_rf g o0), (3, .int i3), (4, .int i4), (5, .int i5), (6, .int i6), (7, .int i7)] [] h (kx i7 h)) : ∀ (n : Nat) (i7 : Int32) (i8 : Int32) (h : PH), VX K g 9 0 0 (a_fin K g 0 0 em_i) 162 [(0, p_rf g o0), (3, .int i3), (4, .int i4), (5, .int i5), (6, .int i6), (7, .int i7), (8, .int i8)] [] h (fX12_looks_L162 o0 i3 i4 i5 i6 kx n i7 i8 h) := by
  intro n
  induction n with
  | zero =>
    intros
    exact r_none
  | succ n ih =>
    intro i7 i8 h
    rw [fX12_looks_L162]
    refine r_iload C dX12_looks_162 6 rfl ?_
    refine r_aload_n C dX12_looks_164 0 rfl ?_
    refine r_gi C wf_X12_116_11 dX12_looks_165 (fun x1 => ?_)
    refine r_icmp_ge (tgt := 234) C dX12_looks_168 (by decide) ?_ ?_
    · refine r_perm (lv' := [(0, p_rf g o0), (3, .int i3), (4, .int i4), (5, .int i5), (6, .int i6), (7, .int i7)]) [0, 1, 2, 3, 4, 5] rfl ?_
      exact hk i7 h
    · refine r_iload_n C dX12_looks_171 1 rfl ?_
      refine r_iload C dX12_looks_172 6 rfl ?_
      refine r_csi (As := [.int i3, .int i8]) (st := []) C ws_X12_265 (tcX12_has K.2.1 g hg i3 i8 h) (Nat.le_of_ble_eq_true rfl) rfl rfl (Nat.le_of_ble_eq_true rfl) dX12_looks_174 ⟨Nat.le_of_ble_eq_true rfl, Nat.le_of_ble_eq_true rfl⟩ (fun x2 h3 => ?_)
      refine r_if_ne (tgt := 183) C dX12_looks_177 (by decide) ?_ ?_
      · refine r_aload_n C dX12_looks_183 0 rfl ?_
        refine r_gr C wf_X12_81_11 dX12_looks_184 (fun q4 => ?_)
        refine r_aload_n C dX12_looks_187 0 rfl ?_
        refine r_gr C wf_X12_78_11 dX12_looks_188 (fun q5 => ?_)
        refine r_iconst C dX12_looks_191 k_i4 ?_
        refine r_iload C dX12_looks_192 6 rfl ?_
        refine r_imul C dX12_looks_194 ?_
        refine r_iload C dX12_looks_195 4 rfl ?_
        refine r_iadd C dX12_looks_197 ?_
        refine r_iald C dX12_looks_198 (fun x6 => ?_)
        refine r_dup2 C dX12_looks_199 rfl rfl ?_
        refine r_iald C dX12_looks_200 (fun x7 => ?_)
        refine r_iconst C dX12_looks_201 k_i1 ?_
        refine r_iadd C dX12_looks_202 ?_
        refine r_iast C dX12_looks_203 (fun h8 => ?_)
        refine r_iload C dX12_looks_204 5 rfl ?_
        refine r_aload_n C dX12_looks_206 0 rfl ?_
        refine r_gr C wf_X12_81_11 dX12_looks_207 (fun q9 => ?_)
        refine r_aload_n C dX12_looks_210 0 rfl ?_
        refine r_gr C wf_X12_78_11 dX12_looks_211 (fun q10 => ?_)
        refine r_iconst C dX12_looks_214 k_i4 ?_
        refine r_iload C dX12_looks_215 6 rfl ?_
        refine r_imul C dX12_looks_217 ?_
        refine r_iload C dX12_looks_218 4 rfl ?_
        refine r_iadd C dX12_looks_220 ?_
        refine r_iald C dX12_looks_221 (fun x11 => ?_)
        refine r_iald C dX12_looks_222 (fun x12 => ?_)
        refine r_max C wm_X12_250 (Nat.le_of_ble_eq_true rfl) (Nat.le_of_ble_eq_true rfl) ⟨Nat.le_of_ble_eq_true rfl, Nat.le_of_ble_eq_true rfl⟩ dX12_looks_223 ?_
        refine r_topi (fun x13 => ?_)
        refine r_istore (lv9 := [(7, .int x13), (0, p_rf g o0), (3, .int i3), (4, .int i4), (5, .int i5), (6, .int i6), (8, .int i8)]) C dX12_looks_226 (by decide) rfl ?_
        refine r_perm (lv' := [(0, p_rf g o0), (3, .int i3), (4, .int i4), (5, .int i5), (6, .int i6), (7, .int x13), (8, .int i8)]) [1, 2, 3, 4, 5, 0, 6] rfl ?_
        exact tX12_looks_J228_162 hg C o0 i3 i4 i5 i6 x13 i8 ih hk h8
      · refine r_goto (tgt := 228) C dX12_looks_180 (by decide) ?_
        exact tX12_looks_J228_162 hg C o0 i3 i4 i5 i6 i7 i8 ih hk h3
set_option maxRecDepth 100000 in
set_option maxHeartbeats 4000000 in
theorem tX12_looks_J252_126 {K : AC} {g : WG} (hg : p_al g = false)  (C : Cx K g cX12_looks 9 RX12 (some .int) "looks" 614 0 0) (o0 : Nat) (i3 : Int32) (i4 : Int32) (i5 : Int32) (i6 : Int32)    {rc : Int32 → Int32 → Int32 → PH → Option (Int32 × PH)} {kx : Int32 → Int32 → PH → Option (Int32 × PH)} (hr : ∀ (i4' : Int32) (i5' : Int32) (i6' : Int32) (h : PH), VX K g 9 0 0 (a_fin K g 0 0 em_i) 126 [(0, p_rf g o0), (3, .int i3), (4, .int i4'), (5, .int i5'), (6, .int i6')] [] h (rc i4' i5' i6' h)) (hk : ∀ (i4' : Int32) (i5' : Int32) (h : PH), VX K g 9 0 0 (a_fin K g 0 0 em_i) 258 [(0, p_rf g o0), (4, .int i4'), (5, .int i5')] [] h (kx i4' i5' h)) (h : PH) : VX K g 9 0 0 (a_fin K g 0 0 em_i) 252 [(0, p_rf g o0), (3, .int i3), (4, .int i4), (5, .int i5), (6, .int i6)] [] h (fX12_looks_J252_126 rc kx o0 i3 i4 i5 i6 h) := by
  unfold fX12_looks_J252_126
  refine r_iinc (lv' := [(0, p_rf g o0), (3, .int i3), (4, .int i4), (5, .int i5)]) C dX12_looks_252 4 rfl k_i1 (by decide) (fun _ => rfl) (fun x1 => ?_)
  refine r_goto (tgt := 126) C dX12_looks_255 (by decide) ?_
  refine r_perm (lv' := [(0, p_rf g o0), (3, .int i3), (4, .int i4), (5, .int i5), (6, .int x1)]) [1, 2, 3, 4, 0] rfl ?_
  exact hr i4 i5 x1 h
set_option maxRecDepth 100000 in
set_option maxHeartbeats 4000000 in
theorem tX12_looks_L126 {K : AC} {g : WG} (hg : p_al g = false)  (C : Cx K g cX12_looks 9 RX12 (some .int) "looks" 614 0 0) (o0 : Nat) (i3 : Int32) {kx : Int32 → Int32 → PH → Option (Int32 × PH)} (hk : ∀ (i4 : Int32) (i5 : Int32) (h : PH), VX K g 9 0 0 (a_fin K g 0 0 em_i) 258 [(0, p_rf g o0), (4, .int i4), (5, .int i5)] [] h (kx i4 i5 h)) : ∀ (n : Nat) (i4 : Int32) (i5 : Int32) (i6 : Int32) (h : PH), VX K g 9 0 0 (a_fin K g 0 0 em_i) 126 [(0, p_rf g o0), (3, .int i3), (4, .int i4), (5, .int i5), (6, .int i6)] [] h (fX12_looks_L126 o0 i3 kx n i4 i5 i6 h) := by
  intro n
  induction n with
  | zero =>
    intros
    exact r_none
  | succ n ih =>
    intro i4 i5 i6 h
    rw [fX12_looks_L126]
    refine r_iload C dX12_looks_126 4 rfl ?_
    refine r_iconst C dX12_looks_128 k_i4 ?_
    refine r_icmp_ge (tgt := 258) C dX12_looks_129 (by decide) ?_ ?_
    · refine r_perm (lv' := [(0, p_rf g o0), (4, .int i4), (5, .int i5)]) [0, 2, 3] rfl ?_
      exact hk i4 i5 h
    · refine r_iconst C dX12_looks_132 k_i0 ?_
      refine r_istore (lv9 := [(7, .int (0 : Int32)), (0, p_rf g o0), (3, .int i3), (4, .int i4), (5, .int i5), (6, .int i6)]) C dX12_looks_133 (by decide) rfl ?_
      refine r_iconst C dX12_looks_135 k_i0 ?_
      refine r_istore (lv9 := [(8, .int (0 : Int32)), (7, .int (0 : Int32)), (0, p_rf g o0), (3, .int i3), (4, .int i4), (5, .int i5), (6, .int i6)]) C dX12_looks_136 (by decide) rfl ?_
      refine r_perm (lv' := [(0, p_rf g o0), (3, .int i3), (4, .int i4), (5, .int i5), (6, .int i6), (7, .int (0 : Int32)), (8, .int (0 : Int32))]) [2, 3, 4, 5, 6, 1, 0] rfl ?_
      refine tX12_looks_L138 hg C o0 i3 i4 i5 i6 (0 : Int32) (fun h1 => ?_) FU (0 : Int32) h
      refine r_iconst C dX12_looks_159 k_i0 ?_
      refine r_istore (lv9 := [(8, .int (0 : Int32)), (0, p_rf g o0), (3, .int i3), (4, .int i4), (5, .int i5), (6, .int i6), (7, .int (0 : Int32))]) C dX12_looks_160 (by decide) rfl ?_
      refine r_perm (lv' := [(0, p_rf g o0), (3, .int i3), (4, .int i4), (5, .int i5), (6, .int i6), (7, .int (0 : Int32)), (8, .int (0 : Int32))]) [1, 2, 3, 4, 5, 6, 0] rfl ?_
      refine tX12_looks_L162 hg C o0 i3 i4 i5 i6 (fun x2 h3 => ?_) FU (0 : Int32) (0 : Int32) h1
      refine r_iload C dX12_looks_234 5 rfl ?_
      refine r_iload C dX12_looks_236 3 rfl ?_
      refine r_icmp_lt (tgt := 244) C dX12_looks_238 (by decide) ?_ ?_
      · refine r_iload C dX12_looks_244 4 rfl ?_
        refine r_istore (lv9 := [(4, .int i6), (0, p_rf g o0), (3, .int i3), (5, .int i5), (6, .int i6), (7, .int x2)]) C dX12_looks_246 (by decide) rfl ?_
        refine r_iload C dX12_looks_248 5 rfl ?_
        refine r_istore (lv9 := [(5, .int x2), (4, .int i6), (0, p_rf g o0), (3, .int i3), (6, .int i6), (7, .int x2)]) C dX12_looks_250 (by decide) rfl ?_
        refine r_perm (lv' := [(0, p_rf g o0), (3, .int i3), (4, .int i6), (5, .int x2), (6, .int i6)]) [2, 3, 1, 0, 4] rfl ?_
        exact tX12_looks_J252_126 hg C o0 i3 i6 x2 i6 ih hk h3
      · refine r_goto (tgt := 252) C dX12_looks_241 (by decide) ?_
        refine r_perm (lv' := [(0, p_rf g o0), (3, .int i3), (4, .int i4), (5, .int i5), (6, .int i6)]) [0, 1, 2, 3, 4] rfl ?_
        exact tX12_looks_J252_126 hg C o0 i3 i4 i5 i6 ih hk h3
set_option maxRecDepth 100000 in
set_option maxHeartbeats 4000000 in
theorem tcX12_looks (l : Launch) (g : WG) (hg : p_al g = false) (o0 : Nat) (i1 : Int32) (i2 : Int32) (h : PH) : CT l g 614 0 0 yX12_looks cX12_looks 9 (some .int) em_i [p_rf g o0, .int i1, .int i2] h (fX12_looks o0 i1 i2 h) := by
  refine CT_of (own := RX12) (nm := "looks") (by decide +kernel) (Nat.le_of_ble_eq_true rfl) rfl rfl rfl ⟨rfl, rfl⟩ (fun K hK C => ?_)
  subst hK
  unfold fX12_looks
  show VX K g _ _ _ _ _ [(0, p_rf g o0), (1, .int i1), (2, .int i2)] _ _ _
  refine r_aload_n C dX12_looks_0 0 rfl ?_
  refine r_iconst C dX12_looks_1 k_i0 ?_
  refine r_pi C wf_X12_109_11 dX12_looks_2 (fun h1 => ?_)
  refine r_aload_n C dX12_looks_5 0 rfl ?_
  refine r_iload_n C dX12_looks_6 1 rfl ?_
  refine r_cvi (As := [.int i1]) (st := []) C wv_X12_278 (tcX12_isMan K.2.1 g hg o0 i1 h1) (Nat.le_of_ble_eq_true rfl) rfl rfl (Nat.le_of_ble_eq_true rfl) dX12_looks_7 ⟨Nat.le_of_ble_eq_true rfl, Nat.le_of_ble_eq_true rfl⟩ (fun x2 h3 => ?_)
  refine r_if_eq (tgt := 23) C dX12_looks_10 (by decide) ?_ ?_
  · refine r_iconst C dX12_looks_23 k_im1 ?_
    exact r_iret C dX12_looks_24
  · refine r_iload_n C dX12_looks_13 2 rfl ?_
    refine r_iconst C dX12_looks_14 k_i0 ?_
    refine r_bipush C dX12_looks_15 k_b30 ?_
    refine r_csi (As := [.int i2, .int (0 : Int32), .int (30 : Int32)]) (st := []) C ws_X12_119 (tcX12_in K.2.1 g hg i2 (0 : Int32) (30 : Int32) h3) (Nat.le_of_ble_eq_true rfl) rfl rfl (Nat.le_of_ble_eq_true rfl) dX12_looks_17 ⟨Nat.le_of_ble_eq_true rfl, Nat.le_of_ble_eq_true rfl⟩ (fun x4 h5 => ?_)
    refine r_if_ne (tgt := 25) C dX12_looks_20 (by decide) ?_ ?_
    · refine r_aload_n C dX12_looks_25 0 rfl ?_
      refine r_iload_n C dX12_looks_26 1 rfl ?_
      refine r_cvi (As := [.int i1]) (st := []) C wv_X12_385 (tcX12_fitting K.2.1 g hg o0 i1 h5) (Nat.le_of_ble_eq_true rfl) rfl rfl (Nat.le_of_ble_eq_true rfl) dX12_looks_27 ⟨Nat.le_of_ble_eq_true rfl, Nat.le_of_ble_eq_true rfl⟩ (fun x6 h7 => ?_)
      refine r_istore_n (lv9 := [(3, .int x6), (0, p_rf g o0), (1, .int i1), (2, .int i2)]) C dX12_looks_30 (by decide) rfl ?_
      refine r_iload_n C dX12_looks_31 0 rfl ?_
      refine r_if_ne (tgt := 38) C dX12_looks_32 (by decide) ?_ ?_
      · refine r_iconst C dX12_looks_38 k_i0 ?_
        refine r_istore (lv9 := [(4, .int (0 : Int32)), (3, .int x6), (0, p_rf g o0), (1, .int i1), (2, .int i2)]) C dX12_looks_39 (by decide) rfl ?_
        refine r_perm (lv' := [(0, p_rf g o0), (1, .int i1), (2, .int i2), (3, .int x6), (4, .int (0 : Int32))]) [2, 3, 4, 1, 0] rfl ?_
        refine tX12_looks_L41 hg C o0 i1 i2 x6 (fun h8 => ?_) FU (0 : Int32) h7
        refine r_iconst C dX12_looks_115 k_im1 ?_
        refine r_istore (lv9 := [(4, .int (-1 : Int32)), (0, p_rf g o0), (3, .int x6)]) C dX12_looks_116 (by decide) rfl ?_
        refine r_ldcw (v := (1000000 : Int32)) C dX12_looks_118 m_1952 ?_
        refine r_istore (lv9 := [(5, .int (1000000 : Int32)), (4, .int (-1 : Int32)), (0, p_rf g o0), (3, .int x6)]) C dX12_looks_121 (by decide) rfl ?_
        refine r_iconst C dX12_looks_123 k_i0 ?_
        refine r_istore (lv9 := [(6, .int (0 : Int32)), (5, .int (1000000 : Int32)), (4, .int (-1 : Int32)), (0, p_rf g o0), (3, .int x6)]) C dX12_looks_124 (by decide) rfl ?_
        refine r_perm (lv' := [(0, p_rf g o0), (3, .int x6), (4, .int (-1 : Int32)), (5, .int (1000000 : Int32)), (6, .int (0 : Int32))]) [3, 4, 2, 1, 0] rfl ?_
        refine tX12_looks_L126 hg C o0 x6 (fun x9 x10 h11 => ?_) FU (-1 : Int32) (1000000 : Int32) (0 : Int32) h8
        refine r_aload_n C dX12_looks_258 0 rfl ?_
        refine r_iconst C dX12_looks_259 k_i0 ?_
        refine r_pi C wf_X12_113_11 dX12_looks_260 (fun h12 => ?_)
        refine r_aload_n C dX12_looks_263 0 rfl ?_
        refine r_iload C dX12_looks_264 2 rfl ?_
        refine r_i2l C dX12_looks_266 ?_
        refine r_cvv (As := [.long (x10.toInt64)]) (st := []) C wv_X12_329 (tcX12_tell K.2.1 g hg o0 (x10.toInt64) h12) (Nat.le_of_ble_eq_true rfl) rfl rfl (Nat.le_of_ble_eq_true rfl) dX12_looks_267 ⟨Nat.le_of_ble_eq_true rfl, Nat.le_of_ble_eq_true rfl⟩ (fun h13 => ?_)
        refine r_iload C dX12_looks_270 1 rfl ?_
        exact r_iret C dX12_looks_272
      · refine r_bipush C dX12_looks_35 k_bm2 ?_
        exact r_iret C dX12_looks_37
    · refine r_iconst C dX12_looks_23 k_im1 ?_
      exact r_iret C dX12_looks_24
set_option maxRecDepth 100000 in
set_option maxHeartbeats 4000000 in
theorem tX12_layServed_J59_12 {K : AC} {g : WG} (hg : p_al g = false)  (C : Cx K g cX12_layServed 4 RX12 none "layServed" 613 0 0) (o0 : Nat) (i1 : Int32) (i2 : Int32) (i3 : Int32) (s0 : Int32) (s1 : Int32) (s2 : Nat)    {rc : Int32 → PH → Option (Unit × PH)} {kx : PH → Option (Unit × PH)} (hr : ∀ (i3' : Int32) (h : PH), VX K g 4 0 0 (a_fin K g 0 0 em_v) 12 [(0, p_rf g o0), (1, .int i1), (2, .int i2), (3, .int i3')] [] h (rc i3' h)) (hk : ∀  (h : PH), VX K g 4 0 0 (a_fin K g 0 0 em_v) 66 [(0, p_rf g o0), (1, .int i1), (2, .int i2)] [] h (kx  h)) (h : PH) : VX K g 4 0 0 (a_fin K g 0 0 em_v) 59 [(0, p_rf g o0), (1, .int i1), (2, .int i2), (3, .int i3)] [.int s0, .int s1, p_rf g s2] h (fX12_layServed_J59_12 rc kx o0 i1 i2 i3 s0 s1 s2 h) := by
  unfold fX12_layServed_J59_12
  refine r_iast C dX12_layServed_59 (fun h1 => ?_)
  refine r_iinc (lv' := [(0, p_rf g o0), (1, .int i1), (2, .int i2)]) C dX12_layServed_60 3 rfl k_i1 (by decide) (fun _ => rfl) (fun x2 => ?_)
  refine r_goto (tgt := 12) C dX12_layServed_63 (by decide) ?_
  refine r_perm (lv' := [(0, p_rf g o0), (1, .int i1), (2, .int i2), (3, .int x2)]) [1, 2, 3, 0] rfl ?_
  exact hr x2 h1
set_option maxRecDepth 100000 in
set_option maxHeartbeats 4000000 in
theorem tX12_layServed_L12 {K : AC} {g : WG} (hg : p_al g = false)  (C : Cx K g cX12_layServed 4 RX12 none "layServed" 613 0 0) (o0 : Nat) (i1 : Int32) (i2 : Int32) {kx : PH → Option (Unit × PH)} (hk : ∀  (h : PH), VX K g 4 0 0 (a_fin K g 0 0 em_v) 66 [(0, p_rf g o0), (1, .int i1), (2, .int i2)] [] h (kx h)) : ∀ (n : Nat) (i3 : Int32) (h : PH), VX K g 4 0 0 (a_fin K g 0 0 em_v) 12 [(0, p_rf g o0), (1, .int i1), (2, .int i2), (3, .int i3)] [] h (fX12_layServed_L12 o0 i1 i2 kx n i3 h) := by
  intro n
  induction n with
  | zero =>
    intros
    exact r_none
  | succ n ih =>
    intro i3 h
    rw [fX12_layServed_L12]
    refine r_iload_n C dX12_layServed_12 3 rfl ?_
    refine r_aload_n C dX12_layServed_13 0 rfl ?_
    refine r_gi C wf_X12_116_11 dX12_layServed_14 (fun x1 => ?_)
    refine r_icmp_ge (tgt := 66) C dX12_layServed_17 (by decide) ?_ ?_
    · refine r_perm (lv' := [(0, p_rf g o0), (1, .int i1), (2, .int i2)]) [0, 1, 2] rfl ?_
      exact hk h
    · refine r_aload_n C dX12_layServed_20 0 rfl ?_
      refine r_gr C wf_X12_84_11 dX12_layServed_21 (fun q2 => ?_)
      refine r_bipush C dX12_layServed_24 k_b9 ?_
      refine r_iload_n C dX12_layServed_26 2 rfl ?_
      refine r_imul C dX12_layServed_27 ?_
      refine r_iload_n C dX12_layServed_28 3 rfl ?_
      refine r_iadd C dX12_layServed_29 ?_
      refine r_aload_n C dX12_layServed_30 0 rfl ?_
      refine r_gr C wf_X12_9_11 dX12_layServed_31 (fun q3 => ?_)
      refine r_bipush C dX12_layServed_34 k_b32 ?_
      refine r_iload_n C dX12_layServed_36 2 rfl ?_
      refine r_iadd C dX12_layServed_37 ?_
      refine r_iald C dX12_layServed_38 (fun x4 => ?_)
      refine r_iload_n C dX12_layServed_39 3 rfl ?_
      refine r_csi (As := [.int x4, .int i3]) (st := [.int (((9 : Int32) * i2) + i3), p_rf g q2]) C ws_X12_265 (tcX12_has K.2.1 g hg x4 i3 h) (Nat.le_of_ble_eq_true rfl) rfl rfl (Nat.le_of_ble_eq_true rfl) dX12_layServed_40 ⟨Nat.le_of_ble_eq_true rfl, Nat.le_of_ble_eq_true rfl⟩ (fun x5 h6 => ?_)
      refine r_if_eq (tgt := 50) C dX12_layServed_43 (by decide) ?_ ?_
      · refine r_aload_n C dX12_layServed_50 0 rfl ?_
        refine r_iload_n C dX12_layServed_51 2 rfl ?_
        refine r_iconst C dX12_layServed_52 k_i1 ?_
        refine r_iload_n C dX12_layServed_53 3 rfl ?_
        refine r_ishl C dX12_layServed_54 ?_
        refine r_iload_n C dX12_layServed_55 1 rfl ?_
        refine r_cvi (As := [.int i2, .int ((1 : Int32) <<< (i3 &&& 31)), .int i1]) (st := [.int (((9 : Int32) * i2) + i3), p_rf g q2]) C wv_X12_364 (tcX12_hadWith K.2.1 g hg o0 i2 ((1 : Int32) <<< (i3 &&& 31)) i1 h6) (Nat.le_of_ble_eq_true rfl) rfl rfl (Nat.le_of_ble_eq_true rfl) dX12_layServed_56 ⟨Nat.le_of_ble_eq_true rfl, Nat.le_of_ble_eq_true rfl⟩ (fun x7 h8 => ?_)
        exact tX12_layServed_J59_12 hg C o0 i1 i2 i3 x7 (((9 : Int32) * i2) + i3) q2 ih hk h8
      · refine r_iconst C dX12_layServed_46 k_i0 ?_
        refine r_goto (tgt := 59) C dX12_layServed_47 (by decide) ?_
        exact tX12_layServed_J59_12 hg C o0 i1 i2 i3 (0 : Int32) (((9 : Int32) * i2) + i3) q2 ih hk h6
set_option maxRecDepth 100000 in
set_option maxHeartbeats 4000000 in
theorem tX12_layServed_L2 {K : AC} {g : WG} (hg : p_al g = false)  (C : Cx K g cX12_layServed 4 RX12 none "layServed" 613 0 0) (o0 : Nat) (i1 : Int32) {kx : PH → Option (Unit × PH)} (hk : ∀  (h : PH), VX K g 4 0 0 (a_fin K g 0 0 em_v) 91 [] [] h (kx h)) : ∀ (n : Nat) (i2 : Int32) (h : PH), VX K g 4 0 0 (a_fin K g 0 0 em_v) 2 [(0, p_rf g o0), (1, .int i1), (2, .int i2)] [] h (fX12_layServed_L2 o0 i1 kx n i2 h) := by
  intro n
  induction n with
  | zero =>
    intros
    exact r_none
  | succ n ih =>
    intro i2 h
    rw [fX12_layServed_L2]
    refine r_iload_n C dX12_layServed_2 2 rfl ?_
    refine r_aload_n C dX12_layServed_3 0 rfl ?_
    refine r_gi C wf_X12_123_11 dX12_layServed_4 (fun x1 => ?_)
    refine r_icmp_ge (tgt := 91) C dX12_layServed_7 (by decide) ?_ ?_
    · refine r_perm (lv' := []) [] rfl ?_
      exact hk h
    · refine r_iconst C dX12_layServed_10 k_i0 ?_
      refine r_istore_n (lv9 := [(3, .int (0 : Int32)), (0, p_rf g o0), (1, .int i1), (2, .int i2)]) C dX12_layServed_11 (by decide) rfl ?_
      refine r_perm (lv' := [(0, p_rf g o0), (1, .int i1), (2, .int i2), (3, .int (0 : Int32))]) [1, 2, 3, 0] rfl ?_
      refine tX12_layServed_L12 hg C o0 i1 i2 (fun h2 => ?_) FU (0 : Int32) h
      refine r_aload_n C dX12_layServed_66 0 rfl ?_
      refine r_gr C wf_X12_84_11 dX12_layServed_67 (fun q3 => ?_)
      refine r_bipush C dX12_layServed_70 k_b9 ?_
      refine r_iload_n C dX12_layServed_72 2 rfl ?_
      refine r_imul C dX12_layServed_73 ?_
      refine r_bipush C dX12_layServed_74 k_b8 ?_
      refine r_iadd C dX12_layServed_76 ?_
      refine r_aload_n C dX12_layServed_77 0 rfl ?_
      refine r_iload_n C dX12_layServed_78 2 rfl ?_
      refine r_iconst C dX12_layServed_79 k_i0 ?_
      refine r_iload_n C dX12_layServed_80 1 rfl ?_
      refine r_cvi (As := [.int i2, .int (0 : Int32), .int i1]) (st := [.int (((9 : Int32) * i2) + (8 : Int32)), p_rf g q3]) C wv_X12_364 (tcX12_hadWith K.2.1 g hg o0 i2 (0 : Int32) i1 h2) (Nat.le_of_ble_eq_true rfl) rfl rfl (Nat.le_of_ble_eq_true rfl) dX12_layServed_81 ⟨Nat.le_of_ble_eq_true rfl, Nat.le_of_ble_eq_true rfl⟩ (fun x4 h5 => ?_)
      refine r_iast C dX12_layServed_84 (fun h6 => ?_)
      refine r_iinc (lv' := [(0, p_rf g o0), (1, .int i1)]) C dX12_layServed_85 2 rfl k_i1 (by decide) (fun _ => rfl) (fun x7 => ?_)
      refine r_goto (tgt := 2) C dX12_layServed_88 (by decide) ?_
      refine r_perm (lv' := [(0, p_rf g o0), (1, .int i1), (2, .int x7)]) [1, 2, 0] rfl ?_
      exact ih x7 h6
set_option maxRecDepth 100000 in
set_option maxHeartbeats 4000000 in
theorem tcX12_layServed (l : Launch) (g : WG) (hg : p_al g = false) (o0 : Nat) (i1 : Int32) (h : PH) : CT l g 613 0 0 yX12_layServed cX12_layServed 4 none em_v [p_rf g o0, .int i1] h (fX12_layServed o0 i1 h) := by
  refine CT_of (own := RX12) (nm := "layServed") (by decide +kernel) (Nat.le_of_ble_eq_true rfl) rfl rfl rfl ⟨rfl, rfl⟩ (fun K hK C => ?_)
  subst hK
  unfold fX12_layServed
  show VX K g _ _ _ _ _ [(0, p_rf g o0), (1, .int i1)] _ _ _
  refine r_iconst C dX12_layServed_0 k_i0 ?_
  refine r_istore_n (lv9 := [(2, .int (0 : Int32)), (0, p_rf g o0), (1, .int i1)]) C dX12_layServed_1 (by decide) rfl ?_
  refine r_perm (lv' := [(0, p_rf g o0), (1, .int i1), (2, .int (0 : Int32))]) [1, 2, 0] rfl ?_
  refine tX12_layServed_L2 hg C o0 i1 (fun h1 => ?_) FU (0 : Int32) h
  exact r_vret C dX12_layServed_91
set_option maxRecDepth 100000 in
set_option maxHeartbeats 4000000 in
theorem tX12_covers_J108_71 {K : AC} {g : WG} (hg : p_al g = false)  (C : Cx K g cX12_covers 7 RX12 (some .int) "covers" 614 0 0) (o0 : Nat) (i2 : Int32) (i3 : Int32) (i5 : Int32) (i6 : Int32) (s0 : Int32) (s1 : Int32)    {rc : Int32 → Int32 → PH → Option (Int32 × PH)} {kx : Int32 → PH → Option (Int32 × PH)} (hr : ∀ (i4' : Int32) (i6' : Int32) (h : PH), VX K g 7 0 0 (a_fin K g 0 0 em_i) 71 [(0, p_rf g o0), (2, .int i2), (3, .int i3), (4, .int i4'), (5, .int i5), (6, .int i6')] [] h (rc i4' i6' h)) (hk : ∀ (i4' : Int32) (h : PH), VX K g 7 0 0 (a_fin K g 0 0 em_i) 117 [(0, p_rf g o0), (2, .int i2), (3, .int i3), (4, .int i4'), (5, .int i5)] [] h (kx i4' h)) (h : PH) : VX K g 7 0 0 (a_fin K g 0 0 em_i) 108 [(0, p_rf g o0), (2, .int i2), (3, .int i3), (5, .int i5), (6, .int i6)] [.int s0, .int s1] h (fX12_covers_J108_71 rc kx o0 i2 i3 i5 i6 s0 s1 h) := by
  unfold fX12_covers_J108_71
  refine r_ior C dX12_covers_108 ?_
  refine r_topi (fun x1 => ?_)
  refine r_istore (lv9 := [(4, .int x1), (0, p_rf g o0), (2, .int i2), (3, .int i3), (5, .int i5), (6, .int i6)]) C dX12_covers_109 (by decide) rfl ?_
  refine r_iinc (lv' := [(4, .int x1), (0, p_rf g o0), (2, .int i2), (3, .int i3), (5, .int i5)]) C dX12_covers_111 5 rfl k_i1 (by decide) (fun _ => rfl) (fun x2 => ?_)
  refine r_goto (tgt := 71) C dX12_covers_114 (by decide) ?_
  refine r_perm (lv' := [(0, p_rf g o0), (2, .int i2), (3, .int i3), (4, .int x1), (5, .int i5), (6, .int x2)]) [2, 3, 4, 1, 5, 0] rfl ?_
  exact hr x1 x2 h
set_option maxRecDepth 100000 in
set_option maxHeartbeats 4000000 in
theorem tX12_covers_L71 {K : AC} {g : WG} (hg : p_al g = false)  (C : Cx K g cX12_covers 7 RX12 (some .int) "covers" 614 0 0) (o0 : Nat) (i2 : Int32) (i3 : Int32) (i5 : Int32) {kx : Int32 → PH → Option (Int32 × PH)} (hk : ∀ (i4 : Int32) (h : PH), VX K g 7 0 0 (a_fin K g 0 0 em_i) 117 [(0, p_rf g o0), (2, .int i2), (3, .int i3), (4, .int i4), (5, .int i5)] [] h (kx i4 h)) : ∀ (n : Nat) (i4 : Int32) (i6 : Int32) (h : PH), VX K g 7 0 0 (a_fin K g 0 0 em_i) 71 [(0, p_rf g o0), (2, .int i2), (3, .int i3), (4, .int i4), (5, .int i5), (6, .int i6)] [] h (fX12_covers_L71 o0 i2 i3 i5 kx n i4 i6 h) := by
  intro n
  induction n with
  | zero =>
    intros
    exact r_none
  | succ n ih =>
    intro i4 i6 h
    rw [fX12_covers_L71]
    refine r_iload C dX12_covers_71 5 rfl ?_
    refine r_aload_n C dX12_covers_73 0 rfl ?_
    refine r_gi C wf_X12_116_11 dX12_covers_74 (fun x1 => ?_)
    refine r_icmp_ge (tgt := 117) C dX12_covers_77 (by decide) ?_ ?_
    · refine r_perm (lv' := [(0, p_rf g o0), (2, .int i2), (3, .int i3), (4, .int i4), (5, .int i5)]) [0, 1, 2, 3, 4] rfl ?_
      exact hk i4 h
    · refine r_iload C dX12_covers_80 3 rfl ?_
      refine r_iload_n C dX12_covers_82 2 rfl ?_
      refine r_iload C dX12_covers_83 5 rfl ?_
      refine r_csi (As := [.int i3, .int i6]) (st := [.int i4]) C ws_X12_265 (tcX12_has K.2.1 g hg i3 i6 h) (Nat.le_of_ble_eq_true rfl) rfl rfl (Nat.le_of_ble_eq_true rfl) dX12_covers_85 ⟨Nat.le_of_ble_eq_true rfl, Nat.le_of_ble_eq_true rfl⟩ (fun x2 h3 => ?_)
      refine r_if_eq (tgt := 107) C dX12_covers_88 (by decide) ?_ ?_
      · refine r_iconst C dX12_covers_107 k_i0 ?_
        refine r_perm (lv' := [(0, p_rf g o0), (2, .int i2), (3, .int i3), (5, .int i5), (6, .int i6)]) [0, 1, 2, 4, 5] rfl ?_
        exact tX12_covers_J108_71 hg C o0 i2 i3 i5 i6 (0 : Int32) i4 ih hk h3
      · refine r_aload_n C dX12_covers_91 0 rfl ?_
        refine r_gr C wf_X12_84_11 dX12_covers_92 (fun q4 => ?_)
        refine r_bipush C dX12_covers_95 k_b9 ?_
        refine r_iload C dX12_covers_97 4 rfl ?_
        refine r_imul C dX12_covers_99 ?_
        refine r_iload C dX12_covers_100 5 rfl ?_
        refine r_iadd C dX12_covers_102 ?_
        refine r_iald C dX12_covers_103 (fun x5 => ?_)
        refine r_goto (tgt := 108) C dX12_covers_104 (by decide) ?_
        refine r_perm (lv' := [(0, p_rf g o0), (2, .int i2), (3, .int i3), (5, .int i5), (6, .int i6)]) [0, 1, 2, 4, 5] rfl ?_
        exact tX12_covers_J108_71 hg C o0 i2 i3 i5 i6 x5 i4 ih hk h3
set_option maxRecDepth 100000 in
set_option maxHeartbeats 4000000 in
theorem tX12_covers_L59 {K : AC} {g : WG} (hg : p_al g = false)  (C : Cx K g cX12_covers 7 RX12 (some .int) "covers" 614 0 0) (o0 : Nat) (i2 : Int32) (i3 : Int32) {kx : Int32 → PH → Option (Int32 × PH)} (hk : ∀ (i4 : Int32) (h : PH), VX K g 7 0 0 (a_fin K g 0 0 em_i) 123 [(0, p_rf g o0), (2, .int i2), (3, .int i3), (4, .int i4)] [] h (kx i4 h)) : ∀ (n : Nat) (i4 : Int32) (i5 : Int32) (h : PH), VX K g 7 0 0 (a_fin K g 0 0 em_i) 59 [(0, p_rf g o0), (2, .int i2), (3, .int i3), (4, .int i4), (5, .int i5)] [] h (fX12_covers_L59 o0 i2 i3 kx n i4 i5 h) := by
  intro n
  induction n with
  | zero =>
    intros
    exact r_none
  | succ n ih =>
    intro i4 i5 h
    rw [fX12_covers_L59]
    refine r_iload C dX12_covers_59 4 rfl ?_
    refine r_aload_n C dX12_covers_61 0 rfl ?_
    refine r_gi C wf_X12_123_11 dX12_covers_62 (fun x1 => ?_)
    refine r_icmp_ge (tgt := 123) C dX12_covers_65 (by decide) ?_ ?_
    · refine r_perm (lv' := [(0, p_rf g o0), (2, .int i2), (3, .int i3), (4, .int i4)]) [0, 1, 2, 3] rfl ?_
      exact hk i4 h
    · refine r_iconst C dX12_covers_68 k_i0 ?_
      refine r_istore (lv9 := [(6, .int (0 : Int32)), (0, p_rf g o0), (2, .int i2), (3, .int i3), (4, .int i4), (5, .int i5)]) C dX12_covers_69 (by decide) rfl ?_
      refine r_perm (lv' := [(0, p_rf g o0), (2, .int i2), (3, .int i3), (4, .int i4), (5, .int i5), (6, .int (0 : Int32))]) [1, 2, 3, 4, 5, 0] rfl ?_
      refine tX12_covers_L71 hg C o0 i2 i3 i5 (fun x2 h3 => ?_) FU i4 (0 : Int32) h
      refine r_iinc (lv' := [(0, p_rf g o0), (2, .int i2), (3, .int i3), (4, .int x2)]) C dX12_covers_117 4 rfl k_i1 (by decide) (fun _ => rfl) (fun x4 => ?_)
      refine r_goto (tgt := 59) C dX12_covers_120 (by decide) ?_
      refine r_perm (lv' := [(0, p_rf g o0), (2, .int i2), (3, .int i3), (4, .int x2), (5, .int x4)]) [1, 2, 3, 4, 0] rfl ?_
      exact ih x2 x4 h3
set_option maxRecDepth 100000 in
set_option maxHeartbeats 4000000 in
theorem tX12_covers_J138_26 {K : AC} {g : WG} (hg : p_al g = false)  (C : Cx K g cX12_covers 7 RX12 (some .int) "covers" 614 0 0) (o0 : Nat) (i2 : Int32) (i3 : Int32)    {rc : Int32 → Int32 → PH → Option (Int32 × PH)} {kx : Int32 → PH → Option (Int32 × PH)} (hr : ∀ (i2' : Int32) (i3' : Int32) (h : PH), VX K g 7 0 0 (a_fin K g 0 0 em_i) 26 [(0, p_rf g o0), (2, .int i2'), (3, .int i3')] [] h (rc i2' i3' h)) (hk : ∀ (i2' : Int32) (h : PH), VX K g 7 0 0 (a_fin K g 0 0 em_i) 144 [(0, p_rf g o0), (2, .int i2')] [] h (kx i2' h)) (h : PH) : VX K g 7 0 0 (a_fin K g 0 0 em_i) 138 [(0, p_rf g o0), (2, .int i2), (3, .int i3)] [] h (fX12_covers_J138_26 rc kx o0 i2 i3 h) := by
  unfold fX12_covers_J138_26
  refine r_iinc (lv' := [(0, p_rf g o0), (2, .int i2)]) C dX12_covers_138 2 rfl k_i1 (by decide) (fun _ => rfl) (fun x1 => ?_)
  refine r_goto (tgt := 26) C dX12_covers_141 (by decide) ?_
  refine r_perm (lv' := [(0, p_rf g o0), (2, .int i2), (3, .int x1)]) [1, 2, 0] rfl ?_
  exact hr i2 x1 h
set_option maxRecDepth 100000 in
set_option maxHeartbeats 4000000 in
theorem tX12_covers_J53_26 {K : AC} {g : WG} (hg : p_al g = false)  (C : Cx K g cX12_covers 7 RX12 (some .int) "covers" 614 0 0) (o0 : Nat) (i2 : Int32) (i3 : Int32)    {rc : Int32 → Int32 → PH → Option (Int32 × PH)} {kx : Int32 → PH → Option (Int32 × PH)} (hr : ∀ (i2' : Int32) (i3' : Int32) (h : PH), VX K g 7 0 0 (a_fin K g 0 0 em_i) 26 [(0, p_rf g o0), (2, .int i2'), (3, .int i3')] [] h (rc i2' i3' h)) (hk : ∀ (i2' : Int32) (h : PH), VX K g 7 0 0 (a_fin K g 0 0 em_i) 144 [(0, p_rf g o0), (2, .int i2')] [] h (kx i2' h)) (h : PH) : VX K g 7 0 0 (a_fin K g 0 0 em_i) 53 [(0, p_rf g o0), (2, .int i2), (3, .int i3)] [] h (fX12_covers_J53_26 rc kx o0 i2 i3 h) := by
  unfold fX12_covers_J53_26
  refine r_iconst C dX12_covers_53 k_i0 ?_
  refine r_istore (lv9 := [(4, .int (0 : Int32)), (0, p_rf g o0), (2, .int i2), (3, .int i3)]) C dX12_covers_54 (by decide) rfl ?_
  refine r_iconst C dX12_covers_56 k_i0 ?_
  refine r_istore (lv9 := [(5, .int (0 : Int32)), (4, .int (0 : Int32)), (0, p_rf g o0), (2, .int i2), (3, .int i3)]) C dX12_covers_57 (by decide) rfl ?_
  refine r_perm (lv' := [(0, p_rf g o0), (2, .int i2), (3, .int i3), (4, .int (0 : Int32)), (5, .int (0 : Int32))]) [2, 3, 4, 1, 0] rfl ?_
  refine tX12_covers_L59 hg C o0 i2 i3 (fun x1 h2 => ?_) FU (0 : Int32) (0 : Int32) h
  refine r_iload C dX12_covers_123 3 rfl ?_
  refine r_iconst C dX12_covers_125 k_i1 ?_
  refine r_aload_n C dX12_covers_126 0 rfl ?_
  refine r_gi C wf_X12_126_11 dX12_covers_127 (fun x3 => ?_)
  refine r_ishl C dX12_covers_130 ?_
  refine r_iconst C dX12_covers_131 k_i1 ?_
  refine r_isub C dX12_covers_132 ?_
  refine r_icmp_ne (tgt := 138) C dX12_covers_133 (by decide) ?_ ?_
  · refine r_perm (lv' := [(0, p_rf g o0), (2, .int i2), (3, .int i3)]) [0, 1, 2] rfl ?_
    exact tX12_covers_J138_26 hg C o0 i2 i3 hr hk h2
  · refine r_iload_n C dX12_covers_136 2 rfl ?_
    refine r_istore_n (lv9 := [(2, .int i3), (0, p_rf g o0), (3, .int i3), (4, .int x1)]) C dX12_covers_137 (by decide) rfl ?_
    refine r_perm (lv' := [(0, p_rf g o0), (2, .int i3), (3, .int i3)]) [1, 0, 2] rfl ?_
    exact tX12_covers_J138_26 hg C o0 i3 i3 hr hk h2
set_option maxRecDepth 100000 in
set_option maxHeartbeats 4000000 in
theorem tX12_covers_L26 {K : AC} {g : WG} (hg : p_al g = false)  (C : Cx K g cX12_covers 7 RX12 (some .int) "covers" 614 0 0) (o0 : Nat) {kx : Int32 → PH → Option (Int32 × PH)} (hk : ∀ (i2 : Int32) (h : PH), VX K g 7 0 0 (a_fin K g 0 0 em_i) 144 [(0, p_rf g o0), (2, .int i2)] [] h (kx i2 h)) : ∀ (n : Nat) (i2 : Int32) (i3 : Int32) (h : PH), VX K g 7 0 0 (a_fin K g 0 0 em_i) 26 [(0, p_rf g o0), (2, .int i2), (3, .int i3)] [] h (fX12_covers_L26 o0 kx n i2 i3 h) := by
  intro n
  induction n with
  | zero =>
    intros
    exact r_none
  | succ n ih =>
    intro i2 i3 h
    rw [fX12_covers_L26]
    refine r_iload_n C dX12_covers_26 2 rfl ?_
    refine r_aload_n C dX12_covers_27 0 rfl ?_
    refine r_cvi (As := []) (st := [.int i3]) C wv_X12_371 (tcX12_all K.2.1 g hg o0 h) (Nat.le_of_ble_eq_true rfl) rfl rfl (Nat.le_of_ble_eq_true rfl) dX12_covers_28 ⟨Nat.le_of_ble_eq_true rfl, Nat.le_of_ble_eq_true rfl⟩ (fun x1 h2 => ?_)
    refine r_icmp_gt (tgt := 144) C dX12_covers_31 (by decide) ?_ ?_
    · refine r_perm (lv' := [(0, p_rf g o0), (2, .int i2)]) [0, 1] rfl ?_
      exact hk i2 h2
    · refine r_iload_n C dX12_covers_34 1 rfl ?_
      refine r_iconst C dX12_covers_35 k_im1 ?_
      refine r_icmp_eq (tgt := 53) C dX12_covers_36 (by decide) ?_ ?_
      · exact tX12_covers_J53_26 hg C o0 i2 i3 ih hk h2
      · refine r_iload_n C dX12_covers_39 2 rfl ?_
        refine r_csi (As := [.int i3]) (st := []) C ws_X12_242 (tcJ6_bitCount_0f7a4 K.2.1 g hg i3 h2) (Nat.le_of_ble_eq_true rfl) rfl rfl (Nat.le_of_ble_eq_true rfl) dX12_covers_40 ⟨Nat.le_of_ble_eq_true rfl, Nat.le_of_ble_eq_true rfl⟩ (fun x3 h4 => ?_)
        refine r_iload_n C dX12_covers_43 1 rfl ?_
        refine r_csi (As := [.int i2]) (st := [.int x3]) C ws_X12_242 (tcJ6_bitCount_0f7a4 K.2.1 g hg i2 h4) (Nat.le_of_ble_eq_true rfl) rfl rfl (Nat.le_of_ble_eq_true rfl) dX12_covers_44 ⟨Nat.le_of_ble_eq_true rfl, Nat.le_of_ble_eq_true rfl⟩ (fun x5 h6 => ?_)
        refine r_icmp_lt (tgt := 53) C dX12_covers_47 (by decide) ?_ ?_
        · exact tX12_covers_J53_26 hg C o0 i2 i3 ih hk h6
        · refine r_goto (tgt := 138) C dX12_covers_50 (by decide) ?_
          exact tX12_covers_J138_26 hg C o0 i2 i3 ih hk h6
set_option maxRecDepth 100000 in
set_option maxHeartbeats 4000000 in
theorem tcX12_covers (l : Launch) (g : WG) (hg : p_al g = false) (o0 : Nat) (i1 : Int32) (h : PH) : CT l g 614 0 0 yX12_covers cX12_covers 7 (some .int) em_i [p_rf g o0, .int i1] h (fX12_covers o0 i1 h) := by
  refine CT_of (own := RX12) (nm := "covers") (by decide +kernel) (Nat.le_of_ble_eq_true rfl) rfl rfl rfl ⟨rfl, rfl⟩ (fun K hK C => ?_)
  subst hK
  unfold fX12_covers
  show VX K g _ _ _ _ _ [(0, p_rf g o0), (1, .int i1)] _ _ _
  refine r_aload_n C dX12_covers_0 0 rfl ?_
  refine r_iconst C dX12_covers_1 k_i0 ?_
  refine r_pi C wf_X12_109_11 dX12_covers_2 (fun h1 => ?_)
  refine r_iload_n C dX12_covers_5 1 rfl ?_
  refine r_iconst C dX12_covers_6 k_i0 ?_
  refine r_bipush C dX12_covers_7 k_b20 ?_
  refine r_csi (As := [.int i1, .int (0 : Int32), .int (20 : Int32)]) (st := []) C ws_X12_119 (tcX12_in K.2.1 g hg i1 (0 : Int32) (20 : Int32) h1) (Nat.le_of_ble_eq_true rfl) rfl rfl (Nat.le_of_ble_eq_true rfl) dX12_covers_9 ⟨Nat.le_of_ble_eq_true rfl, Nat.le_of_ble_eq_true rfl⟩ (fun x2 h3 => ?_)
  refine r_if_ne (tgt := 17) C dX12_covers_12 (by decide) ?_ ?_
  · refine r_aload_n C dX12_covers_17 0 rfl ?_
    refine r_iload_n C dX12_covers_18 1 rfl ?_
    refine r_cvv (As := [.int i1]) (st := []) C wv_X12_389 (tcX12_layServed K.2.1 g hg o0 i1 h3) (Nat.le_of_ble_eq_true rfl) rfl rfl (Nat.le_of_ble_eq_true rfl) dX12_covers_19 ⟨Nat.le_of_ble_eq_true rfl, Nat.le_of_ble_eq_true rfl⟩ (fun h4 => ?_)
    refine r_iconst C dX12_covers_22 k_im1 ?_
    refine r_istore_n (lv9 := [(2, .int (-1 : Int32)), (0, p_rf g o0), (1, .int i1)]) C dX12_covers_23 (by decide) rfl ?_
    refine r_iconst C dX12_covers_24 k_i0 ?_
    refine r_istore_n (lv9 := [(3, .int (0 : Int32)), (2, .int (-1 : Int32)), (0, p_rf g o0), (1, .int i1)]) C dX12_covers_25 (by decide) rfl ?_
    refine r_perm (lv' := [(0, p_rf g o0), (2, .int (-1 : Int32)), (3, .int (0 : Int32))]) [2, 1, 0] rfl ?_
    refine tX12_covers_L26 hg C o0 (fun x5 h6 => ?_) FU (-1 : Int32) (0 : Int32) h4
    refine r_iload_n C dX12_covers_144 1 rfl ?_
    refine r_iconst C dX12_covers_145 k_im1 ?_
    refine r_icmp_ne (tgt := 152) C dX12_covers_146 (by decide) ?_ ?_
    · refine r_aload_n C dX12_covers_152 0 rfl ?_
      refine r_iconst C dX12_covers_153 k_i0 ?_
      refine r_pi C wf_X12_113_11 dX12_covers_154 (fun h7 => ?_)
      refine r_aload_n C dX12_covers_157 0 rfl ?_
      refine r_iload_n C dX12_covers_158 1 rfl ?_
      refine r_i2l C dX12_covers_159 ?_
      refine r_cvv (As := [.long (x5.toInt64)]) (st := []) C wv_X12_329 (tcX12_tell K.2.1 g hg o0 (x5.toInt64) h7) (Nat.le_of_ble_eq_true rfl) rfl rfl (Nat.le_of_ble_eq_true rfl) dX12_covers_160 ⟨Nat.le_of_ble_eq_true rfl, Nat.le_of_ble_eq_true rfl⟩ (fun h8 => ?_)
      refine r_iload_n C dX12_covers_163 1 rfl ?_
      refine r_csi (As := [.int x5]) (st := []) C ws_X12_242 (tcJ6_bitCount_0f7a4 K.2.1 g hg x5 h8) (Nat.le_of_ble_eq_true rfl) rfl rfl (Nat.le_of_ble_eq_true rfl) dX12_covers_164 ⟨Nat.le_of_ble_eq_true rfl, Nat.le_of_ble_eq_true rfl⟩ (fun x9 h10 => ?_)
      exact r_iret C dX12_covers_167
    · refine r_bipush C dX12_covers_149 k_bm2 ?_
      exact r_iret C dX12_covers_151
  · refine r_iconst C dX12_covers_15 k_im1 ?_
    exact r_iret C dX12_covers_16
set_option maxRecDepth 100000 in
set_option maxHeartbeats 4000000 in
theorem tX12_servedMany_J19 {K : AC} {g : WG} (hg : p_al g = false)  (C : Cx K g cX12_servedMany 3 RX12 (some .int) "servedMany" 2 0 0) (s0 : Int32) (s1 : Int32) (s2 : Nat)  (h : PH) : VX K g 3 0 0 (a_fin K g 0 0 em_i) 19 [] [.int s0, .int s1, p_rf g s2] h (fX12_servedMany_J19 s0 s1 s2 h) := by
  unfold fX12_servedMany_J19
  refine r_iadd C dX12_servedMany_19 ?_
  refine r_iald C dX12_servedMany_20 (fun x1 => ?_)
  refine r_csi (As := [.int x1]) (st := []) C ws_X12_242 (tcJ6_bitCount_0f7a4 K.2.1 g hg x1 h) (Nat.le_of_ble_eq_true rfl) rfl rfl (Nat.le_of_ble_eq_true rfl) dX12_servedMany_21 ⟨Nat.le_of_ble_eq_true rfl, Nat.le_of_ble_eq_true rfl⟩ (fun x2 h3 => ?_)
  exact r_iret C dX12_servedMany_24
set_option maxRecDepth 100000 in
set_option maxHeartbeats 4000000 in
theorem tcX12_servedMany (l : Launch) (g : WG) (hg : p_al g = false) (o0 : Nat) (i1 : Int32) (i2 : Int32) (h : PH) : CT l g 2 0 0 yX12_servedMany cX12_servedMany 3 (some .int) em_i [p_rf g o0, .int i1, .int i2] h (fX12_servedMany o0 i1 i2 h) := by
  refine CT_of (own := RX12) (nm := "servedMany") (by decide +kernel) (Nat.le_of_ble_eq_true rfl) rfl rfl rfl ⟨rfl, rfl⟩ (fun K hK C => ?_)
  subst hK
  unfold fX12_servedMany
  show VX K g _ _ _ _ _ [(0, p_rf g o0), (1, .int i1), (2, .int i2)] _ _ _
  refine r_aload_n C dX12_servedMany_0 0 rfl ?_
  refine r_gr C wf_X12_84_11 dX12_servedMany_1 (fun q1 => ?_)
  refine r_bipush C dX12_servedMany_4 k_b9 ?_
  refine r_iload_n C dX12_servedMany_6 1 rfl ?_
  refine r_imul C dX12_servedMany_7 ?_
  refine r_iload_n C dX12_servedMany_8 2 rfl ?_
  refine r_iconst C dX12_servedMany_9 k_im1 ?_
  refine r_icmp_ne (tgt := 18) C dX12_servedMany_10 (by decide) ?_ ?_
  · refine r_iload_n C dX12_servedMany_18 2 rfl ?_
    refine r_perm (lv' := []) [] rfl ?_
    exact tX12_servedMany_J19 hg C i2 ((9 : Int32) * i1) q1 h
  · refine r_bipush C dX12_servedMany_13 k_b8 ?_
    refine r_goto (tgt := 19) C dX12_servedMany_15 (by decide) ?_
    refine r_perm (lv' := []) [] rfl ?_
    exact tX12_servedMany_J19 hg C (8 : Int32) ((9 : Int32) * i1) q1 h
set_option maxRecDepth 100000 in
set_option maxHeartbeats 4000000 in
theorem tX12_goShares_J158_65 {K : AC} {g : WG} (hg : p_al g = false)  {d dr : Nat} (hdd : dr + 3 ≤ d) {rG : Nat → Int32 → Int32 → PH → Option (Unit × PH)} (hrG : ∀ (o : Nat) (a b : Int32) (h : PH), CT K.2.1 g dr 0 0 yX12_goShares cX12_goShares 4 none em_v [p_rf g o, .int a, .int b] h (rG o a b h)) (C : Cx K g cX12_goShares 4 RX12 none "goShares" d 0 0) (o0 : Nat) (i1 : Int32) (i2 : Int32) (i3 : Int32)    {rc : Int32 → PH → Option (Unit × PH)} {kx : PH → Option (Unit × PH)} (hr : ∀ (i3' : Int32) (h : PH), VX K g 4 0 0 (a_fin K g 0 0 em_v) 65 [(0, p_rf g o0), (1, .int i1), (2, .int i2), (3, .int i3')] [] h (rc i3' h)) (hk : ∀  (h : PH), VX K g 4 0 0 (a_fin K g 0 0 em_v) 164 [] [] h (kx  h)) (h : PH) : VX K g 4 0 0 (a_fin K g 0 0 em_v) 158 [(0, p_rf g o0), (1, .int i1), (2, .int i2), (3, .int i3)] [] h (fX12_goShares_J158_65 rG rc kx o0 i1 i2 i3 h) := by
  unfold fX12_goShares_J158_65
  refine r_iinc (lv' := [(0, p_rf g o0), (1, .int i1), (2, .int i2)]) C dX12_goShares_158 3 rfl k_i1 (by decide) (fun _ => rfl) (fun x1 => ?_)
  refine r_goto (tgt := 65) C dX12_goShares_161 (by decide) ?_
  refine r_perm (lv' := [(0, p_rf g o0), (1, .int i1), (2, .int i2), (3, .int x1)]) [1, 2, 3, 0] rfl ?_
  exact hr x1 h
set_option maxRecDepth 100000 in
set_option maxHeartbeats 4000000 in
theorem tX12_goShares_J128_65 {K : AC} {g : WG} (hg : p_al g = false)  {d dr : Nat} (hdd : dr + 3 ≤ d) {rG : Nat → Int32 → Int32 → PH → Option (Unit × PH)} (hrG : ∀ (o : Nat) (a b : Int32) (h : PH), CT K.2.1 g dr 0 0 yX12_goShares cX12_goShares 4 none em_v [p_rf g o, .int a, .int b] h (rG o a b h)) (C : Cx K g cX12_goShares 4 RX12 none "goShares" d 0 0) (o0 : Nat) (i1 : Int32) (i2 : Int32) (i3 : Int32)    {rc : Int32 → PH → Option (Unit × PH)} {kx : PH → Option (Unit × PH)} (hr : ∀ (i3' : Int32) (h : PH), VX K g 4 0 0 (a_fin K g 0 0 em_v) 65 [(0, p_rf g o0), (1, .int i1), (2, .int i2), (3, .int i3')] [] h (rc i3' h)) (hk : ∀  (h : PH), VX K g 4 0 0 (a_fin K g 0 0 em_v) 164 [] [] h (kx  h)) (h : PH) : VX K g 4 0 0 (a_fin K g 0 0 em_v) 128 [(0, p_rf g o0), (1, .int i1), (2, .int i2), (3, .int i3)] [] h (fX12_goShares_J128_65 rG rc kx o0 i1 i2 i3 h) := by
  unfold fX12_goShares_J128_65
  refine r_aload_n C dX12_goShares_128 0 rfl ?_
  refine r_iload_n C dX12_goShares_129 1 rfl ?_
  refine r_iconst C dX12_goShares_130 k_i1 ?_
  refine r_iadd C dX12_goShares_131 ?_
  refine r_iload_n C dX12_goShares_132 2 rfl ?_
  refine r_aload_n C dX12_goShares_133 0 rfl ?_
  refine r_iload_n C dX12_goShares_134 1 rfl ?_
  refine r_iload_n C dX12_goShares_135 3 rfl ?_
  refine r_cvi (As := [.int i1, .int i3]) (st := [.int i2, .int (i1 + (1 : Int32)), p_rf g o0]) C wv_X12_395 (tcX12_servedMany K.2.1 g hg o0 i1 i3 h) (by omega) rfl rfl (Nat.le_of_ble_eq_true rfl) dX12_goShares_136 ⟨Nat.le_of_ble_eq_true rfl, Nat.le_of_ble_eq_true rfl⟩ (fun x1 h2 => ?_)
  refine r_iadd C dX12_goShares_139 ?_
  refine r_cvv (As := [.int (i1 + (1 : Int32)), .int (i2 + x1)]) (st := []) C wv_X12_398 (hrG o0 (i1 + (1 : Int32)) (i2 + x1) h2) (by omega) rfl rfl (Nat.le_of_ble_eq_true rfl) dX12_goShares_140 ⟨Nat.le_of_ble_eq_true rfl, Nat.le_of_ble_eq_true rfl⟩ (fun h3 => ?_)
  refine r_iload_n C dX12_goShares_143 3 rfl ?_
  refine r_iconst C dX12_goShares_144 k_im1 ?_
  refine r_icmp_eq (tgt := 158) C dX12_goShares_145 (by decide) ?_ ?_
  · exact tX12_goShares_J158_65 hg hdd hrG C o0 i1 i2 i3 hr hk h3
  · refine r_aload_n C dX12_goShares_148 0 rfl ?_
    refine r_gr C wf_X12_93_11 dX12_goShares_149 (fun q4 => ?_)
    refine r_iload_n C dX12_goShares_152 3 rfl ?_
    refine r_dup2 C dX12_goShares_153 rfl rfl ?_
    refine r_iald C dX12_goShares_154 (fun x5 => ?_)
    refine r_iconst C dX12_goShares_155 k_i1 ?_
    refine r_iadd C dX12_goShares_156 ?_
    refine r_iast C dX12_goShares_157 (fun h6 => ?_)
    exact tX12_goShares_J158_65 hg hdd hrG C o0 i1 i2 i3 hr hk h6
set_option maxRecDepth 100000 in
set_option maxHeartbeats 4000000 in
theorem tX12_goShares_J106_65 {K : AC} {g : WG} (hg : p_al g = false)  {d dr : Nat} (hdd : dr + 3 ≤ d) {rG : Nat → Int32 → Int32 → PH → Option (Unit × PH)} (hrG : ∀ (o : Nat) (a b : Int32) (h : PH), CT K.2.1 g dr 0 0 yX12_goShares cX12_goShares 4 none em_v [p_rf g o, .int a, .int b] h (rG o a b h)) (C : Cx K g cX12_goShares 4 RX12 none "goShares" d 0 0) (o0 : Nat) (i1 : Int32) (i2 : Int32) (i3 : Int32)    {rc : Int32 → PH → Option (Unit × PH)} {kx : PH → Option (Unit × PH)} (hr : ∀ (i3' : Int32) (h : PH), VX K g 4 0 0 (a_fin K g 0 0 em_v) 65 [(0, p_rf g o0), (1, .int i1), (2, .int i2), (3, .int i3')] [] h (rc i3' h)) (hk : ∀  (h : PH), VX K g 4 0 0 (a_fin K g 0 0 em_v) 164 [] [] h (kx  h)) (h : PH) : VX K g 4 0 0 (a_fin K g 0 0 em_v) 106 [(0, p_rf g o0), (1, .int i1), (2, .int i2), (3, .int i3)] [] h (fX12_goShares_J106_65 rG rc kx o0 i1 i2 i3 h) := by
  unfold fX12_goShares_J106_65
  refine r_aload_n C dX12_goShares_106 0 rfl ?_
  refine r_gr C wf_X12_87_11 dX12_goShares_107 (fun q1 => ?_)
  refine r_iload_n C dX12_goShares_110 1 rfl ?_
  refine r_iload_n C dX12_goShares_111 3 rfl ?_
  refine r_iast C dX12_goShares_112 (fun h2 => ?_)
  refine r_iload_n C dX12_goShares_113 3 rfl ?_
  refine r_iconst C dX12_goShares_114 k_im1 ?_
  refine r_icmp_eq (tgt := 128) C dX12_goShares_115 (by decide) ?_ ?_
  · exact tX12_goShares_J128_65 hg hdd hrG C o0 i1 i2 i3 hr hk h2
  · refine r_aload_n C dX12_goShares_118 0 rfl ?_
    refine r_gr C wf_X12_93_11 dX12_goShares_119 (fun q3 => ?_)
    refine r_iload_n C dX12_goShares_122 3 rfl ?_
    refine r_dup2 C dX12_goShares_123 rfl rfl ?_
    refine r_iald C dX12_goShares_124 (fun x4 => ?_)
    refine r_iconst C dX12_goShares_125 k_i1 ?_
    refine r_isub C dX12_goShares_126 ?_
    refine r_iast C dX12_goShares_127 (fun h5 => ?_)
    exact tX12_goShares_J128_65 hg hdd hrG C o0 i1 i2 i3 hr hk h5
set_option maxRecDepth 100000 in
set_option maxHeartbeats 4000000 in
theorem tX12_goShares_L65 {K : AC} {g : WG} (hg : p_al g = false)  {d dr : Nat} (hdd : dr + 3 ≤ d) {rG : Nat → Int32 → Int32 → PH → Option (Unit × PH)} (hrG : ∀ (o : Nat) (a b : Int32) (h : PH), CT K.2.1 g dr 0 0 yX12_goShares cX12_goShares 4 none em_v [p_rf g o, .int a, .int b] h (rG o a b h)) (C : Cx K g cX12_goShares 4 RX12 none "goShares" d 0 0) (o0 : Nat) (i1 : Int32) (i2 : Int32) {kx : PH → Option (Unit × PH)} (hk : ∀  (h : PH), VX K g 4 0 0 (a_fin K g 0 0 em_v) 164 [] [] h (kx h)) : ∀ (n : Nat) (i3 : Int32) (h : PH), VX K g 4 0 0 (a_fin K g 0 0 em_v) 65 [(0, p_rf g o0), (1, .int i1), (2, .int i2), (3, .int i3)] [] h (fX12_goShares_L65 rG o0 i1 i2 kx n i3 h) := by
  intro n
  induction n with
  | zero =>
    intros
    exact r_none
  | succ n ih =>
    intro i3 h
    rw [fX12_goShares_L65]
    refine r_iload_n C dX12_goShares_65 3 rfl ?_
    refine r_aload_n C dX12_goShares_66 0 rfl ?_
    refine r_gi C wf_X12_116_11 dX12_goShares_67 (fun x1 => ?_)
    refine r_icmp_ge (tgt := 164) C dX12_goShares_70 (by decide) ?_ ?_
    · refine r_perm (lv' := []) [] rfl ?_
      exact hk h
    · refine r_iload_n C dX12_goShares_73 3 rfl ?_
      refine r_iconst C dX12_goShares_74 k_im1 ?_
      refine r_icmp_eq (tgt := 106) C dX12_goShares_75 (by decide) ?_ ?_
      · exact tX12_goShares_J106_65 hg hdd hrG C o0 i1 i2 i3 ih hk h
      · refine r_aload_n C dX12_goShares_78 0 rfl ?_
        refine r_gr C wf_X12_93_11 dX12_goShares_79 (fun q2 => ?_)
        refine r_iload_n C dX12_goShares_82 3 rfl ?_
        refine r_iald C dX12_goShares_83 (fun x3 => ?_)
        refine r_if_eq (tgt := 158) C dX12_goShares_84 (by decide) ?_ ?_
        · exact tX12_goShares_J158_65 hg hdd hrG C o0 i1 i2 i3 ih hk h
        · refine r_aload_n C dX12_goShares_87 0 rfl ?_
          refine r_gr C wf_X12_9_11 dX12_goShares_88 (fun q4 => ?_)
          refine r_bipush C dX12_goShares_91 k_b32 ?_
          refine r_iload_n C dX12_goShares_93 1 rfl ?_
          refine r_iadd C dX12_goShares_94 ?_
          refine r_iald C dX12_goShares_95 (fun x5 => ?_)
          refine r_iload_n C dX12_goShares_96 3 rfl ?_
          refine r_csi (As := [.int x5, .int i3]) (st := []) C ws_X12_265 (tcX12_has K.2.1 g hg x5 i3 h) (by omega) rfl rfl (Nat.le_of_ble_eq_true rfl) dX12_goShares_97 ⟨Nat.le_of_ble_eq_true rfl, Nat.le_of_ble_eq_true rfl⟩ (fun x6 h7 => ?_)
          refine r_if_eq (tgt := 106) C dX12_goShares_100 (by decide) ?_ ?_
          · exact tX12_goShares_J106_65 hg hdd hrG C o0 i1 i2 i3 ih hk h7
          · refine r_goto (tgt := 158) C dX12_goShares_103 (by decide) ?_
            exact tX12_goShares_J158_65 hg hdd hrG C o0 i1 i2 i3 ih hk h7
set_option maxRecDepth 100000 in
set_option maxHeartbeats 4000000 in
theorem tX12_goShares_L36 {K : AC} {g : WG} (hg : p_al g = false)  {d dr : Nat} (hdd : dr + 3 ≤ d) {rG : Nat → Int32 → Int32 → PH → Option (Unit × PH)} (hrG : ∀ (o : Nat) (a b : Int32) (h : PH), CT K.2.1 g dr 0 0 yX12_goShares cX12_goShares 4 none em_v [p_rf g o, .int a, .int b] h (rG o a b h)) (C : Cx K g cX12_goShares 4 RX12 none "goShares" d 0 0) (o0 : Nat) {kx : PH → Option (Unit × PH)} (hk : ∀  (h : PH), VX K g 4 0 0 (a_fin K g 0 0 em_v) 62 [] [] h (kx h)) : ∀ (n : Nat) (i3 : Int32) (h : PH), VX K g 4 0 0 (a_fin K g 0 0 em_v) 36 [(0, p_rf g o0), (3, .int i3)] [] h (fX12_goShares_L36 rG o0 kx n i3 h) := by
  intro n
  induction n with
  | zero =>
    intros
    exact r_none
  | succ n ih =>
    intro i3 h
    rw [fX12_goShares_L36]
    refine r_iload_n C dX12_goShares_36 1 rfl ?_
    refine r_aload_n C dX12_goShares_37 0 rfl ?_
    refine r_gi C wf_X12_123_11 dX12_goShares_38 (fun x1 => ?_)
    refine r_icmp_ge (tgt := 62) C dX12_goShares_41 (by decide) ?_ ?_
    · refine r_perm (lv' := []) [] rfl ?_
      exact hk h
    · refine r_aload_n C dX12_goShares_44 0 rfl ?_
      refine r_gr C wf_X12_90_11 dX12_goShares_45 (fun q2 => ?_)
      refine r_iload_n C dX12_goShares_48 1 rfl ?_
      refine r_aload_n C dX12_goShares_49 0 rfl ?_
      refine r_gr C wf_X12_87_11 dX12_goShares_50 (fun q3 => ?_)
      refine r_iload_n C dX12_goShares_53 1 rfl ?_
      refine r_iald C dX12_goShares_54 (fun x4 => ?_)
      refine r_iast C dX12_goShares_55 (fun h5 => ?_)
      refine r_iinc (lv' := [(0, p_rf g o0)]) C dX12_goShares_56 1 rfl k_i1 (by decide) (fun _ => rfl) (fun x6 => ?_)
      refine r_goto (tgt := 36) C dX12_goShares_59 (by decide) ?_
      refine r_perm (lv' := [(0, p_rf g o0), (3, .int x6)]) [1, 0] rfl ?_
      exact ih x6 h5
set_option maxRecDepth 100000 in
set_option maxHeartbeats 4000000 in
theorem tcX12_goShares (l : Launch) (g : WG) (hg : p_al g = false) {d dr : Nat} (hdd : dr + 3 ≤ d) {rG : Nat → Int32 → Int32 → PH → Option (Unit × PH)} (hrG : ∀ (o : Nat) (a b : Int32) (h : PH), CT l g dr 0 0 yX12_goShares cX12_goShares 4 none em_v [p_rf g o, .int a, .int b] h (rG o a b h)) (o0 : Nat) (i1 : Int32) (i2 : Int32) (h : PH) : CT l g d 0 0 yX12_goShares cX12_goShares 4 none em_v [p_rf g o0, .int i1, .int i2] h (fX12_goShares rG o0 i1 i2 h) := by
  refine CT_of (own := RX12) (nm := "goShares") (by decide +kernel) (Nat.le_of_ble_eq_true rfl) rfl rfl rfl ⟨rfl, rfl⟩ (fun K hK C => ?_)
  subst hK
  unfold fX12_goShares
  show VX K g _ _ _ _ _ [(0, p_rf g o0), (1, .int i1), (2, .int i2)] _ _ _
  refine r_iload_n C dX12_goShares_0 2 rfl ?_
  refine r_aload_n C dX12_goShares_1 0 rfl ?_
  refine r_gi C wf_X12_123_11 dX12_goShares_2 (fun x1 => ?_)
  refine r_iload_n C dX12_goShares_5 1 rfl ?_
  refine r_isub C dX12_goShares_6 ?_
  refine r_aload_n C dX12_goShares_7 0 rfl ?_
  refine r_gi C wf_X12_126_11 dX12_goShares_8 (fun x2 => ?_)
  refine r_imul C dX12_goShares_11 ?_
  refine r_iadd C dX12_goShares_12 ?_
  refine r_aload_n C dX12_goShares_13 0 rfl ?_
  refine r_gi C wf_X12_392_11 dX12_goShares_14 (fun x3 => ?_)
  refine r_icmp_gt (tgt := 21) C dX12_goShares_17 (by decide) ?_ ?_
  · refine r_iload_n C dX12_goShares_21 1 rfl ?_
    refine r_aload_n C dX12_goShares_22 0 rfl ?_
    refine r_gi C wf_X12_123_11 dX12_goShares_23 (fun x4 => ?_)
    refine r_icmp_ne (tgt := 63) C dX12_goShares_26 (by decide) ?_ ?_
    · refine r_iconst C dX12_goShares_63 k_im1 ?_
      refine r_istore_n (lv9 := [(3, .int (-1 : Int32)), (0, p_rf g o0), (1, .int i1), (2, .int i2)]) C dX12_goShares_64 (by decide) rfl ?_
      refine r_perm (lv' := [(0, p_rf g o0), (1, .int i1), (2, .int i2), (3, .int (-1 : Int32))]) [1, 2, 3, 0] rfl ?_
      refine tX12_goShares_L65 hg hdd hrG C o0 i1 i2 (fun h5 => ?_) FU (-1 : Int32) h
      exact r_vret C dX12_goShares_164
    · refine r_aload_n C dX12_goShares_29 0 rfl ?_
      refine r_iload_n C dX12_goShares_30 2 rfl ?_
      refine r_pi C wf_X12_392_11 dX12_goShares_31 (fun h6 => ?_)
      refine r_iconst C dX12_goShares_34 k_i0 ?_
      refine r_istore_n (lv9 := [(3, .int (0 : Int32)), (0, p_rf g o0), (1, .int i1), (2, .int i2)]) C dX12_goShares_35 (by decide) rfl ?_
      refine r_perm (lv' := [(0, p_rf g o0), (3, .int (0 : Int32))]) [1, 0] rfl ?_
      refine tX12_goShares_L36 hg hdd hrG C o0 (fun h7 => ?_) FU (0 : Int32) h6
      exact r_vret C dX12_goShares_62
  · exact r_vret C dX12_goShares_20
theorem xX12_goShares_n (l : Launch) (g : WG) (hg : p_al g = false) : ∀ (n d : Nat), n * 3 ≤ d → ∀ (o : Nat) (a : Int32) (b : Int32) (h : PH), CT l g d 0 0 yX12_goShares cX12_goShares 4 none em_v [p_rf g o, .int a, .int b] h (rX12_goShares n o a b h)
  | 0, _, _, _, _, _, _ => fun r h' hz => by cases hz
  | n + 1, d, hd, o, a, b, h => by
    have ih := xX12_goShares_n l g hg n
    show CT l g d 0 0 yX12_goShares cX12_goShares 4 none em_v [p_rf g o, .int a, .int b] h (fX12_goShares (rX12_goShares n) o a b h)
    exact tcX12_goShares l g hg (dr := d - 3) (by omega) (fun o a b h => ih _ (by omega) o a b h) o a b h
theorem xX12_goShares (l : Launch) (g : WG) (hg : p_al g = false) (o : Nat) (a : Int32) (b : Int32) (h : PH) : CT l g 24 0 0 yX12_goShares cX12_goShares 4 none em_v [p_rf g o, .int a, .int b] h (rX12_goShares 8 o a b h) := xX12_goShares_n l g hg 8 _ (by omega) o a b h
set_option maxRecDepth 100000 in
set_option maxHeartbeats 4000000 in
theorem tX12_shares_L24 {K : AC} {g : WG} (hg : p_al g = false)  (C : Cx K g cX12_shares 3 RX12 (some .int) "shares" 614 0 0) (o0 : Nat) {kx : PH → Option (Int32 × PH)} (hk : ∀  (h : PH), VX K g 3 0 0 (a_fin K g 0 0 em_i) 50 [(0, p_rf g o0)] [] h (kx h)) : ∀ (n : Nat) (i2 : Int32) (h : PH), VX K g 3 0 0 (a_fin K g 0 0 em_i) 24 [(0, p_rf g o0), (2, .int i2)] [] h (fX12_shares_L24 o0 kx n i2 h) := by
  intro n
  induction n with
  | zero =>
    intros
    exact r_none
  | succ n ih =>
    intro i2 h
    rw [fX12_shares_L24]
    refine r_iload_n C dX12_shares_24 1 rfl ?_
    refine r_aload_n C dX12_shares_25 0 rfl ?_
    refine r_gi C wf_X12_116_11 dX12_shares_26 (fun x1 => ?_)
    refine r_icmp_ge (tgt := 50) C dX12_shares_29 (by decide) ?_ ?_
    · refine r_perm (lv' := [(0, p_rf g o0)]) [0] rfl ?_
      exact hk h
    · refine r_aload_n C dX12_shares_32 0 rfl ?_
      refine r_gr C wf_X12_93_11 dX12_shares_33 (fun q2 => ?_)
      refine r_iload_n C dX12_shares_36 1 rfl ?_
      refine r_aload_n C dX12_shares_37 0 rfl ?_
      refine r_gr C wf_X12_9_11 dX12_shares_38 (fun q3 => ?_)
      refine r_iload_n C dX12_shares_41 1 rfl ?_
      refine r_iald C dX12_shares_42 (fun x4 => ?_)
      refine r_iast C dX12_shares_43 (fun h5 => ?_)
      refine r_iinc (lv' := [(0, p_rf g o0)]) C dX12_shares_44 1 rfl k_i1 (by decide) (fun _ => rfl) (fun x6 => ?_)
      refine r_goto (tgt := 24) C dX12_shares_47 (by decide) ?_
      refine r_perm (lv' := [(0, p_rf g o0), (2, .int x6)]) [1, 0] rfl ?_
      exact ih x6 h5
set_option maxRecDepth 100000 in
set_option maxHeartbeats 4000000 in
theorem tX12_shares_L68 {K : AC} {g : WG} (hg : p_al g = false)  (C : Cx K g cX12_shares 3 RX12 (some .int) "shares" 614 0 0) (o0 : Nat) {kx : PH → Option (Int32 × PH)} (hk : ∀  (h : PH), VX K g 3 0 0 (a_fin K g 0 0 em_i) 93 [(0, p_rf g o0)] [] h (kx h)) : ∀ (n : Nat) (i2 : Int32) (h : PH), VX K g 3 0 0 (a_fin K g 0 0 em_i) 68 [(0, p_rf g o0), (2, .int i2)] [] h (fX12_shares_L68 o0 kx n i2 h) := by
  intro n
  induction n with
  | zero =>
    intros
    exact r_none
  | succ n ih =>
    intro i2 h
    rw [fX12_shares_L68]
    refine r_iload_n C dX12_shares_68 1 rfl ?_
    refine r_aload_n C dX12_shares_69 0 rfl ?_
    refine r_gi C wf_X12_123_11 dX12_shares_70 (fun x1 => ?_)
    refine r_icmp_ge (tgt := 93) C dX12_shares_73 (by decide) ?_ ?_
    · refine r_perm (lv' := [(0, p_rf g o0)]) [0] rfl ?_
      exact hk h
    · refine r_aload_n C dX12_shares_76 0 rfl ?_
      refine r_aload_n C dX12_shares_77 0 rfl ?_
      refine r_gr C wf_X12_90_11 dX12_shares_78 (fun q2 => ?_)
      refine r_iload_n C dX12_shares_81 1 rfl ?_
      refine r_iald C dX12_shares_82 (fun x3 => ?_)
      refine r_i2l C dX12_shares_83 ?_
      refine r_cvv (As := [.long (x3.toInt64)]) (st := []) C wv_X12_329 (tcX12_tell K.2.1 g hg o0 (x3.toInt64) h) (Nat.le_of_ble_eq_true rfl) rfl rfl (Nat.le_of_ble_eq_true rfl) dX12_shares_84 ⟨Nat.le_of_ble_eq_true rfl, Nat.le_of_ble_eq_true rfl⟩ (fun h4 => ?_)
      refine r_iinc (lv' := [(0, p_rf g o0)]) C dX12_shares_87 1 rfl k_i1 (by decide) (fun _ => rfl) (fun x5 => ?_)
      refine r_goto (tgt := 68) C dX12_shares_90 (by decide) ?_
      refine r_perm (lv' := [(0, p_rf g o0), (2, .int x5)]) [1, 0] rfl ?_
      exact ih x5 h4
set_option maxRecDepth 100000 in
set_option maxHeartbeats 4000000 in
theorem tcX12_shares (l : Launch) (g : WG) (hg : p_al g = false) (o0 : Nat) (i1 : Int32) (h : PH) : CT l g 614 0 0 yX12_shares cX12_shares 3 (some .int) em_i [p_rf g o0, .int i1] h (fX12_shares o0 i1 h) := by
  refine CT_of (own := RX12) (nm := "shares") (by decide +kernel) (Nat.le_of_ble_eq_true rfl) rfl rfl rfl ⟨rfl, rfl⟩ (fun K hK C => ?_)
  subst hK
  unfold fX12_shares
  show VX K g _ _ _ _ _ [(0, p_rf g o0), (1, .int i1)] _ _ _
  refine r_aload_n C dX12_shares_0 0 rfl ?_
  refine r_iconst C dX12_shares_1 k_i0 ?_
  refine r_pi C wf_X12_109_11 dX12_shares_2 (fun h1 => ?_)
  refine r_iload_n C dX12_shares_5 1 rfl ?_
  refine r_iconst C dX12_shares_6 k_i0 ?_
  refine r_bipush C dX12_shares_7 k_b20 ?_
  refine r_csi (As := [.int i1, .int (0 : Int32), .int (20 : Int32)]) (st := []) C ws_X12_119 (tcX12_in K.2.1 g hg i1 (0 : Int32) (20 : Int32) h1) (Nat.le_of_ble_eq_true rfl) rfl rfl (Nat.le_of_ble_eq_true rfl) dX12_shares_9 ⟨Nat.le_of_ble_eq_true rfl, Nat.le_of_ble_eq_true rfl⟩ (fun x2 h3 => ?_)
  refine r_if_ne (tgt := 17) C dX12_shares_12 (by decide) ?_ ?_
  · refine r_aload_n C dX12_shares_17 0 rfl ?_
    refine r_iload_n C dX12_shares_18 1 rfl ?_
    refine r_cvv (As := [.int i1]) (st := []) C wv_X12_389 (tcX12_layServed K.2.1 g hg o0 i1 h3) (Nat.le_of_ble_eq_true rfl) rfl rfl (Nat.le_of_ble_eq_true rfl) dX12_shares_19 ⟨Nat.le_of_ble_eq_true rfl, Nat.le_of_ble_eq_true rfl⟩ (fun h4 => ?_)
    refine r_iconst C dX12_shares_22 k_i0 ?_
    refine r_istore_n (lv9 := [(2, .int (0 : Int32)), (0, p_rf g o0), (1, .int i1)]) C dX12_shares_23 (by decide) rfl ?_
    refine r_perm (lv' := [(0, p_rf g o0), (2, .int (0 : Int32))]) [1, 0] rfl ?_
    refine tX12_shares_L24 hg C o0 (fun h5 => ?_) FU (0 : Int32) h4
    refine r_aload_n C dX12_shares_50 0 rfl ?_
    refine r_iconst C dX12_shares_51 k_im1 ?_
    refine r_pi C wf_X12_392_11 dX12_shares_52 (fun h6 => ?_)
    refine r_aload_n C dX12_shares_55 0 rfl ?_
    refine r_iconst C dX12_shares_56 k_i0 ?_
    refine r_iconst C dX12_shares_57 k_i0 ?_
    refine r_cvv (As := [.int (0 : Int32), .int (0 : Int32)]) (st := []) C wv_X12_398 (xX12_goShares K.2.1 g hg o0 (0 : Int32) (0 : Int32) h6) (Nat.le_of_ble_eq_true rfl) rfl rfl (Nat.le_of_ble_eq_true rfl) dX12_shares_58 ⟨Nat.le_of_ble_eq_true rfl, Nat.le_of_ble_eq_true rfl⟩ (fun h7 => ?_)
    refine r_aload_n C dX12_shares_61 0 rfl ?_
    refine r_iconst C dX12_shares_62 k_i0 ?_
    refine r_pi C wf_X12_113_11 dX12_shares_63 (fun h8 => ?_)
    refine r_iconst C dX12_shares_66 k_i0 ?_
    refine r_istore_n (lv9 := [(2, .int (0 : Int32)), (0, p_rf g o0)]) C dX12_shares_67 (by decide) rfl ?_
    refine r_perm (lv' := [(0, p_rf g o0), (2, .int (0 : Int32))]) [1, 0] rfl ?_
    refine tX12_shares_L68 hg C o0 (fun h9 => ?_) FU (0 : Int32) h8
    refine r_aload_n C dX12_shares_93 0 rfl ?_
    refine r_gi C wf_X12_392_11 dX12_shares_94 (fun x10 => ?_)
    exact r_iret C dX12_shares_97
  · refine r_iconst C dX12_shares_15 k_im1 ?_
    exact r_iret C dX12_shares_16
set_option maxRecDepth 100000 in
set_option maxHeartbeats 4000000 in
theorem tX12_timesBy_L16 {K : AC} {g : WG} (hg : p_al g = false)  (C : Cx K g cX12_timesBy 7 RX12 (some .int) "timesBy" 1 0 0) (o0 : Nat) (i3 : Int32) (i4 : Int32) {kx : PH → Option (Int32 × PH)} (hk : ∀  (h : PH), VX K g 7 0 0 (a_fin K g 0 0 em_i) 72 [] [] h (kx h)) : ∀ (n : Nat) (i5 : Int32) (h : PH), VX K g 7 0 0 (a_fin K g 0 0 em_i) 16 [(0, p_rf g o0), (3, .int i3), (4, .int i4), (5, .int i5)] [] h (fX12_timesBy_L16 o0 i3 i4 kx n i5 h) := by
  intro n
  induction n with
  | zero =>
    intros
    exact r_none
  | succ n ih =>
    intro i5 h
    rw [fX12_timesBy_L16]
    refine r_iload C dX12_timesBy_16 3 rfl ?_
    refine r_iload_n C dX12_timesBy_18 1 rfl ?_
    refine r_imul C dX12_timesBy_19 ?_
    refine r_iload C dX12_timesBy_20 2 rfl ?_
    refine r_icmp_gt (tgt := 72) C dX12_timesBy_22 (by decide) ?_ ?_
    · refine r_perm (lv' := []) [] rfl ?_
      exact hk h
    · refine r_iload C dX12_timesBy_25 2 rfl ?_
      refine r_iload C dX12_timesBy_27 3 rfl ?_
      refine r_iload_n C dX12_timesBy_29 1 rfl ?_
      refine r_imul C dX12_timesBy_30 ?_
      refine r_isub C dX12_timesBy_31 ?_
      refine r_topi (fun x1 => ?_)
      refine r_istore (lv9 := [(6, .int x1), (0, p_rf g o0), (3, .int i3), (4, .int i4), (5, .int i5)]) C dX12_timesBy_32 (by decide) rfl ?_
      refine r_iload C dX12_timesBy_34 0 rfl ?_
      refine r_if_eq (tgt := 63) C dX12_timesBy_36 (by decide) ?_ ?_
      · refine r_iload C dX12_timesBy_63 4 rfl ?_
        exact r_iret C dX12_timesBy_65
      · refine r_aload_n C dX12_timesBy_39 1 rfl ?_
        refine r_gr C wf_X12_96_11 dX12_timesBy_40 (fun q2 => ?_)
        refine r_bipush C dX12_timesBy_43 k_b100 ?_
        refine r_iload C dX12_timesBy_45 0 rfl ?_
        refine r_iload_n C dX12_timesBy_47 2 rfl ?_
        refine r_max C wm_X12_250 (Nat.le_of_ble_eq_true rfl) (Nat.le_of_ble_eq_true rfl) ⟨Nat.le_of_ble_eq_true rfl, Nat.le_of_ble_eq_true rfl⟩ dX12_timesBy_48 ?_
        refine r_imul C dX12_timesBy_51 ?_
        refine r_iload C dX12_timesBy_52 0 rfl ?_
        refine r_iload_n C dX12_timesBy_54 2 rfl ?_
        refine r_min C wm_X12_245 (Nat.le_of_ble_eq_true rfl) (Nat.le_of_ble_eq_true rfl) ⟨Nat.le_of_ble_eq_true rfl, Nat.le_of_ble_eq_true rfl⟩ dX12_timesBy_55 ?_
        refine r_iadd C dX12_timesBy_58 ?_
        refine r_iald C dX12_timesBy_59 (fun x3 => ?_)
        refine r_if_ne (tgt := 66) C dX12_timesBy_60 (by decide) ?_ ?_
        · refine r_iinc (lv' := [(6, .int x1), (0, p_rf g o0), (3, .int i3), (4, .int i4)]) C dX12_timesBy_66 4 rfl k_i1 (by decide) (fun _ => rfl) (fun x4 => ?_)
          refine r_goto (tgt := 16) C dX12_timesBy_69 (by decide) ?_
          refine r_perm (lv' := [(0, p_rf g o0), (3, .int i3), (4, .int i4), (5, .int x4)]) [2, 3, 4, 0] rfl ?_
          exact ih x4 h
        · refine r_iload C dX12_timesBy_63 4 rfl ?_
          exact r_iret C dX12_timesBy_65
set_option maxRecDepth 100000 in
set_option maxHeartbeats 4000000 in
theorem tcX12_timesBy (l : Launch) (g : WG) (hg : p_al g = false) (o0 : Nat) (i1 : Int32) (i2 : Int32) (h : PH) : CT l g 1 0 0 yX12_timesBy cX12_timesBy 7 (some .int) em_i [p_rf g o0, .int i1, .int i2] h (fX12_timesBy o0 i1 i2 h) := by
  refine CT_of (own := RX12) (nm := "timesBy") (by decide +kernel) (Nat.le_of_ble_eq_true rfl) rfl rfl rfl ⟨rfl, rfl⟩ (fun K hK C => ?_)
  subst hK
  unfold fX12_timesBy
  show VX K g _ _ _ _ _ [(0, p_rf g o0), (1, .int i1), (2, .int i2)] _ _ _
  refine r_iload_n C dX12_timesBy_0 1 rfl ?_
  refine r_iload_n C dX12_timesBy_1 2 rfl ?_
  refine r_min C wm_X12_245 (Nat.le_of_ble_eq_true rfl) (Nat.le_of_ble_eq_true rfl) ⟨Nat.le_of_ble_eq_true rfl, Nat.le_of_ble_eq_true rfl⟩ dX12_timesBy_2 ?_
  refine r_topi (fun x1 => ?_)
  refine r_istore_n (lv9 := [(3, .int x1), (0, p_rf g o0), (1, .int i1), (2, .int i2)]) C dX12_timesBy_5 (by decide) rfl ?_
  refine r_iload_n C dX12_timesBy_6 2 rfl ?_
  refine r_iload_n C dX12_timesBy_7 3 rfl ?_
  refine r_max C wm_X12_250 (Nat.le_of_ble_eq_true rfl) (Nat.le_of_ble_eq_true rfl) ⟨Nat.le_of_ble_eq_true rfl, Nat.le_of_ble_eq_true rfl⟩ dX12_timesBy_8 ?_
  refine r_topi (fun x2 => ?_)
  refine r_istore (lv9 := [(4, .int x2), (3, .int x1), (0, p_rf g o0), (1, .int i1), (2, .int i2)]) C dX12_timesBy_11 (by decide) rfl ?_
  refine r_iconst C dX12_timesBy_13 k_i1 ?_
  refine r_istore (lv9 := [(5, .int (1 : Int32)), (4, .int x2), (3, .int x1), (0, p_rf g o0), (1, .int i1), (2, .int i2)]) C dX12_timesBy_14 (by decide) rfl ?_
  refine r_perm (lv' := [(0, p_rf g o0), (3, .int x1), (4, .int x2), (5, .int (1 : Int32))]) [3, 2, 1, 0] rfl ?_
  refine tX12_timesBy_L16 hg C o0 x1 x2 (fun h3 => ?_) FU (1 : Int32) h
  refine r_iconst C dX12_timesBy_72 k_i0 ?_
  exact r_iret C dX12_timesBy_73
set_option maxRecDepth 100000 in
set_option maxHeartbeats 4000000 in
theorem tX12_counter_L52 {K : AC} {g : WG} (hg : p_al g = false)  (C : Cx K g cX12_counter 5 RX12 (some .int) "counter" 2 0 0) (o0 : Nat) (i1 : Int32) (i2 : Int32) (i3 : Int32) {kx : PH → Option (Int32 × PH)} (hk : ∀  (h : PH), VX K g 5 0 0 (a_fin K g 0 0 em_i) 83 [(0, p_rf g o0), (1, .int i1), (2, .int i2), (3, .int i3)] [] h (kx h)) : ∀ (n : Nat) (i4 : Int32) (h : PH), VX K g 5 0 0 (a_fin K g 0 0 em_i) 52 [(0, p_rf g o0), (1, .int i1), (2, .int i2), (3, .int i3), (4, .int i4)] [] h (fX12_counter_L52 o0 i1 i2 i3 kx n i4 h) := by
  intro n
  induction n with
  | zero =>
    intros
    exact r_none
  | succ n ih =>
    intro i4 h
    rw [fX12_counter_L52]
    refine r_iload C dX12_counter_52 4 rfl ?_
    refine r_iload_n C dX12_counter_54 3 rfl ?_
    refine r_icmp_gt (tgt := 83) C dX12_counter_55 (by decide) ?_ ?_
    · refine r_perm (lv' := [(0, p_rf g o0), (1, .int i1), (2, .int i2), (3, .int i3)]) [0, 1, 2, 3] rfl ?_
      exact hk h
    · refine r_aload_n C dX12_counter_58 0 rfl ?_
      refine r_gr C wf_X12_96_11 dX12_counter_59 (fun q1 => ?_)
      refine r_bipush C dX12_counter_62 k_b100 ?_
      refine r_iload_n C dX12_counter_64 3 rfl ?_
      refine r_imul C dX12_counter_65 ?_
      refine r_iload C dX12_counter_66 4 rfl ?_
      refine r_iadd C dX12_counter_68 ?_
      refine r_aload_n C dX12_counter_69 0 rfl ?_
      refine r_iload_n C dX12_counter_70 3 rfl ?_
      refine r_iload C dX12_counter_71 4 rfl ?_
      refine r_cvi (As := [.int i3, .int i4]) (st := [.int (((100 : Int32) * i3) + i4), p_rf g q1]) C wv_X12_402 (tcX12_timesBy K.2.1 g hg o0 i3 i4 h) (Nat.le_of_ble_eq_true rfl) rfl rfl (Nat.le_of_ble_eq_true rfl) dX12_counter_73 ⟨Nat.le_of_ble_eq_true rfl, Nat.le_of_ble_eq_true rfl⟩ (fun x2 h3 => ?_)
      refine r_iast C dX12_counter_76 (fun h4 => ?_)
      refine r_iinc (lv' := [(0, p_rf g o0), (1, .int i1), (2, .int i2), (3, .int i3)]) C dX12_counter_77 4 rfl k_i1 (by decide) (fun _ => rfl) (fun x5 => ?_)
      refine r_goto (tgt := 52) C dX12_counter_80 (by decide) ?_
      refine r_perm (lv' := [(0, p_rf g o0), (1, .int i1), (2, .int i2), (3, .int i3), (4, .int x5)]) [1, 2, 3, 4, 0] rfl ?_
      exact ih x5 h4
set_option maxRecDepth 100000 in
set_option maxHeartbeats 4000000 in
theorem tX12_counter_L40 {K : AC} {g : WG} (hg : p_al g = false)  (C : Cx K g cX12_counter 5 RX12 (some .int) "counter" 2 0 0) (o0 : Nat) (i1 : Int32) (i2 : Int32) {kx : PH → Option (Int32 × PH)} (hk : ∀  (h : PH), VX K g 5 0 0 (a_fin K g 0 0 em_i) 89 [(0, p_rf g o0), (1, .int i1), (2, .int i2)] [] h (kx h)) : ∀ (n : Nat) (i3 : Int32) (h : PH), VX K g 5 0 0 (a_fin K g 0 0 em_i) 40 [(0, p_rf g o0), (1, .int i1), (2, .int i2), (3, .int i3)] [] h (fX12_counter_L40 o0 i1 i2 kx n i3 h) := by
  intro n
  induction n with
  | zero =>
    intros
    exact r_none
  | succ n ih =>
    intro i3 h
    rw [fX12_counter_L40]
    refine r_iload_n C dX12_counter_40 3 rfl ?_
    refine r_iload_n C dX12_counter_41 1 rfl ?_
    refine r_iload_n C dX12_counter_42 2 rfl ?_
    refine r_max C wm_X12_250 (Nat.le_of_ble_eq_true rfl) (Nat.le_of_ble_eq_true rfl) ⟨Nat.le_of_ble_eq_true rfl, Nat.le_of_ble_eq_true rfl⟩ dX12_counter_43 ?_
    refine r_icmp_gt (tgt := 89) C dX12_counter_46 (by decide) ?_ ?_
    · refine r_perm (lv' := [(0, p_rf g o0), (1, .int i1), (2, .int i2)]) [0, 1, 2] rfl ?_
      exact hk h
    · refine r_iconst C dX12_counter_49 k_i1 ?_
      refine r_istore (lv9 := [(4, .int (1 : Int32)), (0, p_rf g o0), (1, .int i1), (2, .int i2), (3, .int i3)]) C dX12_counter_50 (by decide) rfl ?_
      refine r_perm (lv' := [(0, p_rf g o0), (1, .int i1), (2, .int i2), (3, .int i3), (4, .int (1 : Int32))]) [1, 2, 3, 4, 0] rfl ?_
      refine tX12_counter_L52 hg C o0 i1 i2 i3 (fun h1 => ?_) FU (1 : Int32) h
      refine r_iinc (lv' := [(0, p_rf g o0), (1, .int i1), (2, .int i2)]) C dX12_counter_83 3 rfl k_i1 (by decide) (fun _ => rfl) (fun x2 => ?_)
      refine r_goto (tgt := 40) C dX12_counter_86 (by decide) ?_
      refine r_perm (lv' := [(0, p_rf g o0), (1, .int i1), (2, .int i2), (3, .int x2)]) [1, 2, 3, 0] rfl ?_
      exact ih x2 h1
set_option maxRecDepth 100000 in
set_option maxHeartbeats 4000000 in
theorem tcX12_counter (l : Launch) (g : WG) (hg : p_al g = false) (o0 : Nat) (i1 : Int32) (i2 : Int32) (h : PH) : CT l g 2 0 0 yX12_counter cX12_counter 5 (some .int) em_i [p_rf g o0, .int i1, .int i2] h (fX12_counter o0 i1 i2 h) := by
  refine CT_of (own := RX12) (nm := "counter") (by decide +kernel) (Nat.le_of_ble_eq_true rfl) rfl rfl rfl ⟨rfl, rfl⟩ (fun K hK C => ?_)
  subst hK
  unfold fX12_counter
  show VX K g _ _ _ _ _ [(0, p_rf g o0), (1, .int i1), (2, .int i2)] _ _ _
  refine r_aload_n C dX12_counter_0 0 rfl ?_
  refine r_iconst C dX12_counter_1 k_i0 ?_
  refine r_pi C wf_X12_109_11 dX12_counter_2 (fun h1 => ?_)
  refine r_iload_n C dX12_counter_5 1 rfl ?_
  refine r_iconst C dX12_counter_6 k_i0 ?_
  refine r_bipush C dX12_counter_7 k_b99 ?_
  refine r_csi (As := [.int i1, .int (0 : Int32), .int (99 : Int32)]) (st := []) C ws_X12_119 (tcX12_in K.2.1 g hg i1 (0 : Int32) (99 : Int32) h1) (Nat.le_of_ble_eq_true rfl) rfl rfl (Nat.le_of_ble_eq_true rfl) dX12_counter_9 ⟨Nat.le_of_ble_eq_true rfl, Nat.le_of_ble_eq_true rfl⟩ (fun x2 h3 => ?_)
  refine r_if_eq (tgt := 25) C dX12_counter_12 (by decide) ?_ ?_
  · refine r_iconst C dX12_counter_25 k_im1 ?_
    exact r_iret C dX12_counter_26
  · refine r_iload_n C dX12_counter_15 2 rfl ?_
    refine r_iconst C dX12_counter_16 k_i0 ?_
    refine r_bipush C dX12_counter_17 k_b99 ?_
    refine r_csi (As := [.int i2, .int (0 : Int32), .int (99 : Int32)]) (st := []) C ws_X12_119 (tcX12_in K.2.1 g hg i2 (0 : Int32) (99 : Int32) h3) (Nat.le_of_ble_eq_true rfl) rfl rfl (Nat.le_of_ble_eq_true rfl) dX12_counter_19 ⟨Nat.le_of_ble_eq_true rfl, Nat.le_of_ble_eq_true rfl⟩ (fun x4 h5 => ?_)
    refine r_if_ne (tgt := 27) C dX12_counter_22 (by decide) ?_ ?_
    · refine r_iload_n C dX12_counter_27 1 rfl ?_
      refine r_if_eq (tgt := 35) C dX12_counter_28 (by decide) ?_ ?_
      · refine r_bipush C dX12_counter_35 k_bm2 ?_
        exact r_iret C dX12_counter_37
      · refine r_iload_n C dX12_counter_31 2 rfl ?_
        refine r_if_ne (tgt := 38) C dX12_counter_32 (by decide) ?_ ?_
        · refine r_iconst C dX12_counter_38 k_i1 ?_
          refine r_istore_n (lv9 := [(3, .int (1 : Int32)), (0, p_rf g o0), (1, .int i1), (2, .int i2)]) C dX12_counter_39 (by decide) rfl ?_
          refine r_perm (lv' := [(0, p_rf g o0), (1, .int i1), (2, .int i2), (3, .int (1 : Int32))]) [1, 2, 3, 0] rfl ?_
          refine tX12_counter_L40 hg C o0 i1 i2 (fun h6 => ?_) FU (1 : Int32) h5
          refine r_aload_n C dX12_counter_89 0 rfl ?_
          refine r_iload_n C dX12_counter_90 1 rfl ?_
          refine r_iload_n C dX12_counter_91 2 rfl ?_
          refine r_cvi (As := [.int i1, .int i2]) (st := []) C wv_X12_402 (tcX12_timesBy K.2.1 g hg o0 i1 i2 h6) (Nat.le_of_ble_eq_true rfl) rfl rfl (Nat.le_of_ble_eq_true rfl) dX12_counter_92 ⟨Nat.le_of_ble_eq_true rfl, Nat.le_of_ble_eq_true rfl⟩ (fun x7 h8 => ?_)
          refine r_istore_n (lv9 := [(3, .int x7), (0, p_rf g o0), (1, .int i1), (2, .int i2)]) C dX12_counter_95 (by decide) rfl ?_
          refine r_aload_n C dX12_counter_96 1 rfl ?_
          refine r_iconst C dX12_counter_97 k_i0 ?_
          refine r_pi C wf_X12_113_11 dX12_counter_98 (fun h9 => ?_)
          refine r_iload_n C dX12_counter_101 0 rfl ?_
          refine r_if_ne (tgt := 107) C dX12_counter_102 (by decide) ?_ ?_
          · refine r_aload_n C dX12_counter_107 1 rfl ?_
            refine r_iload_n C dX12_counter_108 0 rfl ?_
            refine r_i2l C dX12_counter_109 ?_
            refine r_cvv (As := [.long (x7.toInt64)]) (st := []) C wv_X12_329 (tcX12_tell K.2.1 g hg o0 (x7.toInt64) h9) (Nat.le_of_ble_eq_true rfl) rfl rfl (Nat.le_of_ble_eq_true rfl) dX12_counter_110 ⟨Nat.le_of_ble_eq_true rfl, Nat.le_of_ble_eq_true rfl⟩ (fun h10 => ?_)
            refine r_iconst C dX12_counter_113 k_i1 ?_
            exact r_iret C dX12_counter_114
          · refine r_iconst C dX12_counter_105 k_i0 ?_
            exact r_iret C dX12_counter_106
        · refine r_bipush C dX12_counter_35 k_bm2 ?_
          exact r_iret C dX12_counter_37
    · refine r_iconst C dX12_counter_25 k_im1 ?_
      exact r_iret C dX12_counter_26
set_option maxRecDepth 100000 in
set_option maxHeartbeats 4000000 in
theorem tcX12_common (l : Launch) (g : WG) (hg : p_al g = false) {d dr : Nat} (hdd : dr + 1 ≤ d) {rC : Int64 → Int64 → PH → Option (Int64 × PH)} (hrC : ∀ (a b : Int64) (h : PH), CT l g dr 0 0 yX12_common cX12_common 4 (some .long) em_l [.long a, .long b] h (rC a b h)) (l0 : Int64) (l2 : Int64) (h : PH) : CT l g d 0 0 yX12_common cX12_common 4 (some .long) em_l [.long l0, .long l2] h (fX12_common rC l0 l2 h) := by
  refine CT_of (own := RX12) (nm := "common") (by decide +kernel) (Nat.le_of_ble_eq_true rfl) rfl rfl rfl ⟨rfl, rfl⟩ (fun K hK C => ?_)
  subst hK
  unfold fX12_common
  show VX K g _ _ _ _ _ [(0, .long l0), (2, .long l2)] _ _ _
  refine r_lload_n C dX12_common_0 1 rfl ?_
  refine r_lconst (v := (0 : Int64)) C dX12_common_1 (by decide) ?_
  refine r_lcmp C dX12_common_2 ?_
  refine r_if_ne (tgt := 10) C dX12_common_3 (by decide) ?_ ?_
  · refine r_lload_n C dX12_common_10 1 rfl ?_
    refine r_lload_n C dX12_common_11 0 rfl ?_
    refine r_lload_n C dX12_common_12 1 rfl ?_
    refine r_lrem C dX12_common_13 ?_
    refine r_csl (As := [.long l2, .long (l0 - l0 / l2 * l2)]) (st := []) C ws_X12_405 (hrC l2 (l0 - l0 / l2 * l2) h) (by omega) rfl rfl (Nat.le_of_ble_eq_true rfl) dX12_common_14 ⟨Nat.le_of_ble_eq_true rfl, Nat.le_of_ble_eq_true rfl⟩ (fun y1 h2 => ?_)
    exact r_lret C dX12_common_17
  · refine r_lload_n C dX12_common_6 0 rfl ?_
    refine r_goto (tgt := 17) C dX12_common_7 (by decide) ?_
    exact r_lret C dX12_common_17
theorem xX12_common_n (l : Launch) (g : WG) (hg : p_al g = false) : ∀ (n d : Nat), n * 1 ≤ d → ∀ (a : Int64) (b : Int64) (h : PH), CT l g d 0 0 yX12_common cX12_common 4 (some .long) em_l [.long a, .long b] h (rX12_common n a b h)
  | 0, _, _, _, _, _ => fun r h' hz => by cases hz
  | n + 1, d, hd, a, b, h => by
    have ih := xX12_common_n l g hg n
    show CT l g d 0 0 yX12_common cX12_common 4 (some .long) em_l [.long a, .long b] h (fX12_common (rX12_common n) a b h)
    exact tcX12_common l g hg (dr := d - 1) (by omega) (fun a b h => ih _ (by omega) a b h) a b h
theorem xX12_common (l : Launch) (g : WG) (hg : p_al g = false) (a : Int64) (b : Int64) (h : PH) : CT l g 100 0 0 yX12_common cX12_common 4 (some .long) em_l [.long a, .long b] h (rX12_common 100 a b h) := xX12_common_n l g hg 100 _ (by omega) a b h
set_option maxRecDepth 100000 in
set_option maxHeartbeats 4000000 in
theorem tcX12_tellPart (l : Launch) (g : WG) (hg : p_al g = false) (o0 : Nat) (l1 : Int64) (l3 : Int64) (h : PH) : CT l g 101 0 0 yX12_tellPart cX12_tellPart 7 none em_v [p_rf g o0, .long l1, .long l3] h (fX12_tellPart o0 l1 l3 h) := by
  refine CT_of (own := RX12) (nm := "tellPart") (by decide +kernel) (Nat.le_of_ble_eq_true rfl) rfl rfl rfl ⟨rfl, rfl⟩ (fun K hK C => ?_)
  subst hK
  unfold fX12_tellPart
  show VX K g _ _ _ _ _ [(0, p_rf g o0), (1, .long l1), (3, .long l3)] _ _ _
  refine r_lload_n C dX12_tellPart_0 1 rfl ?_
  refine r_lload_n C dX12_tellPart_1 2 rfl ?_
  refine r_csl (As := [.long l1, .long l3]) (st := []) C ws_X12_405 (xX12_common K.2.1 g hg l1 l3 h) (Nat.le_of_ble_eq_true rfl) rfl rfl (Nat.le_of_ble_eq_true rfl) dX12_tellPart_2 ⟨Nat.le_of_ble_eq_true rfl, Nat.le_of_ble_eq_true rfl⟩ (fun y1 h2 => ?_)
  refine r_lstore (lv9 := [(5, .long y1), (0, p_rf g o0), (1, .long l1), (3, .long l3)]) C dX12_tellPart_5 (by decide) rfl ?_
  refine r_aload_n C dX12_tellPart_7 1 rfl ?_
  refine r_iconst C dX12_tellPart_8 k_i0 ?_
  refine r_pi C wf_X12_113_11 dX12_tellPart_9 (fun h3 => ?_)
  refine r_aload_n C dX12_tellPart_12 1 rfl ?_
  refine r_lload_n C dX12_tellPart_13 2 rfl ?_
  refine r_lload C dX12_tellPart_14 0 rfl ?_
  refine r_ldiv C dX12_tellPart_16 ?_
  refine r_cvv (As := [.long (l1 / y1)]) (st := []) C wv_X12_329 (tcX12_tell K.2.1 g hg o0 (l1 / y1) h3) (Nat.le_of_ble_eq_true rfl) rfl rfl (Nat.le_of_ble_eq_true rfl) dX12_tellPart_17 ⟨Nat.le_of_ble_eq_true rfl, Nat.le_of_ble_eq_true rfl⟩ (fun h4 => ?_)
  refine r_aload_n C dX12_tellPart_20 1 rfl ?_
  refine r_lload_n C dX12_tellPart_21 3 rfl ?_
  refine r_lload C dX12_tellPart_22 0 rfl ?_
  refine r_ldiv C dX12_tellPart_24 ?_
  refine r_cvv (As := [.long (l3 / y1)]) (st := []) C wv_X12_329 (tcX12_tell K.2.1 g hg o0 (l3 / y1) h4) (Nat.le_of_ble_eq_true rfl) rfl rfl (Nat.le_of_ble_eq_true rfl) dX12_tellPart_25 ⟨Nat.le_of_ble_eq_true rfl, Nat.le_of_ble_eq_true rfl⟩ (fun h5 => ?_)
  exact r_vret C dX12_tellPart_28
set_option maxRecDepth 100000 in
set_option maxHeartbeats 4000000 in
theorem tcX12_orders (l : Launch) (g : WG) (hg : p_al g = false) {d dr : Nat} (hdd : dr + 1 ≤ d) {rO : Int32 → PH → Option (Int64 × PH)} (hrO : ∀ (a : Int32) (h : PH), CT l g dr 0 0 yX12_orders cX12_orders 1 (some .long) em_l [.int a] h (rO a h)) (i0 : Int32) (h : PH) : CT l g d 0 0 yX12_orders cX12_orders 1 (some .long) em_l [.int i0] h (fX12_orders rO i0 h) := by
  refine CT_of (own := RX12) (nm := "orders") (by decide +kernel) (Nat.le_of_ble_eq_true rfl) rfl rfl rfl ⟨rfl, rfl⟩ (fun K hK C => ?_)
  subst hK
  unfold fX12_orders
  show VX K g _ _ _ _ _ [(0, .int i0)] _ _ _
  refine r_iload_n C dX12_orders_0 0 rfl ?_
  refine r_if_ne (tgt := 8) C dX12_orders_1 (by decide) ?_ ?_
  · refine r_iload_n C dX12_orders_8 0 rfl ?_
    refine r_i2l C dX12_orders_9 ?_
    refine r_iload_n C dX12_orders_10 0 rfl ?_
    refine r_iconst C dX12_orders_11 k_i1 ?_
    refine r_isub C dX12_orders_12 ?_
    refine r_csl (As := [.int (i0 - (1 : Int32))]) (st := [.long (i0.toInt64)]) C ws_X12_409 (hrO (i0 - (1 : Int32)) h) (by omega) rfl rfl (Nat.le_of_ble_eq_true rfl) dX12_orders_13 ⟨Nat.le_of_ble_eq_true rfl, Nat.le_of_ble_eq_true rfl⟩ (fun y1 h2 => ?_)
    refine r_lmul C dX12_orders_16 ?_
    exact r_lret C dX12_orders_17
  · refine r_lconst (v := (1 : Int64)) C dX12_orders_4 (by decide) ?_
    refine r_goto (tgt := 17) C dX12_orders_5 (by decide) ?_
    exact r_lret C dX12_orders_17
theorem xX12_orders_n (l : Launch) (g : WG) (hg : p_al g = false) : ∀ (n d : Nat), n * 1 ≤ d → ∀ (a : Int32) (h : PH), CT l g d 0 0 yX12_orders cX12_orders 1 (some .long) em_l [.int a] h (rX12_orders n a h)
  | 0, _, _, _, _ => fun r h' hz => by cases hz
  | n + 1, d, hd, a, h => by
    have ih := xX12_orders_n l g hg n
    show CT l g d 0 0 yX12_orders cX12_orders 1 (some .long) em_l [.int a] h (fX12_orders (rX12_orders n) a h)
    exact tcX12_orders l g hg (dr := d - 1) (by omega) (fun a h => ih _ (by omega) a h) a h
theorem xX12_orders (l : Launch) (g : WG) (hg : p_al g = false) (a : Int32) (h : PH) : CT l g 10 0 0 yX12_orders cX12_orders 1 (some .long) em_l [.int a] h (rX12_orders 10 a h) := xX12_orders_n l g hg 10 _ (by omega) a h
set_option maxRecDepth 100000 in
set_option maxHeartbeats 4000000 in
theorem tcX12_strays (l : Launch) (g : WG) (hg : p_al g = false) {d dr : Nat} (hdd : dr + 1 ≤ d) {rY : Int32 → PH → Option (Int64 × PH)} (hrY : ∀ (a : Int32) (h : PH), CT l g dr 0 0 yX12_strays cX12_strays 1 (some .long) em_l [.int a] h (rY a h)) (i0 : Int32) (h : PH) : CT l g d 0 0 yX12_strays cX12_strays 1 (some .long) em_l [.int i0] h (fX12_strays rY i0 h) := by
  refine CT_of (own := RX12) (nm := "strays") (by decide +kernel) (Nat.le_of_ble_eq_true rfl) rfl rfl rfl ⟨rfl, rfl⟩ (fun K hK C => ?_)
  subst hK
  unfold fX12_strays
  show VX K g _ _ _ _ _ [(0, .int i0)] _ _ _
  refine r_iload_n C dX12_strays_0 0 rfl ?_
  refine r_if_ne (tgt := 8) C dX12_strays_1 (by decide) ?_ ?_
  · refine r_iload_n C dX12_strays_8 0 rfl ?_
    refine r_iconst C dX12_strays_9 k_i1 ?_
    refine r_icmp_ne (tgt := 17) C dX12_strays_10 (by decide) ?_ ?_
    · refine r_iload_n C dX12_strays_17 0 rfl ?_
      refine r_iconst C dX12_strays_18 k_i1 ?_
      refine r_isub C dX12_strays_19 ?_
      refine r_i2l C dX12_strays_20 ?_
      refine r_iload_n C dX12_strays_21 0 rfl ?_
      refine r_iconst C dX12_strays_22 k_i1 ?_
      refine r_isub C dX12_strays_23 ?_
      refine r_csl (As := [.int (i0 - (1 : Int32))]) (st := [.long ((i0 - (1 : Int32)).toInt64)]) C ws_X12_413 (hrY (i0 - (1 : Int32)) h) (by omega) rfl rfl (Nat.le_of_ble_eq_true rfl) dX12_strays_24 ⟨Nat.le_of_ble_eq_true rfl, Nat.le_of_ble_eq_true rfl⟩ (fun y1 h2 => ?_)
      refine r_iload_n C dX12_strays_27 0 rfl ?_
      refine r_iconst C dX12_strays_28 k_i2 ?_
      refine r_isub C dX12_strays_29 ?_
      refine r_csl (As := [.int (i0 - (2 : Int32))]) (st := [.long y1, .long ((i0 - (1 : Int32)).toInt64)]) C ws_X12_413 (hrY (i0 - (2 : Int32)) h2) (by omega) rfl rfl (Nat.le_of_ble_eq_true rfl) dX12_strays_30 ⟨Nat.le_of_ble_eq_true rfl, Nat.le_of_ble_eq_true rfl⟩ (fun y3 h4 => ?_)
      refine r_ladd C dX12_strays_33 ?_
      refine r_lmul C dX12_strays_34 ?_
      exact r_lret C dX12_strays_35
    · refine r_lconst (v := (0 : Int64)) C dX12_strays_13 (by decide) ?_
      refine r_goto (tgt := 35) C dX12_strays_14 (by decide) ?_
      exact r_lret C dX12_strays_35
  · refine r_lconst (v := (1 : Int64)) C dX12_strays_4 (by decide) ?_
    refine r_goto (tgt := 35) C dX12_strays_5 (by decide) ?_
    exact r_lret C dX12_strays_35
theorem xX12_strays_n (l : Launch) (g : WG) (hg : p_al g = false) : ∀ (n d : Nat), n * 1 ≤ d → ∀ (a : Int32) (h : PH), CT l g d 0 0 yX12_strays cX12_strays 1 (some .long) em_l [.int a] h (rX12_strays n a h)
  | 0, _, _, _, _ => fun r h' hz => by cases hz
  | n + 1, d, hd, a, h => by
    have ih := xX12_strays_n l g hg n
    show CT l g d 0 0 yX12_strays cX12_strays 1 (some .long) em_l [.int a] h (fX12_strays (rX12_strays n) a h)
    exact tcX12_strays l g hg (dr := d - 1) (by omega) (fun a h => ih _ (by omega) a h) a h
theorem xX12_strays (l : Launch) (g : WG) (hg : p_al g = false) (a : Int32) (h : PH) : CT l g 10 0 0 yX12_strays cX12_strays 1 (some .long) em_l [.int a] h (rX12_strays 10 a h) := xX12_strays_n l g hg 10 _ (by omega) a h
set_option maxRecDepth 100000 in
set_option maxHeartbeats 4000000 in
theorem tX12_right_J60 {K : AC} {g : WG} (hg : p_al g = false)  (C : Cx K g cX12_right 3 RX12 (some .int) "right" 102 0 0) (i1 : Int32) (s0 : Int64) (s1 : Nat)  (h : PH) : VX K g 3 0 0 (a_fin K g 0 0 em_i) 60 [(1, .int i1)] [.long s0, p_rf g s1] h (fX12_right_J60 i1 s0 s1 h) := by
  unfold fX12_right_J60
  refine r_iload_n C dX12_right_60 0 rfl ?_
  refine r_csl (As := [.int i1]) (st := [.long s0, p_rf g s1]) C ws_X12_409 (xX12_orders K.2.1 g hg i1 h) (Nat.le_of_ble_eq_true rfl) rfl rfl (Nat.le_of_ble_eq_true rfl) dX12_right_61 ⟨Nat.le_of_ble_eq_true rfl, Nat.le_of_ble_eq_true rfl⟩ (fun y1 h2 => ?_)
  refine r_cvv (As := [.long s0, .long y1]) (st := []) C wv_X12_416 (tcX12_tellPart K.2.1 g hg s1 s0 y1 h2) (Nat.le_of_ble_eq_true rfl) rfl rfl (Nat.le_of_ble_eq_true rfl) dX12_right_64 ⟨Nat.le_of_ble_eq_true rfl, Nat.le_of_ble_eq_true rfl⟩ (fun h3 => ?_)
  refine r_iconst C dX12_right_67 k_i0 ?_
  exact r_iret C dX12_right_68
set_option maxRecDepth 100000 in
set_option maxHeartbeats 4000000 in
theorem tcX12_right (l : Launch) (g : WG) (hg : p_al g = false) (o0 : Nat) (i1 : Int32) (i2 : Int32) (h : PH) : CT l g 102 0 0 yX12_right cX12_right 3 (some .int) em_i [p_rf g o0, .int i1, .int i2] h (fX12_right o0 i1 i2 h) := by
  refine CT_of (own := RX12) (nm := "right") (by decide +kernel) (Nat.le_of_ble_eq_true rfl) rfl rfl rfl ⟨rfl, rfl⟩ (fun K hK C => ?_)
  subst hK
  unfold fX12_right
  show VX K g _ _ _ _ _ [(0, p_rf g o0), (1, .int i1), (2, .int i2)] _ _ _
  refine r_aload_n C dX12_right_0 0 rfl ?_
  refine r_iconst C dX12_right_1 k_i0 ?_
  refine r_pi C wf_X12_109_11 dX12_right_2 (fun h1 => ?_)
  refine r_iload_n C dX12_right_5 1 rfl ?_
  refine r_iconst C dX12_right_6 k_i1 ?_
  refine r_bipush C dX12_right_7 k_b8 ?_
  refine r_csi (As := [.int i1, .int (1 : Int32), .int (8 : Int32)]) (st := []) C ws_X12_119 (tcX12_in K.2.1 g hg i1 (1 : Int32) (8 : Int32) h1) (Nat.le_of_ble_eq_true rfl) rfl rfl (Nat.le_of_ble_eq_true rfl) dX12_right_9 ⟨Nat.le_of_ble_eq_true rfl, Nat.le_of_ble_eq_true rfl⟩ (fun x2 h3 => ?_)
  refine r_if_eq (tgt := 25) C dX12_right_12 (by decide) ?_ ?_
  · refine r_iconst C dX12_right_25 k_im1 ?_
    exact r_iret C dX12_right_26
  · refine r_iload_n C dX12_right_15 2 rfl ?_
    refine r_iconst C dX12_right_16 k_i0 ?_
    refine r_bipush C dX12_right_17 k_b8 ?_
    refine r_csi (As := [.int i2, .int (0 : Int32), .int (8 : Int32)]) (st := []) C ws_X12_119 (tcX12_in K.2.1 g hg i2 (0 : Int32) (8 : Int32) h3) (Nat.le_of_ble_eq_true rfl) rfl rfl (Nat.le_of_ble_eq_true rfl) dX12_right_19 ⟨Nat.le_of_ble_eq_true rfl, Nat.le_of_ble_eq_true rfl⟩ (fun x4 h5 => ?_)
    refine r_if_ne (tgt := 27) C dX12_right_22 (by decide) ?_ ?_
    · refine r_aload_n C dX12_right_27 0 rfl ?_
      refine r_iload_n C dX12_right_28 2 rfl ?_
      refine r_iload_n C dX12_right_29 1 rfl ?_
      refine r_icmp_le (tgt := 37) C dX12_right_30 (by decide) ?_ ?_
      · refine r_iload_n C dX12_right_37 1 rfl ?_
        refine r_csl (As := [.int i1]) (st := [p_rf g o0]) C ws_X12_409 (xX12_orders K.2.1 g hg i1 h5) (Nat.le_of_ble_eq_true rfl) rfl rfl (Nat.le_of_ble_eq_true rfl) dX12_right_38 ⟨Nat.le_of_ble_eq_true rfl, Nat.le_of_ble_eq_true rfl⟩ (fun y6 h7 => ?_)
        refine r_iload_n C dX12_right_41 2 rfl ?_
        refine r_csl (As := [.int i2]) (st := [.long y6, p_rf g o0]) C ws_X12_409 (xX12_orders K.2.1 g hg i2 h7) (Nat.le_of_ble_eq_true rfl) rfl rfl (Nat.le_of_ble_eq_true rfl) dX12_right_42 ⟨Nat.le_of_ble_eq_true rfl, Nat.le_of_ble_eq_true rfl⟩ (fun y8 h9 => ?_)
        refine r_ldiv C dX12_right_45 ?_
        refine r_iload_n C dX12_right_46 1 rfl ?_
        refine r_iload_n C dX12_right_47 2 rfl ?_
        refine r_isub C dX12_right_48 ?_
        refine r_csl (As := [.int (i1 - i2)]) (st := [.long (y6 / y8), p_rf g o0]) C ws_X12_409 (xX12_orders K.2.1 g hg (i1 - i2) h9) (Nat.le_of_ble_eq_true rfl) rfl rfl (Nat.le_of_ble_eq_true rfl) dX12_right_49 ⟨Nat.le_of_ble_eq_true rfl, Nat.le_of_ble_eq_true rfl⟩ (fun y10 h11 => ?_)
        refine r_ldiv C dX12_right_52 ?_
        refine r_iload_n C dX12_right_53 1 rfl ?_
        refine r_iload_n C dX12_right_54 2 rfl ?_
        refine r_isub C dX12_right_55 ?_
        refine r_csl (As := [.int (i1 - i2)]) (st := [.long ((y6 / y8) / y10), p_rf g o0]) C ws_X12_413 (xX12_strays K.2.1 g hg (i1 - i2) h11) (Nat.le_of_ble_eq_true rfl) rfl rfl (Nat.le_of_ble_eq_true rfl) dX12_right_56 ⟨Nat.le_of_ble_eq_true rfl, Nat.le_of_ble_eq_true rfl⟩ (fun y12 h13 => ?_)
        refine r_lmul C dX12_right_59 ?_
        refine r_perm (lv' := [(1, .int i1)]) [1] rfl ?_
        exact tX12_right_J60 hg C i1 (((y6 / y8) / y10) * y12) o0 h13
      · refine r_lconst (v := (0 : Int64)) C dX12_right_33 (by decide) ?_
        refine r_goto (tgt := 60) C dX12_right_34 (by decide) ?_
        refine r_perm (lv' := [(1, .int i1)]) [1] rfl ?_
        exact tX12_right_J60 hg C i1 (0 : Int64) o0 h5
    · refine r_iconst C dX12_right_25 k_im1 ?_
      exact r_iret C dX12_right_26
set_option maxRecDepth 100000 in
set_option maxHeartbeats 4000000 in
theorem tX12_falling_L5 {K : AC} {g : WG} (hg : p_al g = false)  (C : Cx K g cX12_falling 5 RX12 (some .long) "falling" 1 0 0) (i0 : Int32) (i1 : Int32) {kx : Int64 → PH → Option (Int64 × PH)} (hk : ∀ (l2 : Int64) (h : PH), VX K g 5 0 0 (a_fin K g 0 0 em_l) 25 [(2, .long l2)] [] h (kx l2 h)) : ∀ (n : Nat) (l2 : Int64) (i4 : Int32) (h : PH), VX K g 5 0 0 (a_fin K g 0 0 em_l) 5 [(0, .int i0), (1, .int i1), (2, .long l2), (4, .int i4)] [] h (fX12_falling_L5 i0 i1 kx n l2 i4 h) := by
  intro n
  induction n with
  | zero =>
    intros
    exact r_none
  | succ n ih =>
    intro l2 i4 h
    rw [fX12_falling_L5]
    refine r_iload C dX12_falling_5 3 rfl ?_
    refine r_iload_n C dX12_falling_7 1 rfl ?_
    refine r_icmp_ge (tgt := 25) C dX12_falling_8 (by decide) ?_ ?_
    · refine r_perm (lv' := [(2, .long l2)]) [2] rfl ?_
      exact hk l2 h
    · refine r_lload_n C dX12_falling_11 2 rfl ?_
      refine r_iload_n C dX12_falling_12 0 rfl ?_
      refine r_iload C dX12_falling_13 3 rfl ?_
      refine r_isub C dX12_falling_15 ?_
      refine r_i2l C dX12_falling_16 ?_
      refine r_lmul C dX12_falling_17 ?_
      refine r_topl (fun y1 => ?_)
      refine r_lstore_n (lv9 := [(2, .long y1), (0, .int i0), (1, .int i1), (4, .int i4)]) C dX12_falling_18 (by decide) rfl ?_
      refine r_iinc (lv' := [(2, .long y1), (0, .int i0), (1, .int i1)]) C dX12_falling_19 3 rfl k_i1 (by decide) (fun _ => rfl) (fun x2 => ?_)
      refine r_goto (tgt := 5) C dX12_falling_22 (by decide) ?_
      refine r_perm (lv' := [(0, .int i0), (1, .int i1), (2, .long y1), (4, .int x2)]) [2, 3, 1, 0] rfl ?_
      exact ih y1 x2 h
set_option maxRecDepth 100000 in
set_option maxHeartbeats 4000000 in
theorem tcX12_falling (l : Launch) (g : WG) (hg : p_al g = false) (i0 : Int32) (i1 : Int32) (h : PH) : CT l g 1 0 0 yX12_falling cX12_falling 5 (some .long) em_l [.int i0, .int i1] h (fX12_falling i0 i1 h) := by
  refine CT_of (own := RX12) (nm := "falling") (by decide +kernel) (Nat.le_of_ble_eq_true rfl) rfl rfl rfl ⟨rfl, rfl⟩ (fun K hK C => ?_)
  subst hK
  unfold fX12_falling
  show VX K g _ _ _ _ _ [(0, .int i0), (1, .int i1)] _ _ _
  refine r_lconst (v := (1 : Int64)) C dX12_falling_0 (by decide) ?_
  refine r_lstore_n (lv9 := [(2, .long (1 : Int64)), (0, .int i0), (1, .int i1)]) C dX12_falling_1 (by decide) rfl ?_
  refine r_iconst C dX12_falling_2 k_i0 ?_
  refine r_istore (lv9 := [(4, .int (0 : Int32)), (2, .long (1 : Int64)), (0, .int i0), (1, .int i1)]) C dX12_falling_3 (by decide) rfl ?_
  refine r_perm (lv' := [(0, .int i0), (1, .int i1), (2, .long (1 : Int64)), (4, .int (0 : Int32))]) [2, 3, 1, 0] rfl ?_
  refine tX12_falling_L5 hg C i0 i1 (fun y1 h2 => ?_) FU (1 : Int64) (0 : Int32) h
  refine r_lload_n C dX12_falling_25 0 rfl ?_
  exact r_lret C dX12_falling_26
set_option maxRecDepth 100000 in
set_option maxHeartbeats 4000000 in
theorem tX12_same_J68_32 {K : AC} {g : WG} (hg : p_al g = false)  (C : Cx K g cX12_same 5 RX12 (some .int) "same" 102 0 0) (o0 : Nat) (i1 : Int32) (i4 : Int32) (s0 : Int64) (s1 : Int64)    {rc : Int64 → Int32 → PH → Option (Int32 × PH)} {kx : Int64 → PH → Option (Int32 × PH)} (hr : ∀ (l2' : Int64) (i4' : Int32) (h : PH), VX K g 5 0 0 (a_fin K g 0 0 em_i) 32 [(0, p_rf g o0), (1, .int i1), (2, .long l2'), (4, .int i4')] [] h (rc l2' i4' h)) (hk : ∀ (l2' : Int64) (h : PH), VX K g 5 0 0 (a_fin K g 0 0 em_i) 76 [(0, p_rf g o0), (1, .int i1), (2, .long l2')] [] h (kx l2' h)) (h : PH) : VX K g 5 0 0 (a_fin K g 0 0 em_i) 68 [(0, p_rf g o0), (1, .int i1), (4, .int i4)] [.long s0, .long s1] h (fX12_same_J68_32 rc kx o0 i1 i4 s0 s1 h) := by
  unfold fX12_same_J68_32
  refine r_ladd C dX12_same_68 ?_
  refine r_topl (fun y1 => ?_)
  refine r_lstore_n (lv9 := [(2, .long y1), (0, p_rf g o0), (1, .int i1), (4, .int i4)]) C dX12_same_69 (by decide) rfl ?_
  refine r_iinc (lv' := [(2, .long y1), (0, p_rf g o0), (1, .int i1)]) C dX12_same_70 3 rfl k_i1 (by decide) (fun _ => rfl) (fun x2 => ?_)
  refine r_goto (tgt := 32) C dX12_same_73 (by decide) ?_
  refine r_perm (lv' := [(0, p_rf g o0), (1, .int i1), (2, .long y1), (4, .int x2)]) [2, 3, 1, 0] rfl ?_
  exact hr y1 x2 h
set_option maxRecDepth 100000 in
set_option maxHeartbeats 4000000 in
theorem tX12_same_L32 {K : AC} {g : WG} (hg : p_al g = false)  (C : Cx K g cX12_same 5 RX12 (some .int) "same" 102 0 0) (o0 : Nat) (i1 : Int32) {kx : Int64 → PH → Option (Int32 × PH)} (hk : ∀ (l2 : Int64) (h : PH), VX K g 5 0 0 (a_fin K g 0 0 em_i) 76 [(0, p_rf g o0), (1, .int i1), (2, .long l2)] [] h (kx l2 h)) : ∀ (n : Nat) (l2 : Int64) (i4 : Int32) (h : PH), VX K g 5 0 0 (a_fin K g 0 0 em_i) 32 [(0, p_rf g o0), (1, .int i1), (2, .long l2), (4, .int i4)] [] h (fX12_same_L32 o0 i1 kx n l2 i4 h) := by
  intro n
  induction n with
  | zero =>
    intros
    exact r_none
  | succ n ih =>
    intro l2 i4 h
    rw [fX12_same_L32]
    refine r_iload C dX12_same_32 3 rfl ?_
    refine r_aload_n C dX12_same_34 0 rfl ?_
    refine r_gi C wf_X12_116_11 dX12_same_35 (fun x1 => ?_)
    refine r_icmp_ge (tgt := 76) C dX12_same_38 (by decide) ?_ ?_
    · refine r_perm (lv' := [(0, p_rf g o0), (1, .int i1), (2, .long l2)]) [0, 1, 2] rfl ?_
      exact hk l2 h
    · refine r_lload_n C dX12_same_41 2 rfl ?_
      refine r_aload_n C dX12_same_42 0 rfl ?_
      refine r_gr C wf_X12_9_11 dX12_same_43 (fun q2 => ?_)
      refine r_iload C dX12_same_46 3 rfl ?_
      refine r_iald C dX12_same_48 (fun x3 => ?_)
      refine r_iload_n C dX12_same_49 1 rfl ?_
      refine r_icmp_ge (tgt := 57) C dX12_same_50 (by decide) ?_ ?_
      · refine r_aload_n C dX12_same_57 0 rfl ?_
        refine r_gr C wf_X12_9_11 dX12_same_58 (fun q4 => ?_)
        refine r_iload C dX12_same_61 3 rfl ?_
        refine r_iald C dX12_same_63 (fun x5 => ?_)
        refine r_iload_n C dX12_same_64 1 rfl ?_
        refine r_csl (As := [.int x5, .int i1]) (st := [.long l2]) C ws_X12_420 (tcX12_falling K.2.1 g hg x5 i1 h) (Nat.le_of_ble_eq_true rfl) rfl rfl (Nat.le_of_ble_eq_true rfl) dX12_same_65 ⟨Nat.le_of_ble_eq_true rfl, Nat.le_of_ble_eq_true rfl⟩ (fun y6 h7 => ?_)
        refine r_perm (lv' := [(0, p_rf g o0), (1, .int i1), (4, .int i4)]) [0, 1, 3] rfl ?_
        exact tX12_same_J68_32 hg C o0 i1 i4 y6 l2 ih hk h7
      · refine r_lconst (v := (0 : Int64)) C dX12_same_53 (by decide) ?_
        refine r_goto (tgt := 68) C dX12_same_54 (by decide) ?_
        refine r_perm (lv' := [(0, p_rf g o0), (1, .int i1), (4, .int i4)]) [0, 1, 3] rfl ?_
        exact tX12_same_J68_32 hg C o0 i1 i4 (0 : Int64) l2 ih hk h
set_option maxRecDepth 100000 in
set_option maxHeartbeats 4000000 in
theorem tcX12_same (l : Launch) (g : WG) (hg : p_al g = false) (o0 : Nat) (i1 : Int32) (h : PH) : CT l g 102 0 0 yX12_same cX12_same 5 (some .int) em_i [p_rf g o0, .int i1] h (fX12_same o0 i1 h) := by
  refine CT_of (own := RX12) (nm := "same") (by decide +kernel) (Nat.le_of_ble_eq_true rfl) rfl rfl rfl ⟨rfl, rfl⟩ (fun K hK C => ?_)
  subst hK
  unfold fX12_same
  show VX K g _ _ _ _ _ [(0, p_rf g o0), (1, .int i1)] _ _ _
  refine r_aload_n C dX12_same_0 0 rfl ?_
  refine r_iconst C dX12_same_1 k_i0 ?_
  refine r_pi C wf_X12_109_11 dX12_same_2 (fun h1 => ?_)
  refine r_iload_n C dX12_same_5 1 rfl ?_
  refine r_iconst C dX12_same_6 k_i1 ?_
  refine r_iconst C dX12_same_7 k_i4 ?_
  refine r_csi (As := [.int i1, .int (1 : Int32), .int (4 : Int32)]) (st := []) C ws_X12_119 (tcX12_in K.2.1 g hg i1 (1 : Int32) (4 : Int32) h1) (Nat.le_of_ble_eq_true rfl) rfl rfl (Nat.le_of_ble_eq_true rfl) dX12_same_8 ⟨Nat.le_of_ble_eq_true rfl, Nat.le_of_ble_eq_true rfl⟩ (fun x2 h3 => ?_)
  refine r_if_ne (tgt := 16) C dX12_same_11 (by decide) ?_ ?_
  · refine r_aload_n C dX12_same_16 0 rfl ?_
    refine r_cvi (As := []) (st := []) C wv_X12_281 (tcX12_stock K.2.1 g hg o0 h3) (Nat.le_of_ble_eq_true rfl) rfl rfl (Nat.le_of_ble_eq_true rfl) dX12_same_17 ⟨Nat.le_of_ble_eq_true rfl, Nat.le_of_ble_eq_true rfl⟩ (fun x4 h5 => ?_)
    refine r_iload_n C dX12_same_20 1 rfl ?_
    refine r_icmp_ge (tgt := 27) C dX12_same_21 (by decide) ?_ ?_
    · refine r_lconst (v := (0 : Int64)) C dX12_same_27 (by decide) ?_
      refine r_lstore_n (lv9 := [(2, .long (0 : Int64)), (0, p_rf g o0), (1, .int i1)]) C dX12_same_28 (by decide) rfl ?_
      refine r_iconst C dX12_same_29 k_i0 ?_
      refine r_istore (lv9 := [(4, .int (0 : Int32)), (2, .long (0 : Int64)), (0, p_rf g o0), (1, .int i1)]) C dX12_same_30 (by decide) rfl ?_
      refine r_perm (lv' := [(0, p_rf g o0), (1, .int i1), (2, .long (0 : Int64)), (4, .int (0 : Int32))]) [2, 3, 1, 0] rfl ?_
      refine tX12_same_L32 hg C o0 i1 (fun y6 h7 => ?_) FU (0 : Int64) (0 : Int32) h5
      refine r_aload_n C dX12_same_76 0 rfl ?_
      refine r_lload_n C dX12_same_77 2 rfl ?_
      refine r_aload_n C dX12_same_78 0 rfl ?_
      refine r_cvi (As := []) (st := [.long y6, p_rf g o0]) C wv_X12_281 (tcX12_stock K.2.1 g hg o0 h7) (Nat.le_of_ble_eq_true rfl) rfl rfl (Nat.le_of_ble_eq_true rfl) dX12_same_79 ⟨Nat.le_of_ble_eq_true rfl, Nat.le_of_ble_eq_true rfl⟩ (fun x8 h9 => ?_)
      refine r_iload_n C dX12_same_82 1 rfl ?_
      refine r_csl (As := [.int x8, .int i1]) (st := [.long y6, p_rf g o0]) C ws_X12_420 (tcX12_falling K.2.1 g hg x8 i1 h9) (Nat.le_of_ble_eq_true rfl) rfl rfl (Nat.le_of_ble_eq_true rfl) dX12_same_83 ⟨Nat.le_of_ble_eq_true rfl, Nat.le_of_ble_eq_true rfl⟩ (fun y10 h11 => ?_)
      refine r_cvv (As := [.long y6, .long y10]) (st := []) C wv_X12_416 (tcX12_tellPart K.2.1 g hg o0 y6 y10 h11) (Nat.le_of_ble_eq_true rfl) rfl rfl (Nat.le_of_ble_eq_true rfl) dX12_same_86 ⟨Nat.le_of_ble_eq_true rfl, Nat.le_of_ble_eq_true rfl⟩ (fun h12 => ?_)
      refine r_iconst C dX12_same_89 k_i0 ?_
      exact r_iret C dX12_same_90
    · refine r_bipush C dX12_same_24 k_bm2 ?_
      exact r_iret C dX12_same_26
  · refine r_iconst C dX12_same_14 k_im1 ?_
    exact r_iret C dX12_same_15
set_option maxRecDepth 100000 in
set_option maxHeartbeats 4000000 in
theorem tcX12_manGets (l : Launch) (g : WG) (hg : p_al g = false) (i0 : Int32) (i1 : Int32) (i2 : Int32) (i3 : Int32) (h : PH) : CT l g 1 0 0 yX12_manGets cX12_manGets 4 (some .int) em_i [.int i0, .int i1, .int i2, .int i3] h (fX12_manGets i0 i1 i2 i3 h) := by
  refine CT_of (own := RX12) (nm := "manGets") (by decide +kernel) (Nat.le_of_ble_eq_true rfl) rfl rfl rfl ⟨rfl, rfl⟩ (fun K hK C => ?_)
  subst hK
  unfold fX12_manGets
  show VX K g _ _ _ _ _ [(0, .int i0), (1, .int i1), (2, .int i2), (3, .int i3)] _ _ _
  refine r_iload_n C dX12_manGets_0 1 rfl ?_
  refine r_iload_n C dX12_manGets_1 0 rfl ?_
  refine r_icmp_lt (tgt := 9) C dX12_manGets_2 (by decide) ?_ ?_
  · refine r_iconst C dX12_manGets_9 k_i0 ?_
    refine r_iload_n C dX12_manGets_10 1 rfl ?_
    refine r_iload_n C dX12_manGets_11 3 rfl ?_
    refine r_imul C dX12_manGets_12 ?_
    refine r_isub C dX12_manGets_13 ?_
    exact r_iret C dX12_manGets_14
  · refine r_iload_n C dX12_manGets_5 2 rfl ?_
    refine r_goto (tgt := 10) C dX12_manGets_6 (by decide) ?_
    refine r_iload_n C dX12_manGets_10 1 rfl ?_
    refine r_iload_n C dX12_manGets_11 3 rfl ?_
    refine r_imul C dX12_manGets_12 ?_
    refine r_isub C dX12_manGets_13 ?_
    exact r_iret C dX12_manGets_14
set_option maxRecDepth 100000 in
set_option maxHeartbeats 4000000 in
theorem tcX12_clerkGets (l : Launch) (g : WG) (hg : p_al g = false) (i0 : Int32) (i1 : Int32) (h : PH) : CT l g 1 0 0 yX12_clerkGets cX12_clerkGets 2 (some .int) em_i [.int i0, .int i1] h (fX12_clerkGets i0 i1 h) := by
  refine CT_of (own := RX12) (nm := "clerkGets") (by decide +kernel) (Nat.le_of_ble_eq_true rfl) rfl rfl rfl ⟨rfl, rfl⟩ (fun K hK C => ?_)
  subst hK
  unfold fX12_clerkGets
  show VX K g _ _ _ _ _ [(0, .int i0), (1, .int i1)] _ _ _
  refine r_iload_n C dX12_clerkGets_0 1 rfl ?_
  refine r_iload_n C dX12_clerkGets_1 0 rfl ?_
  refine r_icmp_lt (tgt := 9) C dX12_clerkGets_2 (by decide) ?_ ?_
  · refine r_iconst C dX12_clerkGets_9 k_i0 ?_
    exact r_iret C dX12_clerkGets_10
  · refine r_iload_n C dX12_clerkGets_5 0 rfl ?_
    refine r_goto (tgt := 10) C dX12_clerkGets_6 (by decide) ?_
    exact r_iret C dX12_clerkGets_10
set_option maxRecDepth 100000 in
set_option maxHeartbeats 4000000 in
theorem tX12_isRest_L3 {K : AC} {g : WG} (hg : p_al g = false)  (C : Cx K g cX12_isRest 5 RX12 (some .boolean) "isRest" 2 0 0) (i0 : Int32) (i1 : Int32) (i2 : Int32) (i3 : Int32) {kx : PH → Option (Int32 × PH)} (hk : ∀  (h : PH), VX K g 5 0 0 (a_fin K g 0 0 em_i) 50 [] [] h (kx h)) : ∀ (n : Nat) (i4 : Int32) (h : PH), VX K g 5 0 0 (a_fin K g 0 0 em_i) 3 [(0, .int i0), (1, .int i1), (2, .int i2), (3, .int i3), (4, .int i4)] [] h (fX12_isRest_L3 i0 i1 i2 i3 kx n i4 h) := by
  intro n
  induction n with
  | zero =>
    intros
    exact r_none
  | succ n ih =>
    intro i4 h
    rw [fX12_isRest_L3]
    refine r_iload C dX12_isRest_3 4 rfl ?_
    refine r_bipush C dX12_isRest_5 k_b9 ?_
    refine r_icmp_gt (tgt := 50) C dX12_isRest_7 (by decide) ?_ ?_
    · refine r_perm (lv' := []) [] rfl ?_
      exact hk h
    · refine r_iload C dX12_isRest_10 4 rfl ?_
      refine r_iload_n C dX12_isRest_12 1 rfl ?_
      refine r_csi (As := [.int i4, .int i1]) (st := []) C ws_X12_424 (tcX12_clerkGets K.2.1 g hg i4 i1 h) (Nat.le_of_ble_eq_true rfl) rfl rfl (Nat.le_of_ble_eq_true rfl) dX12_isRest_13 ⟨Nat.le_of_ble_eq_true rfl, Nat.le_of_ble_eq_true rfl⟩ (fun x1 h2 => ?_)
      refine r_iload_n C dX12_isRest_16 0 rfl ?_
      refine r_iload_n C dX12_isRest_17 1 rfl ?_
      refine r_csi (As := [.int i0, .int i1]) (st := [.int x1]) C ws_X12_424 (tcX12_clerkGets K.2.1 g hg i0 i1 h2) (Nat.le_of_ble_eq_true rfl) rfl rfl (Nat.le_of_ble_eq_true rfl) dX12_isRest_18 ⟨Nat.le_of_ble_eq_true rfl, Nat.le_of_ble_eq_true rfl⟩ (fun x3 h4 => ?_)
      refine r_icmp_gt (tgt := 42) C dX12_isRest_21 (by decide) ?_ ?_
      · refine r_iconst C dX12_isRest_42 k_i0 ?_
        exact r_zret C dX12_isRest_43
      · refine r_iload_n C dX12_isRest_24 0 rfl ?_
        refine r_iload C dX12_isRest_25 4 rfl ?_
        refine r_iload_n C dX12_isRest_27 2 rfl ?_
        refine r_iload_n C dX12_isRest_28 3 rfl ?_
        refine r_csi (As := [.int i0, .int i4, .int i2, .int i3]) (st := []) C ws_X12_427 (tcX12_manGets K.2.1 g hg i0 i4 i2 i3 h4) (Nat.le_of_ble_eq_true rfl) rfl rfl (Nat.le_of_ble_eq_true rfl) dX12_isRest_29 ⟨Nat.le_of_ble_eq_true rfl, Nat.le_of_ble_eq_true rfl⟩ (fun x5 h6 => ?_)
        refine r_iload_n C dX12_isRest_32 0 rfl ?_
        refine r_iload_n C dX12_isRest_33 1 rfl ?_
        refine r_iload_n C dX12_isRest_34 2 rfl ?_
        refine r_iload_n C dX12_isRest_35 3 rfl ?_
        refine r_csi (As := [.int i0, .int i1, .int i2, .int i3]) (st := [.int x5]) C ws_X12_427 (tcX12_manGets K.2.1 g hg i0 i1 i2 i3 h6) (Nat.le_of_ble_eq_true rfl) rfl rfl (Nat.le_of_ble_eq_true rfl) dX12_isRest_36 ⟨Nat.le_of_ble_eq_true rfl, Nat.le_of_ble_eq_true rfl⟩ (fun x7 h8 => ?_)
        refine r_icmp_le (tgt := 44) C dX12_isRest_39 (by decide) ?_ ?_
        · refine r_iinc (lv' := [(0, .int i0), (1, .int i1), (2, .int i2), (3, .int i3)]) C dX12_isRest_44 4 rfl k_i1 (by decide) (fun _ => rfl) (fun x9 => ?_)
          refine r_goto (tgt := 3) C dX12_isRest_47 (by decide) ?_
          refine r_perm (lv' := [(0, .int i0), (1, .int i1), (2, .int i2), (3, .int i3), (4, .int x9)]) [1, 2, 3, 4, 0] rfl ?_
          exact ih x9 h8
        · refine r_iconst C dX12_isRest_42 k_i0 ?_
          exact r_zret C dX12_isRest_43
set_option maxRecDepth 100000 in
set_option maxHeartbeats 4000000 in
theorem tcX12_isRest (l : Launch) (g : WG) (hg : p_al g = false) (i0 : Int32) (i1 : Int32) (i2 : Int32) (i3 : Int32) (h : PH) : CT l g 2 0 0 yX12_isRest cX12_isRest 5 (some .boolean) em_i [.int i0, .int i1, .int i2, .int i3] h (fX12_isRest i0 i1 i2 i3 h) := by
  refine CT_of (own := RX12) (nm := "isRest") (by decide +kernel) (Nat.le_of_ble_eq_true rfl) rfl rfl rfl ⟨rfl, rfl⟩ (fun K hK C => ?_)
  subst hK
  unfold fX12_isRest
  show VX K g _ _ _ _ _ [(0, .int i0), (1, .int i1), (2, .int i2), (3, .int i3)] _ _ _
  refine r_iconst C dX12_isRest_0 k_i0 ?_
  refine r_istore (lv9 := [(4, .int (0 : Int32)), (0, .int i0), (1, .int i1), (2, .int i2), (3, .int i3)]) C dX12_isRest_1 (by decide) rfl ?_
  refine r_perm (lv' := [(0, .int i0), (1, .int i1), (2, .int i2), (3, .int i3), (4, .int (0 : Int32))]) [1, 2, 3, 4, 0] rfl ?_
  refine tX12_isRest_L3 hg C i0 i1 i2 i3 (fun h1 => ?_) FU (0 : Int32) h
  refine r_iconst C dX12_isRest_50 k_i1 ?_
  exact r_zret C dX12_isRest_51
set_option maxRecDepth 100000 in
set_option maxHeartbeats 4000000 in
theorem tX12_rests_J89_46 {K : AC} {g : WG} (hg : p_al g = false)  (C : Cx K g cX12_rests 6 RX12 (some .int) "rests" 3 0 0) (o0 : Nat) (i1 : Int32) (i2 : Int32) (i3 : Int32) (i4 : Int32) (i5 : Int32)    {rc : Int32 → Int32 → PH → Option (Int32 × PH)} {kx : Int32 → PH → Option (Int32 × PH)} (hr : ∀ (i3' : Int32) (i5' : Int32) (h : PH), VX K g 6 0 0 (a_fin K g 0 0 em_i) 46 [(0, p_rf g o0), (1, .int i1), (2, .int i2), (3, .int i3'), (4, .int i4), (5, .int i5')] [] h (rc i3' i5' h)) (hk : ∀ (i3' : Int32) (h : PH), VX K g 6 0 0 (a_fin K g 0 0 em_i) 95 [(0, p_rf g o0), (1, .int i1), (2, .int i2), (3, .int i3'), (4, .int i4)] [] h (kx i3' h)) (h : PH) : VX K g 6 0 0 (a_fin K g 0 0 em_i) 89 [(0, p_rf g o0), (1, .int i1), (2, .int i2), (3, .int i3), (4, .int i4), (5, .int i5)] [] h (fX12_rests_J89_46 rc kx o0 i1 i2 i3 i4 i5 h) := by
  unfold fX12_rests_J89_46
  refine r_iinc (lv' := [(0, p_rf g o0), (1, .int i1), (2, .int i2), (3, .int i3), (4, .int i4)]) C dX12_rests_89 5 rfl k_i1 (by decide) (fun _ => rfl) (fun x1 => ?_)
  refine r_goto (tgt := 46) C dX12_rests_92 (by decide) ?_
  refine r_perm (lv' := [(0, p_rf g o0), (1, .int i1), (2, .int i2), (3, .int i3), (4, .int i4), (5, .int x1)]) [1, 2, 3, 4, 5, 0] rfl ?_
  exact hr i3 x1 h
set_option maxRecDepth 100000 in
set_option maxHeartbeats 4000000 in
theorem tX12_rests_J86_46 {K : AC} {g : WG} (hg : p_al g = false)  (C : Cx K g cX12_rests 6 RX12 (some .int) "rests" 3 0 0) (o0 : Nat) (i1 : Int32) (i2 : Int32) (i3 : Int32) (i4 : Int32) (i5 : Int32)    {rc : Int32 → Int32 → PH → Option (Int32 × PH)} {kx : Int32 → PH → Option (Int32 × PH)} (hr : ∀ (i3' : Int32) (i5' : Int32) (h : PH), VX K g 6 0 0 (a_fin K g 0 0 em_i) 46 [(0, p_rf g o0), (1, .int i1), (2, .int i2), (3, .int i3'), (4, .int i4), (5, .int i5')] [] h (rc i3' i5' h)) (hk : ∀ (i3' : Int32) (h : PH), VX K g 6 0 0 (a_fin K g 0 0 em_i) 95 [(0, p_rf g o0), (1, .int i1), (2, .int i2), (3, .int i3'), (4, .int i4)] [] h (kx i3' h)) (h : PH) : VX K g 6 0 0 (a_fin K g 0 0 em_i) 86 [(0, p_rf g o0), (1, .int i1), (2, .int i2), (3, .int i3), (4, .int i4), (5, .int i5)] [] h (fX12_rests_J86_46 rc kx o0 i1 i2 i3 i4 i5 h) := by
  unfold fX12_rests_J86_46
  refine r_iinc (lv' := [(0, p_rf g o0), (1, .int i1), (2, .int i2), (4, .int i4), (5, .int i5)]) C dX12_rests_86 3 rfl k_i1 (by decide) (fun _ => rfl) (fun x1 => ?_)
  refine r_perm (lv' := [(0, p_rf g o0), (1, .int i1), (2, .int i2), (3, .int x1), (4, .int i4), (5, .int i5)]) [1, 2, 3, 0, 4, 5] rfl ?_
  exact tX12_rests_J89_46 hg C o0 i1 i2 x1 i4 i5 hr hk h
set_option maxRecDepth 100000 in
set_option maxHeartbeats 4000000 in
theorem tX12_rests_L46 {K : AC} {g : WG} (hg : p_al g = false)  (C : Cx K g cX12_rests 6 RX12 (some .int) "rests" 3 0 0) (o0 : Nat) (i1 : Int32) (i2 : Int32) (i4 : Int32) {kx : Int32 → PH → Option (Int32 × PH)} (hk : ∀ (i3 : Int32) (h : PH), VX K g 6 0 0 (a_fin K g 0 0 em_i) 95 [(0, p_rf g o0), (1, .int i1), (2, .int i2), (3, .int i3), (4, .int i4)] [] h (kx i3 h)) : ∀ (n : Nat) (i3 : Int32) (i5 : Int32) (h : PH), VX K g 6 0 0 (a_fin K g 0 0 em_i) 46 [(0, p_rf g o0), (1, .int i1), (2, .int i2), (3, .int i3), (4, .int i4), (5, .int i5)] [] h (fX12_rests_L46 o0 i1 i2 i4 kx n i3 i5 h) := by
  intro n
  induction n with
  | zero =>
    intros
    exact r_none
  | succ n ih =>
    intro i3 i5 h
    rw [fX12_rests_L46]
    refine r_iload C dX12_rests_46 5 rfl ?_
    refine r_bipush C dX12_rests_48 k_b9 ?_
    refine r_icmp_gt (tgt := 95) C dX12_rests_50 (by decide) ?_ ?_
    · refine r_perm (lv' := [(0, p_rf g o0), (1, .int i1), (2, .int i2), (3, .int i3), (4, .int i4)]) [0, 1, 2, 3, 4] rfl ?_
      exact hk i3 h
    · refine r_iload C dX12_rests_53 4 rfl ?_
      refine r_iload C dX12_rests_55 5 rfl ?_
      refine r_iload_n C dX12_rests_57 1 rfl ?_
      refine r_iload_n C dX12_rests_58 2 rfl ?_
      refine r_csi (As := [.int i4, .int i5, .int i1, .int i2]) (st := []) C ws_X12_431 (tcX12_isRest K.2.1 g hg i4 i5 i1 i2 h) (Nat.le_of_ble_eq_true rfl) rfl rfl (Nat.le_of_ble_eq_true rfl) dX12_rests_59 ⟨Nat.le_of_ble_eq_true rfl, Nat.le_of_ble_eq_true rfl⟩ (fun x1 h2 => ?_)
      refine r_if_ne (tgt := 68) C dX12_rests_62 (by decide) ?_ ?_
      · refine r_iload_n C dX12_rests_68 3 rfl ?_
        refine r_if_ne (tgt := 86) C dX12_rests_69 (by decide) ?_ ?_
        · exact tX12_rests_J86_46 hg C o0 i1 i2 i3 i4 i5 ih hk h2
        · refine r_aload_n C dX12_rests_72 0 rfl ?_
          refine r_iload C dX12_rests_73 4 rfl ?_
          refine r_i2l C dX12_rests_75 ?_
          refine r_cvv (As := [.long (i4.toInt64)]) (st := []) C wv_X12_329 (tcX12_tell K.2.1 g hg o0 (i4.toInt64) h2) (Nat.le_of_ble_eq_true rfl) rfl rfl (Nat.le_of_ble_eq_true rfl) dX12_rests_76 ⟨Nat.le_of_ble_eq_true rfl, Nat.le_of_ble_eq_true rfl⟩ (fun h3 => ?_)
          refine r_aload_n C dX12_rests_79 0 rfl ?_
          refine r_iload C dX12_rests_80 5 rfl ?_
          refine r_i2l C dX12_rests_82 ?_
          refine r_cvv (As := [.long (i5.toInt64)]) (st := []) C wv_X12_329 (tcX12_tell K.2.1 g hg o0 (i5.toInt64) h3) (Nat.le_of_ble_eq_true rfl) rfl rfl (Nat.le_of_ble_eq_true rfl) dX12_rests_83 ⟨Nat.le_of_ble_eq_true rfl, Nat.le_of_ble_eq_true rfl⟩ (fun h4 => ?_)
          exact tX12_rests_J86_46 hg C o0 i1 i2 i3 i4 i5 ih hk h4
      · refine r_goto (tgt := 89) C dX12_rests_65 (by decide) ?_
        exact tX12_rests_J89_46 hg C o0 i1 i2 i3 i4 i5 ih hk h2
set_option maxRecDepth 100000 in
set_option maxHeartbeats 4000000 in
theorem tX12_rests_L36 {K : AC} {g : WG} (hg : p_al g = false)  (C : Cx K g cX12_rests 6 RX12 (some .int) "rests" 3 0 0) (o0 : Nat) (i1 : Int32) (i2 : Int32) {kx : Int32 → PH → Option (Int32 × PH)} (hk : ∀ (i3 : Int32) (h : PH), VX K g 6 0 0 (a_fin K g 0 0 em_i) 101 [(3, .int i3)] [] h (kx i3 h)) : ∀ (n : Nat) (i3 : Int32) (i4 : Int32) (h : PH), VX K g 6 0 0 (a_fin K g 0 0 em_i) 36 [(0, p_rf g o0), (1, .int i1), (2, .int i2), (3, .int i3), (4, .int i4)] [] h (fX12_rests_L36 o0 i1 i2 kx n i3 i4 h) := by
  intro n
  induction n with
  | zero =>
    intros
    exact r_none
  | succ n ih =>
    intro i3 i4 h
    rw [fX12_rests_L36]
    refine r_iload C dX12_rests_36 4 rfl ?_
    refine r_bipush C dX12_rests_38 k_b9 ?_
    refine r_icmp_gt (tgt := 101) C dX12_rests_40 (by decide) ?_ ?_
    · refine r_perm (lv' := [(3, .int i3)]) [3] rfl ?_
      exact hk i3 h
    · refine r_iconst C dX12_rests_43 k_i0 ?_
      refine r_istore (lv9 := [(5, .int (0 : Int32)), (0, p_rf g o0), (1, .int i1), (2, .int i2), (3, .int i3), (4, .int i4)]) C dX12_rests_44 (by decide) rfl ?_
      refine r_perm (lv' := [(0, p_rf g o0), (1, .int i1), (2, .int i2), (3, .int i3), (4, .int i4), (5, .int (0 : Int32))]) [1, 2, 3, 4, 5, 0] rfl ?_
      refine tX12_rests_L46 hg C o0 i1 i2 i4 (fun x1 h2 => ?_) FU i3 (0 : Int32) h
      refine r_iinc (lv' := [(0, p_rf g o0), (1, .int i1), (2, .int i2), (3, .int x1)]) C dX12_rests_95 4 rfl k_i1 (by decide) (fun _ => rfl) (fun x3 => ?_)
      refine r_goto (tgt := 36) C dX12_rests_98 (by decide) ?_
      refine r_perm (lv' := [(0, p_rf g o0), (1, .int i1), (2, .int i2), (3, .int x1), (4, .int x3)]) [1, 2, 3, 4, 0] rfl ?_
      exact ih x1 x3 h2
set_option maxRecDepth 100000 in
set_option maxHeartbeats 4000000 in
theorem tcX12_rests (l : Launch) (g : WG) (hg : p_al g = false) (o0 : Nat) (i1 : Int32) (i2 : Int32) (h : PH) : CT l g 3 0 0 yX12_rests cX12_rests 6 (some .int) em_i [p_rf g o0, .int i1, .int i2] h (fX12_rests o0 i1 i2 h) := by
  refine CT_of (own := RX12) (nm := "rests") (by decide +kernel) (Nat.le_of_ble_eq_true rfl) rfl rfl rfl ⟨rfl, rfl⟩ (fun K hK C => ?_)
  subst hK
  unfold fX12_rests
  show VX K g _ _ _ _ _ [(0, p_rf g o0), (1, .int i1), (2, .int i2)] _ _ _
  refine r_aload_n C dX12_rests_0 0 rfl ?_
  refine r_iconst C dX12_rests_1 k_i0 ?_
  refine r_pi C wf_X12_109_11 dX12_rests_2 (fun h1 => ?_)
  refine r_iload_n C dX12_rests_5 1 rfl ?_
  refine r_iconst C dX12_rests_6 k_i0 ?_
  refine r_bipush C dX12_rests_7 k_b20 ?_
  refine r_csi (As := [.int i1, .int (0 : Int32), .int (20 : Int32)]) (st := []) C ws_X12_119 (tcX12_in K.2.1 g hg i1 (0 : Int32) (20 : Int32) h1) (Nat.le_of_ble_eq_true rfl) rfl rfl (Nat.le_of_ble_eq_true rfl) dX12_rests_9 ⟨Nat.le_of_ble_eq_true rfl, Nat.le_of_ble_eq_true rfl⟩ (fun x2 h3 => ?_)
  refine r_if_eq (tgt := 24) C dX12_rests_12 (by decide) ?_ ?_
  · refine r_iconst C dX12_rests_24 k_im1 ?_
    exact r_iret C dX12_rests_25
  · refine r_iload_n C dX12_rests_15 2 rfl ?_
    refine r_iconst C dX12_rests_16 k_i0 ?_
    refine r_iconst C dX12_rests_17 k_i5 ?_
    refine r_csi (As := [.int i2, .int (0 : Int32), .int (5 : Int32)]) (st := []) C ws_X12_119 (tcX12_in K.2.1 g hg i2 (0 : Int32) (5 : Int32) h3) (Nat.le_of_ble_eq_true rfl) rfl rfl (Nat.le_of_ble_eq_true rfl) dX12_rests_18 ⟨Nat.le_of_ble_eq_true rfl, Nat.le_of_ble_eq_true rfl⟩ (fun x4 h5 => ?_)
    refine r_if_ne (tgt := 26) C dX12_rests_21 (by decide) ?_ ?_
    · refine r_iconst C dX12_rests_26 k_i0 ?_
      refine r_istore_n (lv9 := [(3, .int (0 : Int32)), (0, p_rf g o0), (1, .int i1), (2, .int i2)]) C dX12_rests_27 (by decide) rfl ?_
      refine r_aload_n C dX12_rests_28 1 rfl ?_
      refine r_iconst C dX12_rests_29 k_i0 ?_
      refine r_pi C wf_X12_113_11 dX12_rests_30 (fun h6 => ?_)
      refine r_iconst C dX12_rests_33 k_i0 ?_
      refine r_istore (lv9 := [(4, .int (0 : Int32)), (3, .int (0 : Int32)), (0, p_rf g o0), (1, .int i1), (2, .int i2)]) C dX12_rests_34 (by decide) rfl ?_
      refine r_perm (lv' := [(0, p_rf g o0), (1, .int i1), (2, .int i2), (3, .int (0 : Int32)), (4, .int (0 : Int32))]) [2, 3, 4, 1, 0] rfl ?_
      refine tX12_rests_L36 hg C o0 i1 i2 (fun x7 h8 => ?_) FU (0 : Int32) (0 : Int32) h6
      refine r_iload_n C dX12_rests_101 0 rfl ?_
      exact r_iret C dX12_rests_102
    · refine r_iconst C dX12_rests_24 k_im1 ?_
      exact r_iret C dX12_rests_25
set_option maxRecDepth 100000 in
set_option maxHeartbeats 4000000 in
theorem tcX12_hadIn10 (l : Launch) (g : WG) (hg : p_al g = false) (o0 : Nat) (h : PH) : CT l g 612 0 0 yX12_hadIn10 cX12_hadIn10 1 (some .int) em_i [p_rf g o0] h (fX12_hadIn10 o0 h) := by
  refine CT_of (own := RX12) (nm := "hadIn10") (by decide +kernel) (Nat.le_of_ble_eq_true rfl) rfl rfl rfl ⟨rfl, rfl⟩ (fun K hK C => ?_)
  subst hK
  unfold fX12_hadIn10
  show VX K g _ _ _ _ _ [(0, p_rf g o0)] _ _ _
  refine r_aload_n C dX12_hadIn10_0 0 rfl ?_
  refine r_gr C wf_X12_9_11 dX12_hadIn10_1 (fun q1 => ?_)
  refine r_aload_n C dX12_hadIn10_4 0 rfl ?_
  refine r_gr C wf_X12_57_11 dX12_hadIn10_5 (fun q2 => ?_)
  refine r_iconst C dX12_hadIn10_8 k_i0 ?_
  refine r_csv (As := [p_rf g q1, p_rf g q2, .int (0 : Int32)]) (st := []) C ws_X12_284 (tcX12_lay K.2.1 g hg q1 q2 (0 : Int32) h) (Nat.le_of_ble_eq_true rfl) rfl rfl (Nat.le_of_ble_eq_true rfl) dX12_hadIn10_9 ⟨Nat.le_of_ble_eq_true rfl, Nat.le_of_ble_eq_true rfl⟩ (fun h3 => ?_)
  refine r_aload_n C dX12_hadIn10_12 0 rfl ?_
  refine r_aload_n C dX12_hadIn10_13 0 rfl ?_
  refine r_gr C wf_X12_57_11 dX12_hadIn10_14 (fun q4 => ?_)
  refine r_bipush C dX12_hadIn10_17 k_b10 ?_
  refine r_cvv (As := [p_rf g q4, .int (10 : Int32)]) (st := []) C wv_X12_322 (tcX12_goDays K.2.1 g hg o0 q4 (10 : Int32) h3) (Nat.le_of_ble_eq_true rfl) rfl rfl (Nat.le_of_ble_eq_true rfl) dX12_hadIn10_19 ⟨Nat.le_of_ble_eq_true rfl, Nat.le_of_ble_eq_true rfl⟩ (fun h5 => ?_)
  refine r_aload_n C dX12_hadIn10_22 0 rfl ?_
  refine r_aload_n C dX12_hadIn10_23 0 rfl ?_
  refine r_gr C wf_X12_57_11 dX12_hadIn10_24 (fun q6 => ?_)
  refine r_cvi (As := [p_rf g q6]) (st := []) C wv_X12_333 (tcX12_hadByAll K.2.1 g hg o0 q6 h5) (Nat.le_of_ble_eq_true rfl) rfl rfl (Nat.le_of_ble_eq_true rfl) dX12_hadIn10_27 ⟨Nat.le_of_ble_eq_true rfl, Nat.le_of_ble_eq_true rfl⟩ (fun x7 h8 => ?_)
  exact r_iret C dX12_hadIn10_30
set_option maxRecDepth 100000 in
set_option maxHeartbeats 4000000 in
theorem tX12_law_L58 {K : AC} {g : WG} (hg : p_al g = false)  (C : Cx K g cX12_law 6 RX12 (some .int) "law" 613 0 0) (o0 : Nat) (i1 : Int32) (i2 : Int32) (o3 : Nat) (i4 : Int32) {kx : PH → Option (Int32 × PH)} (hk : ∀  (h : PH), VX K g 6 0 0 (a_fin K g 0 0 em_i) 84 [(0, p_rf g o0), (2, .int i2), (3, p_rf g o3), (4, .int i4)] [] h (kx h)) : ∀ (n : Nat) (i5 : Int32) (h : PH), VX K g 6 0 0 (a_fin K g 0 0 em_i) 58 [(0, p_rf g o0), (1, .int i1), (2, .int i2), (3, p_rf g o3), (4, .int i4), (5, .int i5)] [] h (fX12_law_L58 o0 i1 i2 o3 i4 kx n i5 h) := by
  intro n
  induction n with
  | zero =>
    intros
    exact r_none
  | succ n ih =>
    intro i5 h
    rw [fX12_law_L58]
    refine r_iload C dX12_law_58 5 rfl ?_
    refine r_iload_n C dX12_law_60 1 rfl ?_
    refine r_icmp_ge (tgt := 84) C dX12_law_61 (by decide) ?_ ?_
    · refine r_perm (lv' := [(0, p_rf g o0), (2, .int i2), (3, p_rf g o3), (4, .int i4)]) [0, 2, 3, 4] rfl ?_
      exact hk h
    · refine r_aload_n C dX12_law_64 0 rfl ?_
      refine r_gr C wf_X12_42_11 dX12_law_65 (fun q1 => ?_)
      refine r_iload C dX12_law_68 5 rfl ?_
      refine r_aload_n C dX12_law_70 0 rfl ?_
      refine r_gr C wf_X12_28_11 dX12_law_71 (fun q2 => ?_)
      refine r_iload C dX12_law_74 5 rfl ?_
      refine r_bald C dX12_law_76 (fun x3 => ?_)
      refine r_bast hg C dX12_law_77 (fun h4 => ?_)
      refine r_iinc (lv' := [(0, p_rf g o0), (1, .int i1), (2, .int i2), (3, p_rf g o3), (4, .int i4)]) C dX12_law_78 5 rfl k_i1 (by decide) (fun _ => rfl) (fun x5 => ?_)
      refine r_goto (tgt := 58) C dX12_law_81 (by decide) ?_
      refine r_perm (lv' := [(0, p_rf g o0), (1, .int i1), (2, .int i2), (3, p_rf g o3), (4, .int i4), (5, .int x5)]) [1, 2, 3, 4, 5, 0] rfl ?_
      exact ih x5 h4
set_option maxRecDepth 100000 in
set_option maxHeartbeats 4000000 in
theorem tcX12_law (l : Launch) (g : WG) (hg : p_al g = false) (o0 : Nat) (h : PH) : CT l g 613 0 0 yX12_law cX12_law 6 (some .int) em_i [p_rf g o0] h (fX12_law o0 h) := by
  refine CT_of (own := RX12) (nm := "law") (by decide +kernel) (Nat.le_of_ble_eq_true rfl) rfl rfl rfl ⟨rfl, rfl⟩ (fun K hK C => ?_)
  subst hK
  unfold fX12_law
  show VX K g _ _ _ _ _ [(0, p_rf g o0)] _ _ _
  refine r_aload_n C dX12_law_0 0 rfl ?_
  refine r_iconst C dX12_law_1 k_i0 ?_
  refine r_pi C wf_X12_109_11 dX12_law_2 (fun h1 => ?_)
  refine r_aload_n C dX12_law_5 0 rfl ?_
  refine r_gi C wf_X12_129_11 dX12_law_6 (fun x2 => ?_)
  refine r_istore_n (lv9 := [(1, .int x2), (0, p_rf g o0)]) C dX12_law_9 (by decide) rfl ?_
  refine r_aload_n C dX12_law_10 1 rfl ?_
  refine r_cvi (As := []) (st := []) C wv_X12_226 (tcX12_readRule K.2.1 g hg o0 h1) (Nat.le_of_ble_eq_true rfl) rfl rfl (Nat.le_of_ble_eq_true rfl) dX12_law_11 ⟨Nat.le_of_ble_eq_true rfl, Nat.le_of_ble_eq_true rfl⟩ (fun x3 h4 => ?_)
  refine r_if_ne (tgt := 26) C dX12_law_14 (by decide) ?_ ?_
  · refine r_aload_n C dX12_law_26 1 rfl ?_
    refine r_cvi (As := []) (st := []) C wv_X12_435 (tcX12_hadIn10 K.2.1 g hg o0 h4) (Nat.le_of_ble_eq_true rfl) rfl rfl (Nat.le_of_ble_eq_true rfl) dX12_law_27 ⟨Nat.le_of_ble_eq_true rfl, Nat.le_of_ble_eq_true rfl⟩ (fun x5 h6 => ?_)
    refine r_istore_n (lv9 := [(2, .int x5), (1, .int x2), (0, p_rf g o0)]) C dX12_law_30 (by decide) rfl ?_
    refine r_aload_n C dX12_law_31 2 rfl ?_
    refine r_gr C wf_X12_42_11 dX12_law_32 (fun q7 => ?_)
    refine r_astore_n (lv9 := [(3, p_rf g q7), (2, .int x5), (1, .int x2), (0, p_rf g o0)]) C dX12_law_35 (by decide) rfl ?_
    refine r_aload_n C dX12_law_36 3 rfl ?_
    refine r_gi C wf_X12_229_11 dX12_law_37 (fun x8 => ?_)
    refine r_istore (lv9 := [(4, .int x8), (3, p_rf g q7), (2, .int x5), (1, .int x2), (0, p_rf g o0)]) C dX12_law_40 (by decide) rfl ?_
    refine r_aload_n C dX12_law_42 4 rfl ?_
    refine r_aload_n C dX12_law_43 4 rfl ?_
    refine r_gr C wf_X12_45_11 dX12_law_44 (fun q9 => ?_)
    refine r_pr C wf_X12_42_11 rfl rfl dX12_law_47 (fun h10 => ?_)
    refine r_aload_n C dX12_law_50 4 rfl ?_
    refine r_iload_n C dX12_law_51 3 rfl ?_
    refine r_pi C wf_X12_229_11 dX12_law_52 (fun h11 => ?_)
    refine r_iconst C dX12_law_55 k_i0 ?_
    refine r_istore (lv9 := [(5, .int (0 : Int32)), (4, .int x8), (3, p_rf g q7), (2, .int x5), (1, .int x2), (0, p_rf g o0)]) C dX12_law_56 (by decide) rfl ?_
    refine r_perm (lv' := [(0, p_rf g o0), (1, .int x2), (2, .int x5), (3, p_rf g q7), (4, .int x8), (5, .int (0 : Int32))]) [5, 4, 3, 2, 1, 0] rfl ?_
    refine tX12_law_L58 hg C o0 x2 x5 q7 x8 (fun h12 => ?_) FU (0 : Int32) h11
    refine r_aload_n C dX12_law_84 0 rfl ?_
    refine r_cvi (As := []) (st := []) C wv_X12_435 (tcX12_hadIn10 K.2.1 g hg o0 h12) (Nat.le_of_ble_eq_true rfl) rfl rfl (Nat.le_of_ble_eq_true rfl) dX12_law_85 ⟨Nat.le_of_ble_eq_true rfl, Nat.le_of_ble_eq_true rfl⟩ (fun x13 h14 => ?_)
    refine r_istore (lv9 := [(5, .int x13), (0, p_rf g o0), (2, .int x5), (3, p_rf g q7), (4, .int x8)]) C dX12_law_88 (by decide) rfl ?_
    refine r_aload_n C dX12_law_90 1 rfl ?_
    refine r_aload_n C dX12_law_91 3 rfl ?_
    refine r_pr C wf_X12_42_11 rfl rfl dX12_law_92 (fun h15 => ?_)
    refine r_aload_n C dX12_law_95 1 rfl ?_
    refine r_iload C dX12_law_96 4 rfl ?_
    refine r_pi C wf_X12_229_11 dX12_law_98 (fun h16 => ?_)
    refine r_aload_n C dX12_law_101 1 rfl ?_
    refine r_iconst C dX12_law_102 k_i0 ?_
    refine r_pi C wf_X12_113_11 dX12_law_103 (fun h17 => ?_)
    refine r_aload_n C dX12_law_106 1 rfl ?_
    refine r_iload C dX12_law_107 0 rfl ?_
    refine r_i2l C dX12_law_109 ?_
    refine r_cvv (As := [.long (x13.toInt64)]) (st := []) C wv_X12_329 (tcX12_tell K.2.1 g hg o0 (x13.toInt64) h17) (Nat.le_of_ble_eq_true rfl) rfl rfl (Nat.le_of_ble_eq_true rfl) dX12_law_110 ⟨Nat.le_of_ble_eq_true rfl, Nat.le_of_ble_eq_true rfl⟩ (fun h18 => ?_)
    refine r_aload_n C dX12_law_113 1 rfl ?_
    refine r_iload_n C dX12_law_114 2 rfl ?_
    refine r_i2l C dX12_law_115 ?_
    refine r_cvv (As := [.long (x5.toInt64)]) (st := []) C wv_X12_329 (tcX12_tell K.2.1 g hg o0 (x5.toInt64) h18) (Nat.le_of_ble_eq_true rfl) rfl rfl (Nat.le_of_ble_eq_true rfl) dX12_law_116 ⟨Nat.le_of_ble_eq_true rfl, Nat.le_of_ble_eq_true rfl⟩ (fun h19 => ?_)
    refine r_iload C dX12_law_119 0 rfl ?_
    refine r_iload_n C dX12_law_121 2 rfl ?_
    refine r_isub C dX12_law_122 ?_
    exact r_iret C dX12_law_123
  · refine r_sipush C dX12_law_17 k_sm10000 ?_
    refine r_aload_n C dX12_law_20 1 rfl ?_
    refine r_gi C wf_X12_144_11 dX12_law_21 (fun x20 => ?_)
    refine r_isub C dX12_law_24 ?_
    exact r_iret C dX12_law_25
set_option maxRecDepth 100000 in
set_option maxHeartbeats 4000000 in
theorem tcX12_draw (l : Launch) (g : WG) (hg : p_al g = false) (o0 : Nat) (i1 : Int32) (h : PH) : CT l g 1 0 0 yX12_draw cX12_draw 2 (some .int) em_i [p_rf g o0, .int i1] h (fX12_draw o0 i1 h) := by
  refine CT_of (own := RX12) (nm := "draw") (by decide +kernel) (Nat.le_of_ble_eq_true rfl) rfl rfl rfl ⟨rfl, rfl⟩ (fun K hK C => ?_)
  subst hK
  unfold fX12_draw
  show VX K g _ _ _ _ _ [(0, p_rf g o0), (1, .int i1)] _ _ _
  refine r_aload_n C dX12_draw_0 0 rfl ?_
  refine r_aload_n C dX12_draw_1 0 rfl ?_
  refine r_gi C wf_X12_438_11 dX12_draw_2 (fun x1 => ?_)
  refine r_ldcw (v := (1103515245 : Int32)) C dX12_draw_5 m_2034 ?_
  refine r_imul C dX12_draw_8 ?_
  refine r_sipush C dX12_draw_9 k_s12345 ?_
  refine r_iadd C dX12_draw_12 ?_
  refine r_pi C wf_X12_438_11 dX12_draw_13 (fun h2 => ?_)
  refine r_aload_n C dX12_draw_16 0 rfl ?_
  refine r_gi C wf_X12_438_11 dX12_draw_17 (fun x3 => ?_)
  refine r_bipush C dX12_draw_20 k_b16 ?_
  refine r_iushr C dX12_draw_22 ?_
  refine r_iload_n C dX12_draw_23 1 rfl ?_
  refine r_irem C dX12_draw_24 ?_
  exact r_iret C dX12_draw_25
set_option maxRecDepth 100000 in
set_option maxHeartbeats 4000000 in
theorem tX12_years_J169_36 {K : AC} {g : WG} (hg : p_al g = false)  (C : Cx K g cX12_years 7 RX12 (some .int) "years" 611 0 0) (o0 : Nat) (i2 : Int32) (i3 : Int32)    {rc : Int32 → PH → Option (Int32 × PH)} {kx : PH → Option (Int32 × PH)} (hr : ∀ (i3' : Int32) (h : PH), VX K g 7 0 0 (a_fin K g 0 0 em_i) 36 [(0, p_rf g o0), (2, .int i2), (3, .int i3')] [] h (rc i3' h)) (hk : ∀  (h : PH), VX K g 7 0 0 (a_fin K g 0 0 em_i) 175 [(0, p_rf g o0)] [] h (kx  h)) (h : PH) : VX K g 7 0 0 (a_fin K g 0 0 em_i) 169 [(0, p_rf g o0), (2, .int i2), (3, .int i3)] [] h (fX12_years_J169_36 rc kx o0 i2 i3 h) := by
  unfold fX12_years_J169_36
  refine r_iinc (lv' := [(0, p_rf g o0), (2, .int i2)]) C dX12_years_169 2 rfl k_i1 (by decide) (fun _ => rfl) (fun x1 => ?_)
  refine r_goto (tgt := 36) C dX12_years_172 (by decide) ?_
  refine r_perm (lv' := [(0, p_rf g o0), (2, .int i2), (3, .int x1)]) [1, 2, 0] rfl ?_
  exact hr x1 h
set_option maxRecDepth 100000 in
set_option maxHeartbeats 4000000 in
theorem tX12_years_J137_36 {K : AC} {g : WG} (hg : p_al g = false)  (C : Cx K g cX12_years 7 RX12 (some .int) "years" 611 0 0) (o0 : Nat) (i2 : Int32) (i3 : Int32) (i4 : Int32) (i5 : Int32) (i6 : Int32)    {rc : Int32 → PH → Option (Int32 × PH)} {kx : PH → Option (Int32 × PH)} (hr : ∀ (i3' : Int32) (h : PH), VX K g 7 0 0 (a_fin K g 0 0 em_i) 36 [(0, p_rf g o0), (2, .int i2), (3, .int i3')] [] h (rc i3' h)) (hk : ∀  (h : PH), VX K g 7 0 0 (a_fin K g 0 0 em_i) 175 [(0, p_rf g o0)] [] h (kx  h)) (h : PH) : VX K g 7 0 0 (a_fin K g 0 0 em_i) 137 [(0, p_rf g o0), (2, .int i2), (3, .int i3), (4, .int i4), (5, .int i5), (6, .int i6)] [] h (fX12_years_J137_36 rc kx o0 i2 i3 i4 i5 i6 h) := by
  unfold fX12_years_J137_36
  refine r_iload C dX12_years_137 3 rfl ?_
  refine r_iconst C dX12_years_139 k_i3 ?_
  refine r_icmp_ne (tgt := 169) C dX12_years_140 (by decide) ?_ ?_
  · refine r_perm (lv' := [(0, p_rf g o0), (2, .int i2), (3, .int i3)]) [0, 1, 2] rfl ?_
    exact tX12_years_J169_36 hg C o0 i2 i3 hr hk h
  · refine r_aload_n C dX12_years_143 0 rfl ?_
    refine r_aload_n C dX12_years_144 0 rfl ?_
    refine r_gr C wf_X12_57_11 dX12_years_145 (fun q1 => ?_)
    refine r_iload C dX12_years_148 4 rfl ?_
    refine r_iload C dX12_years_150 5 rfl ?_
    refine r_cvi (As := [p_rf g q1, .int i5, .int i6]) (st := []) C wv_X12_302 (tcX12_refusesBack K.2.1 g hg o0 q1 i5 i6 h) (Nat.le_of_ble_eq_true rfl) rfl rfl (Nat.le_of_ble_eq_true rfl) dX12_years_152 ⟨Nat.le_of_ble_eq_true rfl, Nat.le_of_ble_eq_true rfl⟩ (fun x2 h3 => ?_)
    refine r_if_ne (tgt := 169) C dX12_years_155 (by decide) ?_ ?_
    · refine r_perm (lv' := [(0, p_rf g o0), (2, .int i2), (3, .int i3)]) [0, 1, 2] rfl ?_
      exact tX12_years_J169_36 hg C o0 i2 i3 hr hk h3
    · refine r_aload_n C dX12_years_158 0 rfl ?_
      refine r_gr C wf_X12_57_11 dX12_years_159 (fun q4 => ?_)
      refine r_iload C dX12_years_162 4 rfl ?_
      refine r_iload C dX12_years_164 5 rfl ?_
      refine r_csv (As := [p_rf g q4, .int i5, .int i6]) (st := []) C ws_X12_305 (tcX12_goBack K.2.1 g hg q4 i5 i6 h3) (Nat.le_of_ble_eq_true rfl) rfl rfl (Nat.le_of_ble_eq_true rfl) dX12_years_166 ⟨Nat.le_of_ble_eq_true rfl, Nat.le_of_ble_eq_true rfl⟩ (fun h5 => ?_)
      refine r_perm (lv' := [(0, p_rf g o0), (2, .int i2), (3, .int i3)]) [0, 1, 2] rfl ?_
      exact tX12_years_J169_36 hg C o0 i2 i3 hr hk h5
set_option maxRecDepth 100000 in
set_option maxHeartbeats 4000000 in
theorem tX12_years_J62_36 {K : AC} {g : WG} (hg : p_al g = false)  (C : Cx K g cX12_years 7 RX12 (some .int) "years" 611 0 0) (o0 : Nat) (i2 : Int32) (i3 : Int32) (i4 : Int32)    {rc : Int32 → PH → Option (Int32 × PH)} {kx : PH → Option (Int32 × PH)} (hr : ∀ (i3' : Int32) (h : PH), VX K g 7 0 0 (a_fin K g 0 0 em_i) 36 [(0, p_rf g o0), (2, .int i2), (3, .int i3')] [] h (rc i3' h)) (hk : ∀  (h : PH), VX K g 7 0 0 (a_fin K g 0 0 em_i) 175 [(0, p_rf g o0)] [] h (kx  h)) (h : PH) : VX K g 7 0 0 (a_fin K g 0 0 em_i) 62 [(0, p_rf g o0), (2, .int i2), (3, .int i3), (4, .int i4)] [] h (fX12_years_J62_36 rc kx o0 i2 i3 i4 h) := by
  unfold fX12_years_J62_36
  refine r_iload C dX12_years_62 3 rfl ?_
  refine r_iconst C dX12_years_64 k_i2 ?_
  refine r_icmp_lt (tgt := 169) C dX12_years_65 (by decide) ?_ ?_
  · refine r_perm (lv' := [(0, p_rf g o0), (2, .int i2), (3, .int i3)]) [0, 1, 2] rfl ?_
    exact tX12_years_J169_36 hg C o0 i2 i3 hr hk h
  · refine r_aload_n C dX12_years_68 0 rfl ?_
    refine r_gi C wf_X12_123_11 dX12_years_69 (fun x1 => ?_)
    refine r_if_eq (tgt := 169) C dX12_years_72 (by decide) ?_ ?_
    · refine r_perm (lv' := [(0, p_rf g o0), (2, .int i2), (3, .int i3)]) [0, 1, 2] rfl ?_
      exact tX12_years_J169_36 hg C o0 i2 i3 hr hk h
    · refine r_aload_n C dX12_years_75 0 rfl ?_
      refine r_gi C wf_X12_116_11 dX12_years_76 (fun x2 => ?_)
      refine r_if_ne (tgt := 85) C dX12_years_79 (by decide) ?_ ?_
      · refine r_aload_n C dX12_years_85 0 rfl ?_
        refine r_aload_n C dX12_years_86 0 rfl ?_
        refine r_gi C wf_X12_123_11 dX12_years_87 (fun x3 => ?_)
        refine r_cvi (As := [.int x3]) (st := []) C wv_X12_442 (tcX12_draw K.2.1 g hg o0 x3 h) (Nat.le_of_ble_eq_true rfl) rfl rfl (Nat.le_of_ble_eq_true rfl) dX12_years_90 ⟨Nat.le_of_ble_eq_true rfl, Nat.le_of_ble_eq_true rfl⟩ (fun x4 h5 => ?_)
        refine r_istore (lv9 := [(5, .int x4), (0, p_rf g o0), (2, .int i2), (3, .int i3), (4, .int i4)]) C dX12_years_93 (by decide) rfl ?_
        refine r_aload_n C dX12_years_95 1 rfl ?_
        refine r_aload_n C dX12_years_96 1 rfl ?_
        refine r_gi C wf_X12_116_11 dX12_years_97 (fun x6 => ?_)
        refine r_cvi (As := [.int x6]) (st := []) C wv_X12_442 (tcX12_draw K.2.1 g hg o0 x6 h5) (Nat.le_of_ble_eq_true rfl) rfl rfl (Nat.le_of_ble_eq_true rfl) dX12_years_100 ⟨Nat.le_of_ble_eq_true rfl, Nat.le_of_ble_eq_true rfl⟩ (fun x7 h8 => ?_)
        refine r_istore (lv9 := [(6, .int x7), (5, .int x4), (0, p_rf g o0), (2, .int i2), (3, .int i3), (4, .int i4)]) C dX12_years_103 (by decide) rfl ?_
        refine r_iload C dX12_years_105 5 rfl ?_
        refine r_iconst C dX12_years_107 k_i2 ?_
        refine r_icmp_ne (tgt := 137) C dX12_years_108 (by decide) ?_ ?_
        · refine r_perm (lv' := [(0, p_rf g o0), (2, .int i2), (3, .int i3), (4, .int i4), (5, .int x4), (6, .int x7)]) [2, 3, 4, 5, 1, 0] rfl ?_
          exact tX12_years_J137_36 hg C o0 i2 i3 i4 x4 x7 hr hk h8
        · refine r_aload_n C dX12_years_111 2 rfl ?_
          refine r_aload_n C dX12_years_112 2 rfl ?_
          refine r_gr C wf_X12_57_11 dX12_years_113 (fun q9 => ?_)
          refine r_iload C dX12_years_116 1 rfl ?_
          refine r_iload C dX12_years_118 0 rfl ?_
          refine r_cvi (As := [p_rf g q9, .int x4, .int x7]) (st := []) C wv_X12_292 (tcX12_refusesGift K.2.1 g hg o0 q9 x4 x7 h8) (Nat.le_of_ble_eq_true rfl) rfl rfl (Nat.le_of_ble_eq_true rfl) dX12_years_120 ⟨Nat.le_of_ble_eq_true rfl, Nat.le_of_ble_eq_true rfl⟩ (fun x10 h11 => ?_)
          refine r_if_ne (tgt := 137) C dX12_years_123 (by decide) ?_ ?_
          · refine r_perm (lv' := [(0, p_rf g o0), (2, .int i2), (3, .int i3), (4, .int i4), (5, .int x4), (6, .int x7)]) [2, 3, 4, 5, 1, 0] rfl ?_
            exact tX12_years_J137_36 hg C o0 i2 i3 i4 x4 x7 hr hk h11
          · refine r_aload_n C dX12_years_126 2 rfl ?_
            refine r_gr C wf_X12_57_11 dX12_years_127 (fun q12 => ?_)
            refine r_iload C dX12_years_130 1 rfl ?_
            refine r_iload C dX12_years_132 0 rfl ?_
            refine r_csv (As := [p_rf g q12, .int x4, .int x7]) (st := []) C ws_X12_299 (tcX12_goGift K.2.1 g hg q12 x4 x7 h11) (Nat.le_of_ble_eq_true rfl) rfl rfl (Nat.le_of_ble_eq_true rfl) dX12_years_134 ⟨Nat.le_of_ble_eq_true rfl, Nat.le_of_ble_eq_true rfl⟩ (fun h13 => ?_)
            refine r_perm (lv' := [(0, p_rf g o0), (2, .int i2), (3, .int i3), (4, .int i4), (5, .int x4), (6, .int x7)]) [2, 3, 4, 5, 1, 0] rfl ?_
            exact tX12_years_J137_36 hg C o0 i2 i3 i4 x4 x7 hr hk h13
      · refine r_goto (tgt := 169) C dX12_years_82 (by decide) ?_
        refine r_perm (lv' := [(0, p_rf g o0), (2, .int i2), (3, .int i3)]) [0, 1, 2] rfl ?_
        exact tX12_years_J169_36 hg C o0 i2 i3 hr hk h
set_option maxRecDepth 100000 in
set_option maxHeartbeats 4000000 in
theorem tX12_years_L36 {K : AC} {g : WG} (hg : p_al g = false)  (C : Cx K g cX12_years 7 RX12 (some .int) "years" 611 0 0) (o0 : Nat) (i2 : Int32) {kx : PH → Option (Int32 × PH)} (hk : ∀  (h : PH), VX K g 7 0 0 (a_fin K g 0 0 em_i) 175 [(0, p_rf g o0)] [] h (kx h)) : ∀ (n : Nat) (i3 : Int32) (h : PH), VX K g 7 0 0 (a_fin K g 0 0 em_i) 36 [(0, p_rf g o0), (2, .int i2), (3, .int i3)] [] h (fX12_years_L36 o0 i2 kx n i3 h) := by
  intro n
  induction n with
  | zero =>
    intros
    exact r_none
  | succ n ih =>
    intro i3 h
    rw [fX12_years_L36]
    refine r_iload_n C dX12_years_36 2 rfl ?_
    refine r_iload_n C dX12_years_37 1 rfl ?_
    refine r_icmp_ge (tgt := 175) C dX12_years_38 (by decide) ?_ ?_
    · refine r_perm (lv' := [(0, p_rf g o0)]) [0] rfl ?_
      exact hk h
    · refine r_aload_n C dX12_years_41 0 rfl ?_
      refine r_iconst C dX12_years_42 k_i4 ?_
      refine r_cvi (As := [.int (4 : Int32)]) (st := []) C wv_X12_442 (tcX12_draw K.2.1 g hg o0 (4 : Int32) h) (Nat.le_of_ble_eq_true rfl) rfl rfl (Nat.le_of_ble_eq_true rfl) dX12_years_43 ⟨Nat.le_of_ble_eq_true rfl, Nat.le_of_ble_eq_true rfl⟩ (fun x1 h2 => ?_)
      refine r_istore (lv9 := [(4, .int x1), (0, p_rf g o0), (2, .int i2), (3, .int i3)]) C dX12_years_46 (by decide) rfl ?_
      refine r_iload C dX12_years_48 0 rfl ?_
      refine r_iconst C dX12_years_50 k_i2 ?_
      refine r_icmp_ge (tgt := 62) C dX12_years_51 (by decide) ?_ ?_
      · refine r_perm (lv' := [(0, p_rf g o0), (2, .int i2), (3, .int i3), (4, .int x1)]) [1, 2, 3, 0] rfl ?_
        exact tX12_years_J62_36 hg C o0 i2 i3 x1 ih hk h2
      · refine r_aload_n C dX12_years_54 1 rfl ?_
        refine r_aload_n C dX12_years_55 1 rfl ?_
        refine r_gr C wf_X12_57_11 dX12_years_56 (fun q3 => ?_)
        refine r_cvv (As := [p_rf g q3]) (st := []) C wv_X12_319 (tcX12_goDay K.2.1 g hg o0 q3 h2) (Nat.le_of_ble_eq_true rfl) rfl rfl (Nat.le_of_ble_eq_true rfl) dX12_years_59 ⟨Nat.le_of_ble_eq_true rfl, Nat.le_of_ble_eq_true rfl⟩ (fun h4 => ?_)
        refine r_perm (lv' := [(0, p_rf g o0), (2, .int i2), (3, .int i3), (4, .int x1)]) [1, 2, 3, 0] rfl ?_
        exact tX12_years_J62_36 hg C o0 i2 i3 x1 ih hk h4
set_option maxRecDepth 100000 in
set_option maxHeartbeats 4000000 in
theorem tcX12_years (l : Launch) (g : WG) (hg : p_al g = false) (o0 : Nat) (i1 : Int32) (i2 : Int32) (h : PH) : CT l g 611 0 0 yX12_years cX12_years 7 (some .int) em_i [p_rf g o0, .int i1, .int i2] h (fX12_years o0 i1 i2 h) := by
  refine CT_of (own := RX12) (nm := "years") (by decide +kernel) (Nat.le_of_ble_eq_true rfl) rfl rfl rfl ⟨rfl, rfl⟩ (fun K hK C => ?_)
  subst hK
  unfold fX12_years
  show VX K g _ _ _ _ _ [(0, p_rf g o0), (1, .int i1), (2, .int i2)] _ _ _
  refine r_aload_n C dX12_years_0 0 rfl ?_
  refine r_iconst C dX12_years_1 k_i0 ?_
  refine r_pi C wf_X12_109_11 dX12_years_2 (fun h1 => ?_)
  refine r_iload_n C dX12_years_5 2 rfl ?_
  refine r_iconst C dX12_years_6 k_i1 ?_
  refine r_bipush C dX12_years_7 k_b60 ?_
  refine r_csi (As := [.int i2, .int (1 : Int32), .int (60 : Int32)]) (st := []) C ws_X12_119 (tcX12_in K.2.1 g hg i2 (1 : Int32) (60 : Int32) h1) (Nat.le_of_ble_eq_true rfl) rfl rfl (Nat.le_of_ble_eq_true rfl) dX12_years_9 ⟨Nat.le_of_ble_eq_true rfl, Nat.le_of_ble_eq_true rfl⟩ (fun x2 h3 => ?_)
  refine r_if_ne (tgt := 17) C dX12_years_12 (by decide) ?_ ?_
  · refine r_aload_n C dX12_years_17 0 rfl ?_
    refine r_iload_n C dX12_years_18 1 rfl ?_
    refine r_pi C wf_X12_438_11 dX12_years_19 (fun h4 => ?_)
    refine r_aload_n C dX12_years_22 0 rfl ?_
    refine r_gr C wf_X12_9_11 dX12_years_23 (fun q5 => ?_)
    refine r_aload_n C dX12_years_26 0 rfl ?_
    refine r_gr C wf_X12_57_11 dX12_years_27 (fun q6 => ?_)
    refine r_iconst C dX12_years_30 k_i0 ?_
    refine r_csv (As := [p_rf g q5, p_rf g q6, .int (0 : Int32)]) (st := []) C ws_X12_284 (tcX12_lay K.2.1 g hg q5 q6 (0 : Int32) h4) (Nat.le_of_ble_eq_true rfl) rfl rfl (Nat.le_of_ble_eq_true rfl) dX12_years_31 ⟨Nat.le_of_ble_eq_true rfl, Nat.le_of_ble_eq_true rfl⟩ (fun h7 => ?_)
    refine r_iconst C dX12_years_34 k_i0 ?_
    refine r_istore_n (lv9 := [(3, .int (0 : Int32)), (0, p_rf g o0), (1, .int i1), (2, .int i2)]) C dX12_years_35 (by decide) rfl ?_
    refine r_perm (lv' := [(0, p_rf g o0), (2, .int i2), (3, .int (0 : Int32))]) [1, 3, 0] rfl ?_
    refine tX12_years_L36 hg C o0 i2 (fun h8 => ?_) FU (0 : Int32) h7
    refine r_aload_n C dX12_years_175 0 rfl ?_
    refine r_iconst C dX12_years_176 k_i0 ?_
    refine r_pi C wf_X12_113_11 dX12_years_177 (fun h9 => ?_)
    refine r_aload_n C dX12_years_180 0 rfl ?_
    refine r_aload_n C dX12_years_181 0 rfl ?_
    refine r_aload_n C dX12_years_182 0 rfl ?_
    refine r_gr C wf_X12_57_11 dX12_years_183 (fun q10 => ?_)
    refine r_cvi (As := [p_rf g q10]) (st := [p_rf g o0]) C wv_X12_325 (tcX12_humoursOfAll K.2.1 g hg o0 q10 h9) (Nat.le_of_ble_eq_true rfl) rfl rfl (Nat.le_of_ble_eq_true rfl) dX12_years_186 ⟨Nat.le_of_ble_eq_true rfl, Nat.le_of_ble_eq_true rfl⟩ (fun x11 h12 => ?_)
    refine r_i2l C dX12_years_189 ?_
    refine r_cvv (As := [.long (x11.toInt64)]) (st := []) C wv_X12_329 (tcX12_tell K.2.1 g hg o0 (x11.toInt64) h12) (Nat.le_of_ble_eq_true rfl) rfl rfl (Nat.le_of_ble_eq_true rfl) dX12_years_190 ⟨Nat.le_of_ble_eq_true rfl, Nat.le_of_ble_eq_true rfl⟩ (fun h13 => ?_)
    refine r_aload_n C dX12_years_193 0 rfl ?_
    refine r_aload_n C dX12_years_194 0 rfl ?_
    refine r_aload_n C dX12_years_195 0 rfl ?_
    refine r_gr C wf_X12_57_11 dX12_years_196 (fun q14 => ?_)
    refine r_cvi (As := [p_rf g q14]) (st := [p_rf g o0]) C wv_X12_445 (tcX12_heldByAll K.2.1 g hg o0 q14 h13) (Nat.le_of_ble_eq_true rfl) rfl rfl (Nat.le_of_ble_eq_true rfl) dX12_years_199 ⟨Nat.le_of_ble_eq_true rfl, Nat.le_of_ble_eq_true rfl⟩ (fun x15 h16 => ?_)
    refine r_i2l C dX12_years_202 ?_
    refine r_cvv (As := [.long (x15.toInt64)]) (st := []) C wv_X12_329 (tcX12_tell K.2.1 g hg o0 (x15.toInt64) h16) (Nat.le_of_ble_eq_true rfl) rfl rfl (Nat.le_of_ble_eq_true rfl) dX12_years_203 ⟨Nat.le_of_ble_eq_true rfl, Nat.le_of_ble_eq_true rfl⟩ (fun h17 => ?_)
    refine r_aload_n C dX12_years_206 0 rfl ?_
    refine r_aload_n C dX12_years_207 0 rfl ?_
    refine r_gr C wf_X12_57_11 dX12_years_208 (fun q18 => ?_)
    refine r_cvi (As := [p_rf g q18]) (st := []) C wv_X12_333 (tcX12_hadByAll K.2.1 g hg o0 q18 h17) (Nat.le_of_ble_eq_true rfl) rfl rfl (Nat.le_of_ble_eq_true rfl) dX12_years_211 ⟨Nat.le_of_ble_eq_true rfl, Nat.le_of_ble_eq_true rfl⟩ (fun x19 h20 => ?_)
    exact r_iret C dX12_years_214
  · refine r_iconst C dX12_years_15 k_im1 ?_
    exact r_iret C dX12_years_16
set_option maxRecDepth 100000 in
set_option maxHeartbeats 4000000 in
theorem tcX12_keep (l : Launch) (g : WG) (hg : p_al g = false) (o0 : Nat) (i1 : Int32) (h : PH) : CT l g 2 0 0 yX12_keep cX12_keep 2 (some .boolean) em_i [p_rf g o0, .int i1] h (fX12_keep o0 i1 h) := by
  refine CT_of (own := RX12) (nm := "keep") (by decide +kernel) (Nat.le_of_ble_eq_true rfl) rfl rfl rfl ⟨rfl, rfl⟩ (fun K hK C => ?_)
  subst hK
  unfold fX12_keep
  show VX K g _ _ _ _ _ [(0, p_rf g o0), (1, .int i1)] _ _ _
  refine r_aload_n C dX12_keep_0 0 rfl ?_
  refine r_iconst C dX12_keep_1 k_i0 ?_
  refine r_pi C wf_X12_109_11 dX12_keep_2 (fun h1 => ?_)
  refine r_iload_n C dX12_keep_5 1 rfl ?_
  refine r_iconst C dX12_keep_6 k_i0 ?_
  refine r_iconst C dX12_keep_7 k_i1 ?_
  refine r_csi (As := [.int i1, .int (0 : Int32), .int (1 : Int32)]) (st := []) C ws_X12_119 (tcX12_in K.2.1 g hg i1 (0 : Int32) (1 : Int32) h1) (Nat.le_of_ble_eq_true rfl) rfl rfl (Nat.le_of_ble_eq_true rfl) dX12_keep_8 ⟨Nat.le_of_ble_eq_true rfl, Nat.le_of_ble_eq_true rfl⟩ (fun x2 h3 => ?_)
  refine r_if_ne (tgt := 16) C dX12_keep_11 (by decide) ?_ ?_
  · refine r_aload_n C dX12_keep_16 0 rfl ?_
    refine r_gr C wf_X12_102_11 dX12_keep_17 (fun q4 => ?_)
    refine r_iload_n C dX12_keep_20 1 rfl ?_
    refine r_iconst C dX12_keep_21 k_i1 ?_
    refine r_zast hg C dX12_keep_22 (fun h5 => ?_)
    refine r_aload_n C dX12_keep_23 0 rfl ?_
    refine r_gr C wf_X12_106_11 dX12_keep_24 (fun q6 => ?_)
    refine r_iload_n C dX12_keep_27 1 rfl ?_
    refine r_aload_n C dX12_keep_28 0 rfl ?_
    refine r_gi C wf_X12_174_11 dX12_keep_29 (fun x7 => ?_)
    refine r_iast C dX12_keep_32 (fun h8 => ?_)
    refine r_aload_n C dX12_keep_33 0 rfl ?_
    refine r_gr C wf_X12_9_11 dX12_keep_34 (fun q9 => ?_)
    refine r_aload_n C dX12_keep_37 0 rfl ?_
    refine r_gr C wf_X12_99_11 dX12_keep_38 (fun q10 => ?_)
    refine r_bipush C dX12_keep_41 k_b88 ?_
    refine r_iload_n C dX12_keep_43 1 rfl ?_
    refine r_imul C dX12_keep_44 ?_
    refine r_csv (As := [p_rf g q9, p_rf g q10, .int ((88 : Int32) * i1)]) (st := []) C ws_X12_284 (tcX12_lay K.2.1 g hg q9 q10 ((88 : Int32) * i1) h8) (Nat.le_of_ble_eq_true rfl) rfl rfl (Nat.le_of_ble_eq_true rfl) dX12_keep_45 ⟨Nat.le_of_ble_eq_true rfl, Nat.le_of_ble_eq_true rfl⟩ (fun h11 => ?_)
    refine r_iconst C dX12_keep_48 k_i1 ?_
    exact r_zret C dX12_keep_49
  · refine r_iconst C dX12_keep_14 k_i0 ?_
    exact r_zret C dX12_keep_15
set_option maxRecDepth 100000 in
set_option maxHeartbeats 4000000 in
theorem tX12_again_L40 {K : AC} {g : WG} (hg : p_al g = false)  (C : Cx K g cX12_again 3 RX12 (some .boolean) "again" 2 0 0) (o0 : Nat) (i1 : Int32) {kx : PH → Option (Int32 × PH)} (hk : ∀  (h : PH), VX K g 3 0 0 (a_fin K g 0 0 em_i) 69 [(0, p_rf g o0)] [] h (kx h)) : ∀ (n : Nat) (i2 : Int32) (h : PH), VX K g 3 0 0 (a_fin K g 0 0 em_i) 40 [(0, p_rf g o0), (1, .int i1), (2, .int i2)] [] h (fX12_again_L40 o0 i1 kx n i2 h) := by
  intro n
  induction n with
  | zero =>
    intros
    exact r_none
  | succ n ih =>
    intro i2 h
    rw [fX12_again_L40]
    refine r_iload_n C dX12_again_40 2 rfl ?_
    refine r_bipush C dX12_again_41 k_b88 ?_
    refine r_icmp_ge (tgt := 69) C dX12_again_43 (by decide) ?_ ?_
    · refine r_perm (lv' := [(0, p_rf g o0)]) [0] rfl ?_
      exact hk h
    · refine r_aload_n C dX12_again_46 0 rfl ?_
      refine r_gr C wf_X12_9_11 dX12_again_47 (fun q1 => ?_)
      refine r_iload_n C dX12_again_50 2 rfl ?_
      refine r_aload_n C dX12_again_51 0 rfl ?_
      refine r_gr C wf_X12_99_11 dX12_again_52 (fun q2 => ?_)
      refine r_bipush C dX12_again_55 k_b88 ?_
      refine r_iload_n C dX12_again_57 1 rfl ?_
      refine r_imul C dX12_again_58 ?_
      refine r_iload_n C dX12_again_59 2 rfl ?_
      refine r_iadd C dX12_again_60 ?_
      refine r_iald C dX12_again_61 (fun x3 => ?_)
      refine r_iast C dX12_again_62 (fun h4 => ?_)
      refine r_iinc (lv' := [(0, p_rf g o0), (1, .int i1)]) C dX12_again_63 2 rfl k_i1 (by decide) (fun _ => rfl) (fun x5 => ?_)
      refine r_goto (tgt := 40) C dX12_again_66 (by decide) ?_
      refine r_perm (lv' := [(0, p_rf g o0), (1, .int i1), (2, .int x5)]) [1, 2, 0] rfl ?_
      exact ih x5 h4
set_option maxRecDepth 100000 in
set_option maxHeartbeats 4000000 in
theorem tcX12_again (l : Launch) (g : WG) (hg : p_al g = false) (o0 : Nat) (i1 : Int32) (h : PH) : CT l g 2 0 0 yX12_again cX12_again 3 (some .boolean) em_i [p_rf g o0, .int i1] h (fX12_again o0 i1 h) := by
  refine CT_of (own := RX12) (nm := "again") (by decide +kernel) (Nat.le_of_ble_eq_true rfl) rfl rfl rfl ⟨rfl, rfl⟩ (fun K hK C => ?_)
  subst hK
  unfold fX12_again
  show VX K g _ _ _ _ _ [(0, p_rf g o0), (1, .int i1)] _ _ _
  refine r_aload_n C dX12_again_0 0 rfl ?_
  refine r_iconst C dX12_again_1 k_i0 ?_
  refine r_pi C wf_X12_109_11 dX12_again_2 (fun h1 => ?_)
  refine r_iload_n C dX12_again_5 1 rfl ?_
  refine r_iconst C dX12_again_6 k_i0 ?_
  refine r_iconst C dX12_again_7 k_i1 ?_
  refine r_csi (As := [.int i1, .int (0 : Int32), .int (1 : Int32)]) (st := []) C ws_X12_119 (tcX12_in K.2.1 g hg i1 (0 : Int32) (1 : Int32) h1) (Nat.le_of_ble_eq_true rfl) rfl rfl (Nat.le_of_ble_eq_true rfl) dX12_again_8 ⟨Nat.le_of_ble_eq_true rfl, Nat.le_of_ble_eq_true rfl⟩ (fun x2 h3 => ?_)
  refine r_if_eq (tgt := 36) C dX12_again_11 (by decide) ?_ ?_
  · refine r_iconst C dX12_again_36 k_i0 ?_
    exact r_zret C dX12_again_37
  · refine r_aload_n C dX12_again_14 0 rfl ?_
    refine r_gr C wf_X12_102_11 dX12_again_15 (fun q4 => ?_)
    refine r_iload_n C dX12_again_18 1 rfl ?_
    refine r_zald C dX12_again_19 (fun x5 => ?_)
    refine r_if_eq (tgt := 36) C dX12_again_20 (by decide) ?_ ?_
    · refine r_iconst C dX12_again_36 k_i0 ?_
      exact r_zret C dX12_again_37
    · refine r_aload_n C dX12_again_23 0 rfl ?_
      refine r_gr C wf_X12_106_11 dX12_again_24 (fun q6 => ?_)
      refine r_iload_n C dX12_again_27 1 rfl ?_
      refine r_iald C dX12_again_28 (fun x7 => ?_)
      refine r_aload_n C dX12_again_29 0 rfl ?_
      refine r_gi C wf_X12_174_11 dX12_again_30 (fun x8 => ?_)
      refine r_icmp_eq (tgt := 38) C dX12_again_33 (by decide) ?_ ?_
      · refine r_iconst C dX12_again_38 k_i0 ?_
        refine r_istore_n (lv9 := [(2, .int (0 : Int32)), (0, p_rf g o0), (1, .int i1)]) C dX12_again_39 (by decide) rfl ?_
        refine r_perm (lv' := [(0, p_rf g o0), (1, .int i1), (2, .int (0 : Int32))]) [1, 2, 0] rfl ?_
        refine tX12_again_L40 hg C o0 i1 (fun h9 => ?_) FU (0 : Int32) h3
        refine r_aload_n C dX12_again_69 0 rfl ?_
        refine r_iconst C dX12_again_70 k_i0 ?_
        refine r_pi C wf_X12_171_11 dX12_again_71 (fun h10 => ?_)
        refine r_iconst C dX12_again_74 k_i1 ?_
        exact r_zret C dX12_again_75
      · refine r_iconst C dX12_again_36 k_i0 ?_
        exact r_zret C dX12_again_37
set_option maxRecDepth 100000 in
set_option maxHeartbeats 4000000 in
theorem tcX12_count (l : Launch) (g : WG) (hg : p_al g = false) (o0 : Nat) (i1 : Int32) (h : PH) : CT l g 6 0 0 yX12_count cX12_count 2 (some .int) em_i [p_rf g o0, .int i1] h (fX12_count o0 i1 h) := by
  refine CT_of (own := RX12) (nm := "count") (by decide +kernel) (Nat.le_of_ble_eq_true rfl) rfl rfl rfl ⟨rfl, rfl⟩ (fun K hK C => ?_)
  subst hK
  unfold fX12_count
  show VX K g _ _ _ _ _ [(0, p_rf g o0), (1, .int i1)] _ _ _
  refine r_aload_n C dX12_count_0 0 rfl ?_
  refine r_iconst C dX12_count_1 k_i0 ?_
  refine r_pi C wf_X12_109_11 dX12_count_2 (fun h1 => ?_)
  refine r_iload_n C dX12_count_5 1 rfl ?_
  refine r_ite (fun e => ?_) (fun q6_0 => ?_)
  · subst e
    refine r_tin (off := 66) (tgt := 72) C dX12_count_6 (by decide) (by decide) rfl (by decide) ?_
    refine r_aload_n C dX12_count_72 0 rfl ?_
    refine r_gi C wf_X12_116_11 dX12_count_73 (fun x3 => ?_)
    exact r_iret C dX12_count_76
  refine r_ite (fun e => ?_) (fun q6_1 => ?_)
  · subst e
    refine r_tin (off := 71) (tgt := 77) C dX12_count_6 (by decide) (by decide) rfl (by decide) ?_
    refine r_aload_n C dX12_count_77 0 rfl ?_
    refine r_gi C wf_X12_123_11 dX12_count_78 (fun x5 => ?_)
    exact r_iret C dX12_count_81
  refine r_ite (fun e => ?_) (fun q6_2 => ?_)
  · subst e
    refine r_tin (off := 76) (tgt := 82) C dX12_count_6 (by decide) (by decide) rfl (by decide) ?_
    refine r_aload_n C dX12_count_82 0 rfl ?_
    refine r_gi C wf_X12_126_11 dX12_count_83 (fun x7 => ?_)
    exact r_iret C dX12_count_86
  refine r_ite (fun e => ?_) (fun q6_3 => ?_)
  · subst e
    refine r_tin (off := 81) (tgt := 87) C dX12_count_6 (by decide) (by decide) rfl (by decide) ?_
    refine r_aload_n C dX12_count_87 0 rfl ?_
    refine r_gr C wf_X12_9_11 dX12_count_88 (fun q10 => ?_)
    refine r_bipush C dX12_count_91 k_b86 ?_
    refine r_iald C dX12_count_93 (fun x11 => ?_)
    exact r_iret C dX12_count_94
  refine r_ite (fun e => ?_) (fun q6_4 => ?_)
  · subst e
    refine r_tin (off := 89) (tgt := 95) C dX12_count_6 (by decide) (by decide) rfl (by decide) ?_
    refine r_aload_n C dX12_count_95 0 rfl ?_
    refine r_gr C wf_X12_9_11 dX12_count_96 (fun q14 => ?_)
    refine r_bipush C dX12_count_99 k_b87 ?_
    refine r_iald C dX12_count_101 (fun x15 => ?_)
    exact r_iret C dX12_count_102
  refine r_ite (fun e => ?_) (fun q6_5 => ?_)
  · subst e
    refine r_tin (off := 97) (tgt := 103) C dX12_count_6 (by decide) (by decide) rfl (by decide) ?_
    refine r_aload_n C dX12_count_103 0 rfl ?_
    refine r_cvi (As := []) (st := []) C wv_X12_281 (tcX12_stock K.2.1 g hg o0 h1) (Nat.le_of_ble_eq_true rfl) rfl rfl (Nat.le_of_ble_eq_true rfl) dX12_count_104 ⟨Nat.le_of_ble_eq_true rfl, Nat.le_of_ble_eq_true rfl⟩ (fun x18 h19 => ?_)
    exact r_iret C dX12_count_107
  refine r_ite (fun e => ?_) (fun q6_6 => ?_)
  · subst e
    refine r_tin (off := 102) (tgt := 108) C dX12_count_6 (by decide) (by decide) rfl (by decide) ?_
    refine r_aload_n C dX12_count_108 0 rfl ?_
    refine r_aload_n C dX12_count_109 0 rfl ?_
    refine r_gr C wf_X12_9_11 dX12_count_110 (fun q23 => ?_)
    refine r_cvi (As := [p_rf g q23]) (st := []) C wv_X12_445 (tcX12_heldByAll K.2.1 g hg o0 q23 h1) (Nat.le_of_ble_eq_true rfl) rfl rfl (Nat.le_of_ble_eq_true rfl) dX12_count_113 ⟨Nat.le_of_ble_eq_true rfl, Nat.le_of_ble_eq_true rfl⟩ (fun x24 h25 => ?_)
    exact r_iret C dX12_count_116
  refine r_ite (fun e => ?_) (fun q6_7 => ?_)
  · subst e
    refine r_tin (off := 111) (tgt := 117) C dX12_count_6 (by decide) (by decide) rfl (by decide) ?_
    refine r_aload_n C dX12_count_117 0 rfl ?_
    refine r_aload_n C dX12_count_118 0 rfl ?_
    refine r_gr C wf_X12_9_11 dX12_count_119 (fun q29 => ?_)
    refine r_cvi (As := [p_rf g q29]) (st := []) C wv_X12_333 (tcX12_hadByAll K.2.1 g hg o0 q29 h1) (Nat.le_of_ble_eq_true rfl) rfl rfl (Nat.le_of_ble_eq_true rfl) dX12_count_122 ⟨Nat.le_of_ble_eq_true rfl, Nat.le_of_ble_eq_true rfl⟩ (fun x30 h31 => ?_)
    exact r_iret C dX12_count_125
  refine r_ite (fun e => ?_) (fun q6_8 => ?_)
  · subst e
    refine r_tin (off := 120) (tgt := 126) C dX12_count_6 (by decide) (by decide) rfl (by decide) ?_
    refine r_aload_n C dX12_count_126 0 rfl ?_
    refine r_aload_n C dX12_count_127 0 rfl ?_
    refine r_gr C wf_X12_9_11 dX12_count_128 (fun q35 => ?_)
    refine r_cvi (As := [p_rf g q35]) (st := []) C wv_X12_325 (tcX12_humoursOfAll K.2.1 g hg o0 q35 h1) (Nat.le_of_ble_eq_true rfl) rfl rfl (Nat.le_of_ble_eq_true rfl) dX12_count_131 ⟨Nat.le_of_ble_eq_true rfl, Nat.le_of_ble_eq_true rfl⟩ (fun x36 h37 => ?_)
    exact r_iret C dX12_count_134
  refine r_ite (fun e => ?_) (fun q6_9 => ?_)
  · subst e
    refine r_tin (off := 129) (tgt := 135) C dX12_count_6 (by decide) (by decide) rfl (by decide) ?_
    refine r_aload_n C dX12_count_135 0 rfl ?_
    refine r_gi C wf_X12_379_11 dX12_count_136 (fun x39 => ?_)
    exact r_iret C dX12_count_139
  refine r_ite (fun e => ?_) (fun q6_10 => ?_)
  · subst e
    refine r_tin (off := 134) (tgt := 140) C dX12_count_6 (by decide) (by decide) rfl (by decide) ?_
    refine r_aload_n C dX12_count_140 0 rfl ?_
    refine r_gi C wf_X12_171_11 dX12_count_141 (fun x41 => ?_)
    exact r_iret C dX12_count_144
  refine r_ite (fun e => ?_) (fun q6_11 => ?_)
  · subst e
    refine r_tin (off := 139) (tgt := 145) C dX12_count_6 (by decide) (by decide) rfl (by decide) ?_
    refine r_aload_n C dX12_count_145 0 rfl ?_
    refine r_gi C wf_X12_113_11 dX12_count_146 (fun x43 => ?_)
    exact r_iret C dX12_count_149
  refine r_ite (fun e => ?_) (fun q6_12 => ?_)
  · subst e
    refine r_tin (off := 144) (tgt := 150) C dX12_count_6 (by decide) (by decide) rfl (by decide) ?_
    refine r_aload_n C dX12_count_150 0 rfl ?_
    refine r_gi C wf_X12_129_11 dX12_count_151 (fun x45 => ?_)
    exact r_iret C dX12_count_154
  refine r_tout (tgt := 155) C dX12_count_6 (by have wq6_0 := lk_ne9 (k := (0)) (by decide) q6_0; have wq6_1 := lk_ne9 (k := (1)) (by decide) q6_1; have wq6_2 := lk_ne9 (k := (2)) (by decide) q6_2; have wq6_3 := lk_ne9 (k := (3)) (by decide) q6_3; have wq6_4 := lk_ne9 (k := (4)) (by decide) q6_4; have wq6_5 := lk_ne9 (k := (5)) (by decide) q6_5; have wq6_6 := lk_ne9 (k := (6)) (by decide) q6_6; have wq6_7 := lk_ne9 (k := (7)) (by decide) q6_7; have wq6_8 := lk_ne9 (k := (8)) (by decide) q6_8; have wq6_9 := lk_ne9 (k := (9)) (by decide) q6_9; have wq6_10 := lk_ne9 (k := (10)) (by decide) q6_10; have wq6_11 := lk_ne9 (k := (11)) (by decide) q6_11; have wq6_12 := lk_ne9 (k := (12)) (by decide) q6_12; omega) (by decide) ?_
  refine r_iconst C dX12_count_155 k_im1 ?_
  exact r_iret C dX12_count_156
set_option maxRecDepth 100000 in
set_option maxHeartbeats 4000000 in
theorem tcX12_row (l : Launch) (g : WG) (hg : p_al g = false) (o0 : Nat) (i1 : Int32) (h : PH) : CT l g 2 0 0 yX12_row cX12_row 2 (some .long) em_l [p_rf g o0, .int i1] h (fX12_row o0 i1 h) := by
  refine CT_of (own := RX12) (nm := "row") (by decide +kernel) (Nat.le_of_ble_eq_true rfl) rfl rfl rfl ⟨rfl, rfl⟩ (fun K hK C => ?_)
  subst hK
  unfold fX12_row
  show VX K g _ _ _ _ _ [(0, p_rf g o0), (1, .int i1)] _ _ _
  refine r_aload_n C dX12_row_0 0 rfl ?_
  refine r_iconst C dX12_row_1 k_i0 ?_
  refine r_pi C wf_X12_109_11 dX12_row_2 (fun h1 => ?_)
  refine r_iload_n C dX12_row_5 1 rfl ?_
  refine r_iconst C dX12_row_6 k_i0 ?_
  refine r_aload_n C dX12_row_7 0 rfl ?_
  refine r_gi C wf_X12_113_11 dX12_row_8 (fun x2 => ?_)
  refine r_iconst C dX12_row_11 k_i1 ?_
  refine r_isub C dX12_row_12 ?_
  refine r_csi (As := [.int i1, .int (0 : Int32), .int (x2 - (1 : Int32))]) (st := []) C ws_X12_119 (tcX12_in K.2.1 g hg i1 (0 : Int32) (x2 - (1 : Int32)) h1) (Nat.le_of_ble_eq_true rfl) rfl rfl (Nat.le_of_ble_eq_true rfl) dX12_row_13 ⟨Nat.le_of_ble_eq_true rfl, Nat.le_of_ble_eq_true rfl⟩ (fun x3 h4 => ?_)
  refine r_if_eq (tgt := 28) C dX12_row_16 (by decide) ?_ ?_
  · refine r_aload_n C dX12_row_28 0 rfl ?_
    refine r_cvi (As := []) (st := []) C wv_X12_272 (tcX12_lost K.2.1 g hg o0 h4) (Nat.le_of_ble_eq_true rfl) rfl rfl (Nat.le_of_ble_eq_true rfl) dX12_row_29 ⟨Nat.le_of_ble_eq_true rfl, Nat.le_of_ble_eq_true rfl⟩ (fun x5 h6 => ?_)
    refine r_i2l C dX12_row_32 ?_
    exact r_lret C dX12_row_33
  · refine r_aload_n C dX12_row_19 0 rfl ?_
    refine r_gr C wf_X12_32_11 dX12_row_20 (fun q7 => ?_)
    refine r_iload_n C dX12_row_23 1 rfl ?_
    refine r_lald C dX12_row_24 (fun y8 => ?_)
    refine r_goto (tgt := 33) C dX12_row_25 (by decide) ?_
    exact r_lret C dX12_row_33
