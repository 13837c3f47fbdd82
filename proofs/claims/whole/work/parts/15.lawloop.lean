/-! THE LAW'S LOOP -/
def s_rd {β : Type} (xs : Nat → Int32) (L : Nat) (i : Int32) (k : Int32 → Option β) : Option β := if ¬ (i < 0 ∨ L ≤ i.toNatClampNeg) then k (xs i.toNatClampNeg) else none
def ML9 (own : String) (index : Nat) (y : MethodName) (cc : ByteArray) (nL : Nat) (ret : Option FieldType) (hh : List (Nat × Nat × Nat × Nat)) (n : Nat) : Prop := Cond.methodLink own index y ∈ WL ∧ Cond.static y ∈ WL ∧ Cond.initialized y.cls ∈ WL ∧ Cond.codeWith y cc nL ret hh ∈ WL ∧ (y.cls ≠ "java/lang/invoke/MethodHandle" ∧ y.cls ≠ "java/lang/invoke/VarHandle") ∧ (parseMethodDescriptor y.desc).map (fun d => d.parameters.length) = some n ∧ nL ≤ 45
section LROWS
variable {α : Type} {K : AC} {g : WG} {nL kc ks : Nat} {fin : α → PH → State → Prop} {pc : Nat} {lv : List (Nat × Value)} {st : List Value} {h : PH} {z : Option (α × PH)}
variable {cc : ByteArray} {own nm : String} {ret : Option FieldType} {d mc9 ms9 b L : Nat} {xs : Nat → Int32}
theorem r_aloadS (C : Cx K g cc nL own ret nm d mc9 ms9) {k4 : Fin 4} {a : Nat} (hdg : decode cc pc = .ok (.aload_n k4, 1)) (j : Nat) (hj : lv[j]? = some ((k4 : Nat), .ref a)) (k : VX K g nL kc ks fin (pc + 1) lv (.ref a :: st) h z) : VX K g nL kc ks fin pc lv st h z := fun r h' hz H locs ls hW hS hl => lv_aload_n (x := a) C.1 C.2.1 hdg rfl (lv_at hl j hj) (k r h' hz H locs ls hW hS hl)
theorem r_slen (C : Cx K g cc nL own ret nm d mc9 ms9) (CS : va_X b L xs (a_s K) (a_s K).heap ∧ b < (a_s K).heap.size ∧ ¬ p_A g b) (hdg : decode cc pc = .ok (.arraylength, 1)) (k : VX K g nL kc ks fin (pc + 1) lv (.int (Int32.ofNat L) :: st) h z) : VX K g nL kc ks fin pc lv (.ref b :: st) h z := fun r h' hz H locs ls hW hS hl => va_slen C.1 C.2.1 CS.1 CS.2.1 CS.2.2 hS hdg (k r h' hz H locs ls hW hS hl)
theorem r_sld (C : Cx K g cc nL own ret nm d mc9 ms9) (CS : va_X b L xs (a_s K) (a_s K).heap ∧ b < (a_s K).heap.size ∧ ¬ p_A g b) {i : Int32} {f : Int32 → Option (α × PH)} (hdg : decode cc pc = .ok (.iaload, 1)) (k : ∀ x, VX K g nL kc ks fin (pc + 1) lv (.int x :: st) h (f x)) : VX K g nL kc ks fin pc lv (.int i :: .ref b :: st) h (s_rd xs L i f) := by
  intro r h' hz H locs ls hW hS hl
  unfold s_rd at hz
  split at hz
  · rename_i hin
    exact va_sld C.1 C.2.1 CS.1 CS.2.1 CS.2.2 hS hin hdg (k _ r h' hz H locs ls hW hS hl)
  · cases hz
theorem r_csW {index n d1 : Nat} {y : MethodName} {c1 : ByteArray} {n1 : Nat} {r1 : Option FieldType} {hh : List (Nat × Nat × Nat × Nat)} {As st0 : List Value} {z1 : Option (Int32 × PH)} {k : Int32 → PH → Option (α × PH)}
    (C : Cx K g cc nL own ret nm d mc9 ms9) (M : ML9 own index y c1 n1 r1 hh n) (hct : CW K.2.1 g d1 y c1 n1 r1 hh em_i As h z1) (hd : d1 + 1 ≤ d) (hn : As.length = n) (hst : st0 = As.reverse ++ st) (hcat : (st.map fun v => v.category).sum ≤ 8) (hdg : decode cc pc = .ok (.invokestatic index, 3)) (hf : kc + 1 ≤ mc9 ∧ ks + 6 ≤ ms9)
    (kk : ∀ r h1, VX K g nL (kc + 1) (ks + 6) fin (pc + 3) lv (.int r :: st) h1 (k r h1)) : VX K g nL kc ks fin pc lv st0 h (h_bd z1 k) := by
  intro r h' hz H locs ls hW hS hl
  obtain ⟨r2, h1, hz1, hk⟩ := h_bd_some hz
  obtain ⟨w1, w2, w4, w5, w6, w7, w8⟩ := M
  have hR : p_le K.2.2.2.1 d mc9 ms9 := C.2.2.2.2.2.2.2.2.2.1
  have ht := C.2.2.2.2.1
  have h45 := hR.2.1
  have hpay : ∀ w ∈ Cond.codeWith y c1 n1 r1 hh :: WL, ∀ (a' : Array Value) (U : State), (a_s K).WarmedH U.vm → w.before a' U = true := by
    intro w hw
    rcases List.mem_cons.mp hw with rfl | hw
    · exact p_pay ht _ w5
    · exact p_pay ht _ hw
  refine a_go (vx_runSW (As := As) (rest := st) (hh := hh) ⟨C.1, C.2.1, C.2.2.1, C.2.2.2.1, ht⟩ (hct r2 h1 hz1) ⟨⟨rfl, rfl, Nat.le_trans hd hR.1, by show 8 + (n1 + 11) + 64 * d1 ≤ _; omega, hpay, List.mem_cons_self⟩, ht _ w5, ht _ w4, w6, p_len w7, ht _ w1, ht _ w2⟩ ⟨p_blind, fun U hU hWm => ⟨rfl, p_st C hW hS hU hWm⟩⟩ rfl hn hl.1 hst (lv_room hcat) hdg ⟨Nat.le_trans hf.1 hR.2.2.1, Nat.le_trans hf.2 hR.2.2.2⟩) hS (fun _ h => h) ?_
  intro H1 locs1 hW1 _ _ hS1
  exact kk r2 h1 r h' hk H1 locs1 ls hW1 hS1 hl
end LROWS
set_option maxRecDepth 100000 in
theorem m_1585 : Cond.methodLink RL 30 yX12_sign ∈ WL := p_mt7 (i := 48) rfl rfl
set_option maxRecDepth 100000 in
theorem m_1586 : Cond.instanceMethod yX12_sign ∈ WL := p_mt7 (i := 49) rfl rfl
set_option maxRecDepth 100000 in
theorem m_1587 : Cond.selects RX12 yX12_sign yX12_sign ∈ WL := p_mt7 (i := 50) rfl rfl
set_option maxRecDepth 100000 in
theorem m_1588 : Cond.code yX12_sign cX12_sign 3 (some .int) ∈ WL := p_mt7 (i := 51) rfl rfl
set_option maxRecDepth 100000 in
theorem wv_L_30 : MV RL 30 11 yX12_sign cX12_sign 3 (some .int) 1 := ⟨⟨TX12, 51, rfl⟩, m_1585, m_1586, m_1587, m_110, m_1588, by decide +kernel, by decide +kernel, by decide⟩
set_option maxRecDepth 100000 in
theorem m_422 : Cond.methodLink RL 26 yX11_sign ∈ WL := p_mt2 (i := 85) rfl rfl
set_option maxRecDepth 100000 in
theorem m_423 : Cond.instanceMethod yX11_sign ∈ WL := p_mt2 (i := 86) rfl rfl
set_option maxRecDepth 100000 in
theorem m_424 : Cond.selects RX11 yX11_sign yX11_sign ∈ WL := p_mt2 (i := 87) rfl rfl
set_option maxRecDepth 100000 in
theorem m_425 : Cond.code yX11_sign cX11_sign 2 (some .int) ∈ WL := p_mt2 (i := 88) rfl rfl
set_option maxRecDepth 100000 in
theorem wv_L_26 : MV RL 26 10 yX11_sign cX11_sign 2 (some .int) 1 := ⟨⟨TX11, 11, rfl⟩, m_422, m_423, m_424, m_98, m_425, by decide +kernel, by decide +kernel, by decide⟩
set_option maxRecDepth 100000 in
theorem m_1589 : Cond.methodLink RL 35 yX12_end ∈ WL := p_mt7 (i := 52) rfl rfl
set_option maxRecDepth 100000 in
theorem m_1590 : Cond.instanceMethod yX12_end ∈ WL := p_mt7 (i := 53) rfl rfl
set_option maxRecDepth 100000 in
theorem m_1591 : Cond.selects RX12 yX12_end yX12_end ∈ WL := p_mt7 (i := 54) rfl rfl
set_option maxRecDepth 100000 in
theorem m_1592 : Cond.code yX12_end cX12_end 2 (some .boolean) ∈ WL := p_mt7 (i := 55) rfl rfl
set_option maxRecDepth 100000 in
theorem wv_L_35 : MV RL 35 11 yX12_end cX12_end 2 (some .boolean) 1 := ⟨⟨TX12, 51, rfl⟩, m_1589, m_1590, m_1591, m_110, m_1592, by decide +kernel, by decide +kernel, by decide⟩
set_option maxRecDepth 100000 in
theorem m_434 : Cond.methodLink RL 31 yX11_end ∈ WL := p_mt2 (i := 97) rfl rfl
set_option maxRecDepth 100000 in
theorem m_435 : Cond.instanceMethod yX11_end ∈ WL := p_mt2 (i := 98) rfl rfl
set_option maxRecDepth 100000 in
theorem m_436 : Cond.selects RX11 yX11_end yX11_end ∈ WL := p_mt2 (i := 99) rfl rfl
set_option maxRecDepth 100000 in
theorem m_437 : Cond.code yX11_end cX11_end 2 (some .boolean) ∈ WL := p_mt2 (i := 100) rfl rfl
set_option maxRecDepth 100000 in
theorem wv_L_31 : MV RL 31 10 yX11_end cX11_end 2 (some .boolean) 1 := ⟨⟨TX11, 11, rfl⟩, m_434, m_435, m_436, m_98, m_437, by decide +kernel, by decide +kernel, by decide⟩
set_option maxRecDepth 100000 in
theorem m_1596 : Cond.methodLink RL 40 yX12_grounds ∈ WL := p_mt7 (i := 59) rfl rfl
set_option maxRecDepth 100000 in
theorem m_1597 : Cond.instanceMethod yX12_grounds ∈ WL := p_mt7 (i := 60) rfl rfl
set_option maxRecDepth 100000 in
theorem m_1598 : Cond.selects RX12 yX12_grounds yX12_grounds ∈ WL := p_mt7 (i := 61) rfl rfl
set_option maxRecDepth 100000 in
theorem m_1599 : Cond.code yX12_grounds cX12_grounds 5 (some .int) ∈ WL := p_mt7 (i := 62) rfl rfl
set_option maxRecDepth 100000 in
theorem wv_L_40 : MV RL 40 11 yX12_grounds cX12_grounds 5 (some .int) 0 := ⟨⟨TX12, 51, rfl⟩, m_1596, m_1597, m_1598, m_110, m_1599, by decide +kernel, by decide +kernel, by decide⟩
set_option maxRecDepth 100000 in
theorem m_445 : Cond.methodLink RL 36 yX11_grounds ∈ WL := p_mt2 (i := 108) rfl rfl
set_option maxRecDepth 100000 in
theorem m_446 : Cond.instanceMethod yX11_grounds ∈ WL := p_mt2 (i := 109) rfl rfl
set_option maxRecDepth 100000 in
theorem m_447 : Cond.selects RX11 yX11_grounds yX11_grounds ∈ WL := p_mt2 (i := 110) rfl rfl
set_option maxRecDepth 100000 in
theorem m_448 : Cond.code yX11_grounds cX11_grounds 2 (some .int) ∈ WL := p_mt2 (i := 111) rfl rfl
set_option maxRecDepth 100000 in
theorem wv_L_36 : MV RL 36 10 yX11_grounds cX11_grounds 2 (some .int) 0 := ⟨⟨TX11, 11, rfl⟩, m_445, m_446, m_447, m_98, m_448, by decide +kernel, by decide +kernel, by decide⟩
set_option maxRecDepth 100000 in
theorem m_1640 : Cond.methodLink RL 44 yX12_people ∈ WL := p_mt7 (i := 103) rfl rfl
set_option maxRecDepth 100000 in
theorem m_1641 : Cond.instanceMethod yX12_people ∈ WL := p_mt7 (i := 104) rfl rfl
set_option maxRecDepth 100000 in
theorem m_1642 : Cond.selects RX12 yX12_people yX12_people ∈ WL := p_mt7 (i := 105) rfl rfl
set_option maxRecDepth 100000 in
theorem m_1643 : Cond.code yX12_people cX12_people 5 (some .int) ∈ WL := p_mt7 (i := 106) rfl rfl
set_option maxRecDepth 100000 in
theorem wv_L_44 : MV RL 44 11 yX12_people cX12_people 5 (some .int) 0 := ⟨⟨TX12, 51, rfl⟩, m_1640, m_1641, m_1642, m_110, m_1643, by decide +kernel, by decide +kernel, by decide⟩
set_option maxRecDepth 100000 in
theorem m_674 : Cond.methodLink RL 41 yX11_people ∈ WL := p_mt3 (i := 97) rfl rfl
set_option maxRecDepth 100000 in
theorem m_675 : Cond.instanceMethod yX11_people ∈ WL := p_mt3 (i := 98) rfl rfl
set_option maxRecDepth 100000 in
theorem m_676 : Cond.selects RX11 yX11_people yX11_people ∈ WL := p_mt3 (i := 99) rfl rfl
set_option maxRecDepth 100000 in
theorem m_677 : Cond.code yX11_people cX11_people 2 (some .int) ∈ WL := p_mt3 (i := 100) rfl rfl
set_option maxRecDepth 100000 in
theorem wv_L_41 : MV RL 41 10 yX11_people cX11_people 2 (some .int) 0 := ⟨⟨TX11, 11, rfl⟩, m_674, m_675, m_676, m_98, m_677, by decide +kernel, by decide +kernel, by decide⟩
set_option maxRecDepth 100000 in
theorem m_1648 : Cond.methodLink RL 48 yX12_wants ∈ WL := p_mt7 (i := 111) rfl rfl
set_option maxRecDepth 100000 in
theorem m_1649 : Cond.instanceMethod yX12_wants ∈ WL := p_mt7 (i := 112) rfl rfl
set_option maxRecDepth 100000 in
theorem m_1650 : Cond.selects RX12 yX12_wants yX12_wants ∈ WL := p_mt7 (i := 113) rfl rfl
set_option maxRecDepth 100000 in
theorem m_1651 : Cond.code yX12_wants cX12_wants 5 (some .int) ∈ WL := p_mt7 (i := 114) rfl rfl
set_option maxRecDepth 100000 in
theorem wv_L_48 : MV RL 48 11 yX12_wants cX12_wants 5 (some .int) 0 := ⟨⟨TX12, 51, rfl⟩, m_1648, m_1649, m_1650, m_110, m_1651, by decide +kernel, by decide +kernel, by decide⟩
set_option maxRecDepth 100000 in
theorem m_694 : Cond.methodLink RL 45 yX11_wants ∈ WL := p_mt3 (i := 117) rfl rfl
set_option maxRecDepth 100000 in
theorem m_695 : Cond.instanceMethod yX11_wants ∈ WL := p_mt3 (i := 118) rfl rfl
set_option maxRecDepth 100000 in
theorem m_696 : Cond.selects RX11 yX11_wants yX11_wants ∈ WL := p_mt3 (i := 119) rfl rfl
set_option maxRecDepth 100000 in
theorem m_697 : Cond.code yX11_wants cX11_wants 2 (some .int) ∈ WL := p_mt3 (i := 120) rfl rfl
set_option maxRecDepth 100000 in
theorem wv_L_45 : MV RL 45 10 yX11_wants cX11_wants 2 (some .int) 0 := ⟨⟨TX11, 11, rfl⟩, m_694, m_695, m_696, m_98, m_697, by decide +kernel, by decide +kernel, by decide⟩
set_option maxRecDepth 100000 in
theorem m_1659 : Cond.methodLink RL 52 yX12_rule ∈ WL := p_mt7 (i := 122) rfl rfl
set_option maxRecDepth 100000 in
theorem m_1660 : Cond.instanceMethod yX12_rule ∈ WL := p_mt7 (i := 123) rfl rfl
set_option maxRecDepth 100000 in
theorem m_1661 : Cond.selects RX12 yX12_rule yX12_rule ∈ WL := p_mt7 (i := 124) rfl rfl
set_option maxRecDepth 100000 in
theorem m_1662 : Cond.code yX12_rule cX12_rule 3 (some .int) ∈ WL := p_mt7 (i := 125) rfl rfl
set_option maxRecDepth 100000 in
theorem wv_L_52 : MV RL 52 11 yX12_rule cX12_rule 3 (some .int) 0 := ⟨⟨TX12, 51, rfl⟩, m_1659, m_1660, m_1661, m_110, m_1662, by decide +kernel, by decide +kernel, by decide⟩
set_option maxRecDepth 100000 in
theorem m_723 : Cond.methodLink RL 49 yX11_rule ∈ WL := p_mt3 (i := 146) rfl rfl
set_option maxRecDepth 100000 in
theorem m_724 : Cond.instanceMethod yX11_rule ∈ WL := p_mt3 (i := 147) rfl rfl
set_option maxRecDepth 100000 in
theorem m_725 : Cond.selects RX11 yX11_rule yX11_rule ∈ WL := p_mt3 (i := 148) rfl rfl
set_option maxRecDepth 100000 in
theorem m_726 : Cond.code yX11_rule cX11_rule 2 (some .int) ∈ WL := p_mt3 (i := 149) rfl rfl
set_option maxRecDepth 100000 in
theorem wv_L_49 : MV RL 49 10 yX11_rule cX11_rule 2 (some .int) 0 := ⟨⟨TX11, 11, rfl⟩, m_723, m_724, m_725, m_98, m_726, by decide +kernel, by decide +kernel, by decide⟩
set_option maxRecDepth 100000 in
theorem m_1581 : Cond.methodLink RL 59 yX12_thrown ∈ WL := p_mt7 (i := 44) rfl rfl
set_option maxRecDepth 100000 in
theorem m_1582 : Cond.instanceMethod yX12_thrown ∈ WL := p_mt7 (i := 45) rfl rfl
set_option maxRecDepth 100000 in
theorem m_1583 : Cond.selects RX12 yX12_thrown yX12_thrown ∈ WL := p_mt7 (i := 46) rfl rfl
set_option maxRecDepth 100000 in
theorem m_1584 : Cond.code yX12_thrown cX12_thrown 1 (some .int) ∈ WL := p_mt7 (i := 47) rfl rfl
set_option maxRecDepth 100000 in
theorem wv_L_59 : MV RL 59 11 yX12_thrown cX12_thrown 1 (some .int) 0 := ⟨⟨TX12, 51, rfl⟩, m_1581, m_1582, m_1583, m_110, m_1584, by decide +kernel, by decide +kernel, by decide⟩
set_option maxRecDepth 100000 in
theorem m_1694 : Cond.methodLink RL 58 yX12_ground ∈ WL := p_mt7 (i := 157) rfl rfl
set_option maxRecDepth 100000 in
theorem m_1695 : Cond.instanceMethod yX12_ground ∈ WL := p_mt7 (i := 158) rfl rfl
set_option maxRecDepth 100000 in
theorem m_1696 : Cond.selects RX12 yX12_ground yX12_ground ∈ WL := p_mt7 (i := 159) rfl rfl
set_option maxRecDepth 100000 in
theorem m_1697 : Cond.code yX12_ground cX12_ground 3 (some .int) ∈ WL := p_mt7 (i := 160) rfl rfl
set_option maxRecDepth 100000 in
theorem wv_L_58 : MV RL 58 11 yX12_ground cX12_ground 3 (some .int) 2 := ⟨⟨TX12, 51, rfl⟩, m_1694, m_1695, m_1696, m_110, m_1697, by decide +kernel, by decide +kernel, by decide⟩
set_option maxRecDepth 100000 in
theorem m_1324 : Cond.methodLink RL 53 yL_ground ∈ WL := p_mt6 (i := 27) rfl rfl
set_option maxRecDepth 100000 in
theorem m_1325 : Cond.static yL_ground ∈ WL := p_mt6 (i := 28) rfl rfl
set_option maxRecDepth 100000 in
theorem m_97 : Cond.initialized RL ∈ WL := p_mt1 (i := 0) rfl rfl
set_option maxRecDepth 100000 in
theorem m_1326 : Cond.codeWith yL_ground cL_ground 5 (some .int) [(0, 10, 13, 13)] ∈ WL := p_mt6 (i := 29) rfl rfl
set_option maxRecDepth 100000 in
theorem wx_L_53 : ML9 RL 53 yL_ground cL_ground 5 (some .int) [(0, 10, 13, 13)] 4 := ⟨m_1324, m_1325, m_97, m_1326, by decide +kernel, by decide +kernel, by decide⟩
set_option maxRecDepth 100000 in
theorem m_1713 : Cond.methodLink RL 64 yX12_person ∈ WL := p_mt7 (i := 176) rfl rfl
set_option maxRecDepth 100000 in
theorem m_1714 : Cond.instanceMethod yX12_person ∈ WL := p_mt7 (i := 177) rfl rfl
set_option maxRecDepth 100000 in
theorem m_1715 : Cond.selects RX12 yX12_person yX12_person ∈ WL := p_mt7 (i := 178) rfl rfl
set_option maxRecDepth 100000 in
theorem m_1716 : Cond.code yX12_person cX12_person 3 (some .int) ∈ WL := p_mt7 (i := 179) rfl rfl
set_option maxRecDepth 100000 in
theorem wv_L_64 : MV RL 64 11 yX12_person cX12_person 3 (some .int) 2 := ⟨⟨TX12, 51, rfl⟩, m_1713, m_1714, m_1715, m_110, m_1716, by decide +kernel, by decide +kernel, by decide⟩
set_option maxRecDepth 100000 in
theorem m_1399 : Cond.methodLink RL 62 yL_person ∈ WL := p_mt6 (i := 102) rfl rfl
set_option maxRecDepth 100000 in
theorem m_1400 : Cond.static yL_person ∈ WL := p_mt6 (i := 103) rfl rfl
set_option maxRecDepth 100000 in
theorem m_1401 : Cond.codeWith yL_person cL_person 5 (some .int) [(0, 10, 13, 13)] ∈ WL := p_mt6 (i := 104) rfl rfl
set_option maxRecDepth 100000 in
theorem wx_L_62 : ML9 RL 62 yL_person cL_person 5 (some .int) [(0, 10, 13, 13)] 4 := ⟨m_1399, m_1400, m_97, m_1401, by decide +kernel, by decide +kernel, by decide⟩
set_option maxRecDepth 100000 in
theorem m_1736 : Cond.methodLink RL 68 yX12_held ∈ WL := p_mt7 (i := 199) rfl rfl
set_option maxRecDepth 100000 in
theorem m_1737 : Cond.instanceMethod yX12_held ∈ WL := p_mt7 (i := 200) rfl rfl
set_option maxRecDepth 100000 in
theorem m_1738 : Cond.selects RX12 yX12_held yX12_held ∈ WL := p_mt7 (i := 201) rfl rfl
set_option maxRecDepth 100000 in
theorem m_1739 : Cond.code yX12_held cX12_held 3 (some .int) ∈ WL := p_mt7 (i := 202) rfl rfl
set_option maxRecDepth 100000 in
theorem wv_L_68 : MV RL 68 11 yX12_held cX12_held 3 (some .int) 2 := ⟨⟨TX12, 51, rfl⟩, m_1736, m_1737, m_1738, m_110, m_1739, by decide +kernel, by decide +kernel, by decide⟩
set_option maxRecDepth 100000 in
theorem m_743 : Cond.methodLink RL 65 yX11_held ∈ WL := p_mt3 (i := 166) rfl rfl
set_option maxRecDepth 100000 in
theorem m_744 : Cond.instanceMethod yX11_held ∈ WL := p_mt3 (i := 167) rfl rfl
set_option maxRecDepth 100000 in
theorem m_745 : Cond.selects RX11 yX11_held yX11_held ∈ WL := p_mt3 (i := 168) rfl rfl
set_option maxRecDepth 100000 in
theorem m_746 : Cond.code yX11_held cX11_held 3 (some .int) ∈ WL := p_mt3 (i := 169) rfl rfl
set_option maxRecDepth 100000 in
theorem wv_L_65 : MV RL 65 10 yX11_held cX11_held 3 (some .int) 2 := ⟨⟨TX11, 11, rfl⟩, m_743, m_744, m_745, m_98, m_746, by decide +kernel, by decide +kernel, by decide⟩
set_option maxRecDepth 100000 in
theorem m_1740 : Cond.methodLink RL 73 yX12_sheet ∈ WL := p_mt7 (i := 203) rfl rfl
set_option maxRecDepth 100000 in
theorem m_1741 : Cond.instanceMethod yX12_sheet ∈ WL := p_mt7 (i := 204) rfl rfl
set_option maxRecDepth 100000 in
theorem m_1742 : Cond.selects RX12 yX12_sheet yX12_sheet ∈ WL := p_mt7 (i := 205) rfl rfl
set_option maxRecDepth 100000 in
theorem m_1743 : Cond.code yX12_sheet cX12_sheet 8 (some .int) ∈ WL := p_mt7 (i := 206) rfl rfl
set_option maxRecDepth 100000 in
theorem wv_L_73 : MV RL 73 11 yX12_sheet cX12_sheet 8 (some .int) 4 := ⟨⟨TX12, 51, rfl⟩, m_1740, m_1741, m_1742, m_110, m_1743, by decide +kernel, by decide +kernel, by decide⟩
set_option maxRecDepth 100000 in
theorem m_764 : Cond.methodLink RL 69 yX11_sheet ∈ WL := p_mt3 (i := 187) rfl rfl
set_option maxRecDepth 100000 in
theorem m_765 : Cond.instanceMethod yX11_sheet ∈ WL := p_mt3 (i := 188) rfl rfl
set_option maxRecDepth 100000 in
theorem m_766 : Cond.selects RX11 yX11_sheet yX11_sheet ∈ WL := p_mt3 (i := 189) rfl rfl
set_option maxRecDepth 100000 in
theorem m_767 : Cond.code yX11_sheet cX11_sheet 7 (some .int) ∈ WL := p_mt3 (i := 190) rfl rfl
set_option maxRecDepth 100000 in
theorem wv_L_69 : MV RL 69 10 yX11_sheet cX11_sheet 7 (some .int) 4 := ⟨⟨TX11, 11, rfl⟩, m_764, m_765, m_766, m_98, m_767, by decide +kernel, by decide +kernel, by decide⟩
set_option maxRecDepth 100000 in
theorem m_1750 : Cond.methodLink RL 77 yX12_gives ∈ WL := p_mt7 (i := 213) rfl rfl
set_option maxRecDepth 100000 in
theorem m_1751 : Cond.instanceMethod yX12_gives ∈ WL := p_mt7 (i := 214) rfl rfl
set_option maxRecDepth 100000 in
theorem m_1752 : Cond.selects RX12 yX12_gives yX12_gives ∈ WL := p_mt7 (i := 215) rfl rfl
set_option maxRecDepth 100000 in
theorem m_1753 : Cond.code yX12_gives cX12_gives 4 (some .int) ∈ WL := p_mt7 (i := 216) rfl rfl
set_option maxRecDepth 100000 in
theorem wv_L_77 : MV RL 77 11 yX12_gives cX12_gives 4 (some .int) 2 := ⟨⟨TX12, 51, rfl⟩, m_1750, m_1751, m_1752, m_110, m_1753, by decide +kernel, by decide +kernel, by decide⟩
set_option maxRecDepth 100000 in
theorem m_783 : Cond.methodLink RL 74 yX11_gives ∈ WL := p_mt3 (i := 206) rfl rfl
set_option maxRecDepth 100000 in
theorem m_784 : Cond.instanceMethod yX11_gives ∈ WL := p_mt3 (i := 207) rfl rfl
set_option maxRecDepth 100000 in
theorem m_785 : Cond.selects RX11 yX11_gives yX11_gives ∈ WL := p_mt3 (i := 208) rfl rfl
set_option maxRecDepth 100000 in
theorem m_786 : Cond.code yX11_gives cX11_gives 3 (some .int) ∈ WL := p_mt3 (i := 209) rfl rfl
set_option maxRecDepth 100000 in
theorem wv_L_74 : MV RL 74 10 yX11_gives cX11_gives 3 (some .int) 2 := ⟨⟨TX11, 11, rfl⟩, m_783, m_784, m_785, m_98, m_786, by decide +kernel, by decide +kernel, by decide⟩
set_option maxRecDepth 100000 in
theorem m_1772 : Cond.methodLink RL 81 yX12_takesBack ∈ WL := p_mt7 (i := 235) rfl rfl
set_option maxRecDepth 100000 in
theorem m_1773 : Cond.instanceMethod yX12_takesBack ∈ WL := p_mt7 (i := 236) rfl rfl
set_option maxRecDepth 100000 in
theorem m_1774 : Cond.selects RX12 yX12_takesBack yX12_takesBack ∈ WL := p_mt7 (i := 237) rfl rfl
set_option maxRecDepth 100000 in
theorem m_1775 : Cond.code yX12_takesBack cX12_takesBack 4 (some .int) ∈ WL := p_mt7 (i := 238) rfl rfl
set_option maxRecDepth 100000 in
theorem wv_L_81 : MV RL 81 11 yX12_takesBack cX12_takesBack 4 (some .int) 2 := ⟨⟨TX12, 51, rfl⟩, m_1772, m_1773, m_1774, m_110, m_1775, by decide +kernel, by decide +kernel, by decide⟩
set_option maxRecDepth 100000 in
theorem m_831 : Cond.methodLink RL 78 yX11_takesBack ∈ WL := p_mt4 (i := 14) rfl rfl
set_option maxRecDepth 100000 in
theorem m_832 : Cond.instanceMethod yX11_takesBack ∈ WL := p_mt4 (i := 15) rfl rfl
set_option maxRecDepth 100000 in
theorem m_833 : Cond.selects RX11 yX11_takesBack yX11_takesBack ∈ WL := p_mt4 (i := 16) rfl rfl
set_option maxRecDepth 100000 in
theorem m_834 : Cond.code yX11_takesBack cX11_takesBack 3 (some .int) ∈ WL := p_mt4 (i := 17) rfl rfl
set_option maxRecDepth 100000 in
theorem wv_L_78 : MV RL 78 10 yX11_takesBack cX11_takesBack 3 (some .int) 2 := ⟨⟨TX11, 11, rfl⟩, m_831, m_832, m_833, m_98, m_834, by decide +kernel, by decide +kernel, by decide⟩
set_option maxRecDepth 100000 in
theorem m_1783 : Cond.methodLink RL 85 yX12_makes ∈ WL := p_mt8 (i := 6) rfl rfl
set_option maxRecDepth 100000 in
theorem m_1784 : Cond.instanceMethod yX12_makes ∈ WL := p_mt8 (i := 7) rfl rfl
set_option maxRecDepth 100000 in
theorem m_1785 : Cond.selects RX12 yX12_makes yX12_makes ∈ WL := p_mt8 (i := 8) rfl rfl
set_option maxRecDepth 100000 in
theorem m_1786 : Cond.code yX12_makes cX12_makes 3 (some .int) ∈ WL := p_mt8 (i := 9) rfl rfl
set_option maxRecDepth 100000 in
theorem wv_L_85 : MV RL 85 11 yX12_makes cX12_makes 3 (some .int) 2 := ⟨⟨TX12, 51, rfl⟩, m_1783, m_1784, m_1785, m_110, m_1786, by decide +kernel, by decide +kernel, by decide⟩
set_option maxRecDepth 100000 in
theorem m_843 : Cond.methodLink RL 82 yX11_makes ∈ WL := p_mt4 (i := 26) rfl rfl
set_option maxRecDepth 100000 in
theorem m_844 : Cond.instanceMethod yX11_makes ∈ WL := p_mt4 (i := 27) rfl rfl
set_option maxRecDepth 100000 in
theorem m_845 : Cond.selects RX11 yX11_makes yX11_makes ∈ WL := p_mt4 (i := 28) rfl rfl
set_option maxRecDepth 100000 in
theorem m_846 : Cond.code yX11_makes cX11_makes 3 (some .int) ∈ WL := p_mt4 (i := 29) rfl rfl
set_option maxRecDepth 100000 in
theorem wv_L_82 : MV RL 82 10 yX11_makes cX11_makes 3 (some .int) 2 := ⟨⟨TX11, 11, rfl⟩, m_843, m_844, m_845, m_98, m_846, by decide +kernel, by decide +kernel, by decide⟩
set_option maxRecDepth 100000 in
theorem m_1787 : Cond.methodLink RL 89 yX12_days ∈ WL := p_mt8 (i := 10) rfl rfl
set_option maxRecDepth 100000 in
theorem m_1788 : Cond.instanceMethod yX12_days ∈ WL := p_mt8 (i := 11) rfl rfl
set_option maxRecDepth 100000 in
theorem m_1789 : Cond.selects RX12 yX12_days yX12_days ∈ WL := p_mt8 (i := 12) rfl rfl
set_option maxRecDepth 100000 in
theorem m_1790 : Cond.code yX12_days cX12_days 2 (some .int) ∈ WL := p_mt8 (i := 13) rfl rfl
set_option maxRecDepth 100000 in
theorem wv_L_89 : MV RL 89 11 yX12_days cX12_days 2 (some .int) 1 := ⟨⟨TX12, 51, rfl⟩, m_1787, m_1788, m_1789, m_110, m_1790, by decide +kernel, by decide +kernel, by decide⟩
set_option maxRecDepth 100000 in
theorem m_851 : Cond.methodLink RL 86 yX11_days ∈ WL := p_mt4 (i := 34) rfl rfl
set_option maxRecDepth 100000 in
theorem m_852 : Cond.instanceMethod yX11_days ∈ WL := p_mt4 (i := 35) rfl rfl
set_option maxRecDepth 100000 in
theorem m_853 : Cond.selects RX11 yX11_days yX11_days ∈ WL := p_mt4 (i := 36) rfl rfl
set_option maxRecDepth 100000 in
theorem m_854 : Cond.code yX11_days cX11_days 3 (some .int) ∈ WL := p_mt4 (i := 37) rfl rfl
set_option maxRecDepth 100000 in
theorem wv_L_86 : MV RL 86 10 yX11_days cX11_days 3 (some .int) 1 := ⟨⟨TX11, 11, rfl⟩, m_851, m_852, m_853, m_98, m_854, by decide +kernel, by decide +kernel, by decide⟩
set_option maxRecDepth 100000 in
theorem m_1822 : Cond.methodLink RL 93 yX12_year ∈ WL := p_mt8 (i := 45) rfl rfl
set_option maxRecDepth 100000 in
theorem m_1823 : Cond.instanceMethod yX12_year ∈ WL := p_mt8 (i := 46) rfl rfl
set_option maxRecDepth 100000 in
theorem m_1824 : Cond.selects RX12 yX12_year yX12_year ∈ WL := p_mt8 (i := 47) rfl rfl
set_option maxRecDepth 100000 in
theorem m_1825 : Cond.code yX12_year cX12_year 3 (some .int) ∈ WL := p_mt8 (i := 48) rfl rfl
set_option maxRecDepth 100000 in
theorem wv_L_93 : MV RL 93 11 yX12_year cX12_year 3 (some .int) 0 := ⟨⟨TX12, 51, rfl⟩, m_1822, m_1823, m_1824, m_110, m_1825, by decide +kernel, by decide +kernel, by decide⟩
set_option maxRecDepth 100000 in
theorem m_946 : Cond.methodLink RL 90 yX11_year ∈ WL := p_mt4 (i := 129) rfl rfl
set_option maxRecDepth 100000 in
theorem m_947 : Cond.instanceMethod yX11_year ∈ WL := p_mt4 (i := 130) rfl rfl
set_option maxRecDepth 100000 in
theorem m_948 : Cond.selects RX11 yX11_year yX11_year ∈ WL := p_mt4 (i := 131) rfl rfl
set_option maxRecDepth 100000 in
theorem m_949 : Cond.code yX11_year cX11_year 2 (some .int) ∈ WL := p_mt4 (i := 132) rfl rfl
set_option maxRecDepth 100000 in
theorem wv_L_90 : MV RL 90 10 yX11_year cX11_year 2 (some .int) 0 := ⟨⟨TX11, 11, rfl⟩, m_946, m_947, m_948, m_98, m_949, by decide +kernel, by decide +kernel, by decide⟩
set_option maxRecDepth 100000 in
theorem m_1834 : Cond.methodLink RL 97 yX12_undo ∈ WL := p_mt8 (i := 57) rfl rfl
set_option maxRecDepth 100000 in
theorem m_1835 : Cond.instanceMethod yX12_undo ∈ WL := p_mt8 (i := 58) rfl rfl
set_option maxRecDepth 100000 in
theorem m_1836 : Cond.selects RX12 yX12_undo yX12_undo ∈ WL := p_mt8 (i := 59) rfl rfl
set_option maxRecDepth 100000 in
theorem m_1837 : Cond.code yX12_undo cX12_undo 2 (some .int) ∈ WL := p_mt8 (i := 60) rfl rfl
set_option maxRecDepth 100000 in
theorem wv_L_97 : MV RL 97 11 yX12_undo cX12_undo 2 (some .int) 0 := ⟨⟨TX12, 51, rfl⟩, m_1834, m_1835, m_1836, m_110, m_1837, by decide +kernel, by decide +kernel, by decide⟩
set_option maxRecDepth 100000 in
theorem m_962 : Cond.methodLink RL 94 yX11_undo ∈ WL := p_mt4 (i := 145) rfl rfl
set_option maxRecDepth 100000 in
theorem m_963 : Cond.instanceMethod yX11_undo ∈ WL := p_mt4 (i := 146) rfl rfl
set_option maxRecDepth 100000 in
theorem m_964 : Cond.selects RX11 yX11_undo yX11_undo ∈ WL := p_mt4 (i := 147) rfl rfl
set_option maxRecDepth 100000 in
theorem m_965 : Cond.code yX11_undo cX11_undo 1 (some .int) ∈ WL := p_mt4 (i := 148) rfl rfl
set_option maxRecDepth 100000 in
theorem wv_L_94 : MV RL 94 10 yX11_undo cX11_undo 1 (some .int) 0 := ⟨⟨TX11, 11, rfl⟩, m_962, m_963, m_964, m_98, m_965, by decide +kernel, by decide +kernel, by decide⟩
set_option maxRecDepth 100000 in
theorem m_1838 : Cond.methodLink RL 102 yX12_later ∈ WL := p_mt8 (i := 61) rfl rfl
set_option maxRecDepth 100000 in
theorem m_1839 : Cond.instanceMethod yX12_later ∈ WL := p_mt8 (i := 62) rfl rfl
set_option maxRecDepth 100000 in
theorem m_1840 : Cond.selects RX12 yX12_later yX12_later ∈ WL := p_mt8 (i := 63) rfl rfl
set_option maxRecDepth 100000 in
theorem m_1841 : Cond.code yX12_later cX12_later 4 (some .int) ∈ WL := p_mt8 (i := 64) rfl rfl
set_option maxRecDepth 100000 in
theorem wv_L_102 : MV RL 102 11 yX12_later cX12_later 4 (some .int) 3 := ⟨⟨TX12, 51, rfl⟩, m_1838, m_1839, m_1840, m_110, m_1841, by decide +kernel, by decide +kernel, by decide⟩
set_option maxRecDepth 100000 in
theorem m_978 : Cond.methodLink RL 98 yX11_later ∈ WL := p_mt4 (i := 161) rfl rfl
set_option maxRecDepth 100000 in
theorem m_979 : Cond.instanceMethod yX11_later ∈ WL := p_mt4 (i := 162) rfl rfl
set_option maxRecDepth 100000 in
theorem m_980 : Cond.selects RX11 yX11_later yX11_later ∈ WL := p_mt4 (i := 163) rfl rfl
set_option maxRecDepth 100000 in
theorem m_981 : Cond.code yX11_later cX11_later 4 (some .int) ∈ WL := p_mt4 (i := 164) rfl rfl
set_option maxRecDepth 100000 in
theorem wv_L_98 : MV RL 98 10 yX11_later cX11_later 4 (some .int) 3 := ⟨⟨TX11, 11, rfl⟩, m_978, m_979, m_980, m_98, m_981, by decide +kernel, by decide +kernel, by decide⟩
set_option maxRecDepth 100000 in
theorem m_1846 : Cond.methodLink RL 106 yX12_settles ∈ WL := p_mt8 (i := 69) rfl rfl
set_option maxRecDepth 100000 in
theorem m_1847 : Cond.instanceMethod yX12_settles ∈ WL := p_mt8 (i := 70) rfl rfl
set_option maxRecDepth 100000 in
theorem m_1848 : Cond.selects RX12 yX12_settles yX12_settles ∈ WL := p_mt8 (i := 71) rfl rfl
set_option maxRecDepth 100000 in
theorem m_1849 : Cond.code yX12_settles cX12_settles 5 (some .int) ∈ WL := p_mt8 (i := 72) rfl rfl
set_option maxRecDepth 100000 in
theorem wv_L_106 : MV RL 106 11 yX12_settles cX12_settles 5 (some .int) 1 := ⟨⟨TX12, 51, rfl⟩, m_1846, m_1847, m_1848, m_110, m_1849, by decide +kernel, by decide +kernel, by decide⟩
set_option maxRecDepth 100000 in
theorem m_992 : Cond.methodLink RL 103 yX11_settles ∈ WL := p_mt4 (i := 175) rfl rfl
set_option maxRecDepth 100000 in
theorem m_993 : Cond.instanceMethod yX11_settles ∈ WL := p_mt4 (i := 176) rfl rfl
set_option maxRecDepth 100000 in
theorem m_994 : Cond.selects RX11 yX11_settles yX11_settles ∈ WL := p_mt4 (i := 177) rfl rfl
set_option maxRecDepth 100000 in
theorem m_995 : Cond.code yX11_settles cX11_settles 4 (some .int) ∈ WL := p_mt4 (i := 178) rfl rfl
set_option maxRecDepth 100000 in
theorem wv_L_103 : MV RL 103 10 yX11_settles cX11_settles 4 (some .int) 1 := ⟨⟨TX11, 11, rfl⟩, m_992, m_993, m_994, m_98, m_995, by decide +kernel, by decide +kernel, by decide⟩
set_option maxRecDepth 100000 in
theorem m_1850 : Cond.methodLink RL 110 yX12_when ∈ WL := p_mt8 (i := 73) rfl rfl
set_option maxRecDepth 100000 in
theorem m_1851 : Cond.instanceMethod yX12_when ∈ WL := p_mt8 (i := 74) rfl rfl
set_option maxRecDepth 100000 in
theorem m_1852 : Cond.selects RX12 yX12_when yX12_when ∈ WL := p_mt8 (i := 75) rfl rfl
set_option maxRecDepth 100000 in
theorem m_1853 : Cond.code yX12_when cX12_when 4 (some .int) ∈ WL := p_mt8 (i := 76) rfl rfl
set_option maxRecDepth 100000 in
theorem wv_L_110 : MV RL 110 11 yX12_when cX12_when 4 (some .int) 2 := ⟨⟨TX12, 51, rfl⟩, m_1850, m_1851, m_1852, m_110, m_1853, by decide +kernel, by decide +kernel, by decide⟩
set_option maxRecDepth 100000 in
theorem m_1000 : Cond.methodLink RL 107 yX11_when ∈ WL := p_mt4 (i := 183) rfl rfl
set_option maxRecDepth 100000 in
theorem m_1001 : Cond.instanceMethod yX11_when ∈ WL := p_mt4 (i := 184) rfl rfl
set_option maxRecDepth 100000 in
theorem m_1002 : Cond.selects RX11 yX11_when yX11_when ∈ WL := p_mt4 (i := 185) rfl rfl
set_option maxRecDepth 100000 in
theorem m_1003 : Cond.code yX11_when cX11_when 5 (some .int) ∈ WL := p_mt4 (i := 186) rfl rfl
set_option maxRecDepth 100000 in
theorem wv_L_107 : MV RL 107 10 yX11_when cX11_when 5 (some .int) 2 := ⟨⟨TX11, 11, rfl⟩, m_1000, m_1001, m_1002, m_98, m_1003, by decide +kernel, by decide +kernel, by decide⟩
set_option maxRecDepth 100000 in
theorem m_1858 : Cond.methodLink RL 114 yX12_lacks ∈ WL := p_mt8 (i := 81) rfl rfl
set_option maxRecDepth 100000 in
theorem m_1859 : Cond.instanceMethod yX12_lacks ∈ WL := p_mt8 (i := 82) rfl rfl
set_option maxRecDepth 100000 in
theorem m_1860 : Cond.selects RX12 yX12_lacks yX12_lacks ∈ WL := p_mt8 (i := 83) rfl rfl
set_option maxRecDepth 100000 in
theorem m_1861 : Cond.code yX12_lacks cX12_lacks 7 (some .int) ∈ WL := p_mt8 (i := 84) rfl rfl
set_option maxRecDepth 100000 in
theorem wv_L_114 : MV RL 114 11 yX12_lacks cX12_lacks 7 (some .int) 2 := ⟨⟨TX12, 51, rfl⟩, m_1858, m_1859, m_1860, m_110, m_1861, by decide +kernel, by decide +kernel, by decide⟩
set_option maxRecDepth 100000 in
theorem m_1007 : Cond.methodLink RL 111 yX11_lacks ∈ WL := p_mt4 (i := 190) rfl rfl
set_option maxRecDepth 100000 in
theorem m_1008 : Cond.instanceMethod yX11_lacks ∈ WL := p_mt4 (i := 191) rfl rfl
set_option maxRecDepth 100000 in
theorem m_1009 : Cond.selects RX11 yX11_lacks yX11_lacks ∈ WL := p_mt4 (i := 192) rfl rfl
set_option maxRecDepth 100000 in
theorem m_1010 : Cond.code yX11_lacks cX11_lacks 7 (some .int) ∈ WL := p_mt4 (i := 193) rfl rfl
set_option maxRecDepth 100000 in
theorem wv_L_111 : MV RL 111 10 yX11_lacks cX11_lacks 7 (some .int) 2 := ⟨⟨TX11, 11, rfl⟩, m_1007, m_1008, m_1009, m_98, m_1010, by decide +kernel, by decide +kernel, by decide⟩
set_option maxRecDepth 100000 in
theorem m_1863 : Cond.methodLink RL 118 yX12_richest ∈ WL := p_mt8 (i := 86) rfl rfl
set_option maxRecDepth 100000 in
theorem m_1864 : Cond.instanceMethod yX12_richest ∈ WL := p_mt8 (i := 87) rfl rfl
set_option maxRecDepth 100000 in
theorem m_1865 : Cond.selects RX12 yX12_richest yX12_richest ∈ WL := p_mt8 (i := 88) rfl rfl
set_option maxRecDepth 100000 in
theorem m_1866 : Cond.code yX12_richest cX12_richest 4 (some .int) ∈ WL := p_mt8 (i := 89) rfl rfl
set_option maxRecDepth 100000 in
theorem wv_L_118 : MV RL 118 11 yX12_richest cX12_richest 4 (some .int) 0 := ⟨⟨TX12, 51, rfl⟩, m_1863, m_1864, m_1865, m_110, m_1866, by decide +kernel, by decide +kernel, by decide⟩
set_option maxRecDepth 100000 in
theorem m_1014 : Cond.methodLink RL 115 yX11_richest ∈ WL := p_mt4 (i := 197) rfl rfl
set_option maxRecDepth 100000 in
theorem m_1015 : Cond.instanceMethod yX11_richest ∈ WL := p_mt4 (i := 198) rfl rfl
set_option maxRecDepth 100000 in
theorem m_1016 : Cond.selects RX11 yX11_richest yX11_richest ∈ WL := p_mt4 (i := 199) rfl rfl
set_option maxRecDepth 100000 in
theorem m_1017 : Cond.code yX11_richest cX11_richest 6 (some .int) ∈ WL := p_mt4 (i := 200) rfl rfl
set_option maxRecDepth 100000 in
theorem wv_L_115 : MV RL 115 10 yX11_richest cX11_richest 6 (some .int) 0 := ⟨⟨TX11, 11, rfl⟩, m_1014, m_1015, m_1016, m_98, m_1017, by decide +kernel, by decide +kernel, by decide⟩
set_option maxRecDepth 100000 in
theorem m_1867 : Cond.methodLink RL 122 yX12_apart ∈ WL := p_mt8 (i := 90) rfl rfl
set_option maxRecDepth 100000 in
theorem m_1868 : Cond.instanceMethod yX12_apart ∈ WL := p_mt8 (i := 91) rfl rfl
set_option maxRecDepth 100000 in
theorem m_1869 : Cond.selects RX12 yX12_apart yX12_apart ∈ WL := p_mt8 (i := 92) rfl rfl
set_option maxRecDepth 100000 in
theorem m_1870 : Cond.code yX12_apart cX12_apart 7 (some .int) ∈ WL := p_mt8 (i := 93) rfl rfl
set_option maxRecDepth 100000 in
theorem wv_L_122 : MV RL 122 11 yX12_apart cX12_apart 7 (some .int) 3 := ⟨⟨TX12, 51, rfl⟩, m_1867, m_1868, m_1869, m_110, m_1870, by decide +kernel, by decide +kernel, by decide⟩
set_option maxRecDepth 100000 in
theorem m_1022 : Cond.methodLink RL 119 yX11_apart ∈ WL := p_mt4 (i := 205) rfl rfl
set_option maxRecDepth 100000 in
theorem m_1023 : Cond.instanceMethod yX11_apart ∈ WL := p_mt4 (i := 206) rfl rfl
set_option maxRecDepth 100000 in
theorem m_1024 : Cond.selects RX11 yX11_apart yX11_apart ∈ WL := p_mt4 (i := 207) rfl rfl
set_option maxRecDepth 100000 in
theorem m_1025 : Cond.code yX11_apart cX11_apart 7 (some .int) ∈ WL := p_mt4 (i := 208) rfl rfl
set_option maxRecDepth 100000 in
theorem wv_L_119 : MV RL 119 10 yX11_apart cX11_apart 7 (some .int) 3 := ⟨⟨TX11, 11, rfl⟩, m_1022, m_1023, m_1024, m_98, m_1025, by decide +kernel, by decide +kernel, by decide⟩
set_option maxRecDepth 100000 in
theorem m_1871 : Cond.methodLink RL 126 yX12_fewest ∈ WL := p_mt8 (i := 94) rfl rfl
set_option maxRecDepth 100000 in
theorem m_1872 : Cond.instanceMethod yX12_fewest ∈ WL := p_mt8 (i := 95) rfl rfl
set_option maxRecDepth 100000 in
theorem m_1873 : Cond.selects RX12 yX12_fewest yX12_fewest ∈ WL := p_mt8 (i := 96) rfl rfl
set_option maxRecDepth 100000 in
theorem m_1874 : Cond.code yX12_fewest cX12_fewest 8 (some .int) ∈ WL := p_mt8 (i := 97) rfl rfl
set_option maxRecDepth 100000 in
theorem wv_L_126 : MV RL 126 11 yX12_fewest cX12_fewest 8 (some .int) 3 := ⟨⟨TX12, 51, rfl⟩, m_1871, m_1872, m_1873, m_110, m_1874, by decide +kernel, by decide +kernel, by decide⟩
set_option maxRecDepth 100000 in
theorem m_1034 : Cond.methodLink RL 123 yX11_fewest ∈ WL := p_mt4 (i := 217) rfl rfl
set_option maxRecDepth 100000 in
theorem m_1035 : Cond.instanceMethod yX11_fewest ∈ WL := p_mt4 (i := 218) rfl rfl
set_option maxRecDepth 100000 in
theorem m_1036 : Cond.selects RX11 yX11_fewest yX11_fewest ∈ WL := p_mt4 (i := 219) rfl rfl
set_option maxRecDepth 100000 in
theorem m_1037 : Cond.code yX11_fewest cX11_fewest 4 (some .int) ∈ WL := p_mt4 (i := 220) rfl rfl
set_option maxRecDepth 100000 in
theorem wv_L_123 : MV RL 123 10 yX11_fewest cX11_fewest 4 (some .int) 3 := ⟨⟨TX11, 11, rfl⟩, m_1034, m_1035, m_1036, m_98, m_1037, by decide +kernel, by decide +kernel, by decide⟩
set_option maxRecDepth 100000 in
theorem m_1895 : Cond.methodLink RL 130 yX12_serves ∈ WL := p_mt8 (i := 118) rfl rfl
set_option maxRecDepth 100000 in
theorem m_1896 : Cond.instanceMethod yX12_serves ∈ WL := p_mt8 (i := 119) rfl rfl
set_option maxRecDepth 100000 in
theorem m_1897 : Cond.selects RX12 yX12_serves yX12_serves ∈ WL := p_mt8 (i := 120) rfl rfl
set_option maxRecDepth 100000 in
theorem m_1898 : Cond.code yX12_serves cX12_serves 7 (some .int) ∈ WL := p_mt8 (i := 121) rfl rfl
set_option maxRecDepth 100000 in
theorem wv_L_130 : MV RL 130 11 yX12_serves cX12_serves 7 (some .int) 2 := ⟨⟨TX12, 51, rfl⟩, m_1895, m_1896, m_1897, m_110, m_1898, by decide +kernel, by decide +kernel, by decide⟩
set_option maxRecDepth 100000 in
theorem m_1074 : Cond.methodLink RL 127 yX11_serves ∈ WL := p_mt5 (i := 17) rfl rfl
set_option maxRecDepth 100000 in
theorem m_1075 : Cond.instanceMethod yX11_serves ∈ WL := p_mt5 (i := 18) rfl rfl
set_option maxRecDepth 100000 in
theorem m_1076 : Cond.selects RX11 yX11_serves yX11_serves ∈ WL := p_mt5 (i := 19) rfl rfl
set_option maxRecDepth 100000 in
theorem m_1077 : Cond.code yX11_serves cX11_serves 3 (some .int) ∈ WL := p_mt5 (i := 20) rfl rfl
set_option maxRecDepth 100000 in
theorem wv_L_127 : MV RL 127 10 yX11_serves cX11_serves 3 (some .int) 2 := ⟨⟨TX11, 11, rfl⟩, m_1074, m_1075, m_1076, m_98, m_1077, by decide +kernel, by decide +kernel, by decide⟩
set_option maxRecDepth 100000 in
theorem m_1899 : Cond.methodLink RL 134 yX12_burdens ∈ WL := p_mt8 (i := 122) rfl rfl
set_option maxRecDepth 100000 in
theorem m_1900 : Cond.instanceMethod yX12_burdens ∈ WL := p_mt8 (i := 123) rfl rfl
set_option maxRecDepth 100000 in
theorem m_1901 : Cond.selects RX12 yX12_burdens yX12_burdens ∈ WL := p_mt8 (i := 124) rfl rfl
set_option maxRecDepth 100000 in
theorem m_1902 : Cond.code yX12_burdens cX12_burdens 7 (some .int) ∈ WL := p_mt8 (i := 125) rfl rfl
set_option maxRecDepth 100000 in
theorem wv_L_134 : MV RL 134 11 yX12_burdens cX12_burdens 7 (some .int) 2 := ⟨⟨TX12, 51, rfl⟩, m_1899, m_1900, m_1901, m_110, m_1902, by decide +kernel, by decide +kernel, by decide⟩
set_option maxRecDepth 100000 in
theorem m_1082 : Cond.methodLink RL 131 yX11_burdens ∈ WL := p_mt5 (i := 25) rfl rfl
set_option maxRecDepth 100000 in
theorem m_1083 : Cond.instanceMethod yX11_burdens ∈ WL := p_mt5 (i := 26) rfl rfl
set_option maxRecDepth 100000 in
theorem m_1084 : Cond.selects RX11 yX11_burdens yX11_burdens ∈ WL := p_mt5 (i := 27) rfl rfl
set_option maxRecDepth 100000 in
theorem m_1085 : Cond.code yX11_burdens cX11_burdens 3 (some .int) ∈ WL := p_mt5 (i := 28) rfl rfl
set_option maxRecDepth 100000 in
theorem wv_L_131 : MV RL 131 10 yX11_burdens cX11_burdens 3 (some .int) 2 := ⟨⟨TX11, 11, rfl⟩, m_1082, m_1083, m_1084, m_98, m_1085, by decide +kernel, by decide +kernel, by decide⟩
set_option maxRecDepth 100000 in
theorem m_1903 : Cond.methodLink RL 138 yX12_quarrels ∈ WL := p_mt8 (i := 126) rfl rfl
set_option maxRecDepth 100000 in
theorem m_1904 : Cond.instanceMethod yX12_quarrels ∈ WL := p_mt8 (i := 127) rfl rfl
set_option maxRecDepth 100000 in
theorem m_1905 : Cond.selects RX12 yX12_quarrels yX12_quarrels ∈ WL := p_mt8 (i := 128) rfl rfl
set_option maxRecDepth 100000 in
theorem m_1906 : Cond.code yX12_quarrels cX12_quarrels 5 (some .int) ∈ WL := p_mt8 (i := 129) rfl rfl
set_option maxRecDepth 100000 in
theorem wv_L_138 : MV RL 138 11 yX12_quarrels cX12_quarrels 5 (some .int) 1 := ⟨⟨TX12, 51, rfl⟩, m_1903, m_1904, m_1905, m_110, m_1906, by decide +kernel, by decide +kernel, by decide⟩
set_option maxRecDepth 100000 in
theorem m_1095 : Cond.methodLink RL 135 yX11_quarrels ∈ WL := p_mt5 (i := 38) rfl rfl
set_option maxRecDepth 100000 in
theorem m_1096 : Cond.instanceMethod yX11_quarrels ∈ WL := p_mt5 (i := 39) rfl rfl
set_option maxRecDepth 100000 in
theorem m_1097 : Cond.selects RX11 yX11_quarrels yX11_quarrels ∈ WL := p_mt5 (i := 40) rfl rfl
set_option maxRecDepth 100000 in
theorem m_1098 : Cond.code yX11_quarrels cX11_quarrels 5 (some .int) ∈ WL := p_mt5 (i := 41) rfl rfl
set_option maxRecDepth 100000 in
theorem wv_L_135 : MV RL 135 10 yX11_quarrels cX11_quarrels 5 (some .int) 1 := ⟨⟨TX11, 11, rfl⟩, m_1095, m_1096, m_1097, m_98, m_1098, by decide +kernel, by decide +kernel, by decide⟩
set_option maxRecDepth 100000 in
theorem m_1911 : Cond.methodLink RL 142 yX12_peace ∈ WL := p_mt8 (i := 134) rfl rfl
set_option maxRecDepth 100000 in
theorem m_1912 : Cond.instanceMethod yX12_peace ∈ WL := p_mt8 (i := 135) rfl rfl
set_option maxRecDepth 100000 in
theorem m_1913 : Cond.selects RX12 yX12_peace yX12_peace ∈ WL := p_mt8 (i := 136) rfl rfl
set_option maxRecDepth 100000 in
theorem m_1914 : Cond.code yX12_peace cX12_peace 4 (some .int) ∈ WL := p_mt8 (i := 137) rfl rfl
set_option maxRecDepth 100000 in
theorem wv_L_142 : MV RL 142 11 yX12_peace cX12_peace 4 (some .int) 1 := ⟨⟨TX12, 51, rfl⟩, m_1911, m_1912, m_1913, m_110, m_1914, by decide +kernel, by decide +kernel, by decide⟩
set_option maxRecDepth 100000 in
theorem m_1109 : Cond.methodLink RL 139 yX11_peace ∈ WL := p_mt5 (i := 52) rfl rfl
set_option maxRecDepth 100000 in
theorem m_1110 : Cond.instanceMethod yX11_peace ∈ WL := p_mt5 (i := 53) rfl rfl
set_option maxRecDepth 100000 in
theorem m_1111 : Cond.selects RX11 yX11_peace yX11_peace ∈ WL := p_mt5 (i := 54) rfl rfl
set_option maxRecDepth 100000 in
theorem m_1112 : Cond.code yX11_peace cX11_peace 4 (some .int) ∈ WL := p_mt5 (i := 55) rfl rfl
set_option maxRecDepth 100000 in
theorem wv_L_139 : MV RL 139 10 yX11_peace cX11_peace 4 (some .int) 1 := ⟨⟨TX11, 11, rfl⟩, m_1109, m_1110, m_1111, m_98, m_1112, by decide +kernel, by decide +kernel, by decide⟩
set_option maxRecDepth 100000 in
theorem m_1923 : Cond.methodLink RL 146 yX12_pulls ∈ WL := p_mt8 (i := 146) rfl rfl
set_option maxRecDepth 100000 in
theorem m_1924 : Cond.instanceMethod yX12_pulls ∈ WL := p_mt8 (i := 147) rfl rfl
set_option maxRecDepth 100000 in
theorem m_1925 : Cond.selects RX12 yX12_pulls yX12_pulls ∈ WL := p_mt8 (i := 148) rfl rfl
set_option maxRecDepth 100000 in
theorem m_1926 : Cond.code yX12_pulls cX12_pulls 7 (some .int) ∈ WL := p_mt8 (i := 149) rfl rfl
set_option maxRecDepth 100000 in
theorem wv_L_146 : MV RL 146 11 yX12_pulls cX12_pulls 7 (some .int) 1 := ⟨⟨TX12, 51, rfl⟩, m_1923, m_1924, m_1925, m_110, m_1926, by decide +kernel, by decide +kernel, by decide⟩
set_option maxRecDepth 100000 in
theorem m_1119 : Cond.methodLink RL 143 yX11_pulls ∈ WL := p_mt5 (i := 62) rfl rfl
set_option maxRecDepth 100000 in
theorem m_1120 : Cond.instanceMethod yX11_pulls ∈ WL := p_mt5 (i := 63) rfl rfl
set_option maxRecDepth 100000 in
theorem m_1121 : Cond.selects RX11 yX11_pulls yX11_pulls ∈ WL := p_mt5 (i := 64) rfl rfl
set_option maxRecDepth 100000 in
theorem m_1122 : Cond.code yX11_pulls cX11_pulls 5 (some .int) ∈ WL := p_mt5 (i := 65) rfl rfl
set_option maxRecDepth 100000 in
theorem wv_L_143 : MV RL 143 10 yX11_pulls cX11_pulls 5 (some .int) 1 := ⟨⟨TX11, 11, rfl⟩, m_1119, m_1120, m_1121, m_98, m_1122, by decide +kernel, by decide +kernel, by decide⟩
set_option maxRecDepth 100000 in
theorem m_1928 : Cond.methodLink RL 150 yX12_seen ∈ WL := p_mt8 (i := 151) rfl rfl
set_option maxRecDepth 100000 in
theorem m_1929 : Cond.instanceMethod yX12_seen ∈ WL := p_mt8 (i := 152) rfl rfl
set_option maxRecDepth 100000 in
theorem m_1930 : Cond.selects RX12 yX12_seen yX12_seen ∈ WL := p_mt8 (i := 153) rfl rfl
set_option maxRecDepth 100000 in
theorem m_1931 : Cond.code yX12_seen cX12_seen 4 (some .int) ∈ WL := p_mt8 (i := 154) rfl rfl
set_option maxRecDepth 100000 in
theorem wv_L_150 : MV RL 150 11 yX12_seen cX12_seen 4 (some .int) 3 := ⟨⟨TX12, 51, rfl⟩, m_1928, m_1929, m_1930, m_110, m_1931, by decide +kernel, by decide +kernel, by decide⟩
set_option maxRecDepth 100000 in
theorem m_1127 : Cond.methodLink RL 147 yX11_seen ∈ WL := p_mt5 (i := 70) rfl rfl
set_option maxRecDepth 100000 in
theorem m_1128 : Cond.instanceMethod yX11_seen ∈ WL := p_mt5 (i := 71) rfl rfl
set_option maxRecDepth 100000 in
theorem m_1129 : Cond.selects RX11 yX11_seen yX11_seen ∈ WL := p_mt5 (i := 72) rfl rfl
set_option maxRecDepth 100000 in
theorem m_1130 : Cond.code yX11_seen cX11_seen 4 (some .int) ∈ WL := p_mt5 (i := 73) rfl rfl
set_option maxRecDepth 100000 in
theorem wv_L_147 : MV RL 147 10 yX11_seen cX11_seen 4 (some .int) 3 := ⟨⟨TX11, 11, rfl⟩, m_1127, m_1128, m_1129, m_98, m_1130, by decide +kernel, by decide +kernel, by decide⟩
set_option maxRecDepth 100000 in
theorem m_1932 : Cond.methodLink RL 154 yX12_forget ∈ WL := p_mt8 (i := 155) rfl rfl
set_option maxRecDepth 100000 in
theorem m_1933 : Cond.instanceMethod yX12_forget ∈ WL := p_mt8 (i := 156) rfl rfl
set_option maxRecDepth 100000 in
theorem m_1934 : Cond.selects RX12 yX12_forget yX12_forget ∈ WL := p_mt8 (i := 157) rfl rfl
set_option maxRecDepth 100000 in
theorem m_1935 : Cond.code yX12_forget cX12_forget 2 (some .int) ∈ WL := p_mt8 (i := 158) rfl rfl
set_option maxRecDepth 100000 in
theorem wv_L_154 : MV RL 154 11 yX12_forget cX12_forget 2 (some .int) 0 := ⟨⟨TX12, 51, rfl⟩, m_1932, m_1933, m_1934, m_110, m_1935, by decide +kernel, by decide +kernel, by decide⟩
set_option maxRecDepth 100000 in
theorem m_1139 : Cond.methodLink RL 151 yX11_forget ∈ WL := p_mt5 (i := 82) rfl rfl
set_option maxRecDepth 100000 in
theorem m_1140 : Cond.instanceMethod yX11_forget ∈ WL := p_mt5 (i := 83) rfl rfl
set_option maxRecDepth 100000 in
theorem m_1141 : Cond.selects RX11 yX11_forget yX11_forget ∈ WL := p_mt5 (i := 84) rfl rfl
set_option maxRecDepth 100000 in
theorem m_1142 : Cond.code yX11_forget cX11_forget 1 (some .int) ∈ WL := p_mt5 (i := 85) rfl rfl
set_option maxRecDepth 100000 in
theorem wv_L_151 : MV RL 151 10 yX11_forget cX11_forget 1 (some .int) 0 := ⟨⟨TX11, 11, rfl⟩, m_1139, m_1140, m_1141, m_98, m_1142, by decide +kernel, by decide +kernel, by decide⟩
set_option maxRecDepth 100000 in
theorem m_1936 : Cond.methodLink RL 158 yX12_fits ∈ WL := p_mt8 (i := 159) rfl rfl
set_option maxRecDepth 100000 in
theorem m_1937 : Cond.instanceMethod yX12_fits ∈ WL := p_mt8 (i := 160) rfl rfl
set_option maxRecDepth 100000 in
theorem m_1938 : Cond.selects RX12 yX12_fits yX12_fits ∈ WL := p_mt8 (i := 161) rfl rfl
set_option maxRecDepth 100000 in
theorem m_1939 : Cond.code yX12_fits cX12_fits 3 (some .int) ∈ WL := p_mt8 (i := 162) rfl rfl
set_option maxRecDepth 100000 in
theorem wv_L_158 : MV RL 158 11 yX12_fits cX12_fits 3 (some .int) 1 := ⟨⟨TX12, 51, rfl⟩, m_1936, m_1937, m_1938, m_110, m_1939, by decide +kernel, by decide +kernel, by decide⟩
set_option maxRecDepth 100000 in
theorem m_1147 : Cond.methodLink RL 155 yX11_fits ∈ WL := p_mt5 (i := 90) rfl rfl
set_option maxRecDepth 100000 in
theorem m_1148 : Cond.instanceMethod yX11_fits ∈ WL := p_mt5 (i := 91) rfl rfl
set_option maxRecDepth 100000 in
theorem m_1149 : Cond.selects RX11 yX11_fits yX11_fits ∈ WL := p_mt5 (i := 92) rfl rfl
set_option maxRecDepth 100000 in
theorem m_1150 : Cond.code yX11_fits cX11_fits 3 (some .int) ∈ WL := p_mt5 (i := 93) rfl rfl
set_option maxRecDepth 100000 in
theorem wv_L_155 : MV RL 155 10 yX11_fits cX11_fits 3 (some .int) 1 := ⟨⟨TX11, 11, rfl⟩, m_1147, m_1148, m_1149, m_98, m_1150, by decide +kernel, by decide +kernel, by decide⟩
set_option maxRecDepth 100000 in
theorem m_1948 : Cond.methodLink RL 162 yX12_looks ∈ WL := p_mt8 (i := 171) rfl rfl
set_option maxRecDepth 100000 in
theorem m_1949 : Cond.instanceMethod yX12_looks ∈ WL := p_mt8 (i := 172) rfl rfl
set_option maxRecDepth 100000 in
theorem m_1950 : Cond.selects RX12 yX12_looks yX12_looks ∈ WL := p_mt8 (i := 173) rfl rfl
set_option maxRecDepth 100000 in
theorem m_1951 : Cond.code yX12_looks cX12_looks 9 (some .int) ∈ WL := p_mt8 (i := 174) rfl rfl
set_option maxRecDepth 100000 in
theorem wv_L_162 : MV RL 162 11 yX12_looks cX12_looks 9 (some .int) 2 := ⟨⟨TX12, 51, rfl⟩, m_1948, m_1949, m_1950, m_110, m_1951, by decide +kernel, by decide +kernel, by decide⟩
set_option maxRecDepth 100000 in
theorem m_1165 : Cond.methodLink RL 159 yX11_looks ∈ WL := p_mt5 (i := 108) rfl rfl
set_option maxRecDepth 100000 in
theorem m_1166 : Cond.instanceMethod yX11_looks ∈ WL := p_mt5 (i := 109) rfl rfl
set_option maxRecDepth 100000 in
theorem m_1167 : Cond.selects RX11 yX11_looks yX11_looks ∈ WL := p_mt5 (i := 110) rfl rfl
set_option maxRecDepth 100000 in
theorem m_1168 : Cond.code yX11_looks cX11_looks 4 (some .int) ∈ WL := p_mt5 (i := 111) rfl rfl
set_option maxRecDepth 100000 in
theorem wv_L_159 : MV RL 159 10 yX11_looks cX11_looks 4 (some .int) 2 := ⟨⟨TX11, 11, rfl⟩, m_1165, m_1166, m_1167, m_98, m_1168, by decide +kernel, by decide +kernel, by decide⟩
set_option maxRecDepth 100000 in
theorem m_1953 : Cond.methodLink RL 166 yX12_covers ∈ WL := p_mt8 (i := 176) rfl rfl
set_option maxRecDepth 100000 in
theorem m_1954 : Cond.instanceMethod yX12_covers ∈ WL := p_mt8 (i := 177) rfl rfl
set_option maxRecDepth 100000 in
theorem m_1955 : Cond.selects RX12 yX12_covers yX12_covers ∈ WL := p_mt8 (i := 178) rfl rfl
set_option maxRecDepth 100000 in
theorem m_1956 : Cond.code yX12_covers cX12_covers 7 (some .int) ∈ WL := p_mt8 (i := 179) rfl rfl
set_option maxRecDepth 100000 in
theorem wv_L_166 : MV RL 166 11 yX12_covers cX12_covers 7 (some .int) 1 := ⟨⟨TX12, 51, rfl⟩, m_1953, m_1954, m_1955, m_110, m_1956, by decide +kernel, by decide +kernel, by decide⟩
set_option maxRecDepth 100000 in
theorem m_1183 : Cond.methodLink RL 163 yX11_covers ∈ WL := p_mt5 (i := 126) rfl rfl
set_option maxRecDepth 100000 in
theorem m_1184 : Cond.instanceMethod yX11_covers ∈ WL := p_mt5 (i := 127) rfl rfl
set_option maxRecDepth 100000 in
theorem m_1185 : Cond.selects RX11 yX11_covers yX11_covers ∈ WL := p_mt5 (i := 128) rfl rfl
set_option maxRecDepth 100000 in
theorem m_1186 : Cond.code yX11_covers cX11_covers 2 (some .int) ∈ WL := p_mt5 (i := 129) rfl rfl
set_option maxRecDepth 100000 in
theorem wv_L_163 : MV RL 163 10 yX11_covers cX11_covers 2 (some .int) 1 := ⟨⟨TX11, 11, rfl⟩, m_1183, m_1184, m_1185, m_98, m_1186, by decide +kernel, by decide +kernel, by decide⟩
set_option maxRecDepth 100000 in
theorem m_1961 : Cond.methodLink RL 170 yX12_shares ∈ WL := p_mt8 (i := 184) rfl rfl
set_option maxRecDepth 100000 in
theorem m_1962 : Cond.instanceMethod yX12_shares ∈ WL := p_mt8 (i := 185) rfl rfl
set_option maxRecDepth 100000 in
theorem m_1963 : Cond.selects RX12 yX12_shares yX12_shares ∈ WL := p_mt8 (i := 186) rfl rfl
set_option maxRecDepth 100000 in
theorem m_1964 : Cond.code yX12_shares cX12_shares 3 (some .int) ∈ WL := p_mt8 (i := 187) rfl rfl
set_option maxRecDepth 100000 in
theorem wv_L_170 : MV RL 170 11 yX12_shares cX12_shares 3 (some .int) 1 := ⟨⟨TX12, 51, rfl⟩, m_1961, m_1962, m_1963, m_110, m_1964, by decide +kernel, by decide +kernel, by decide⟩
set_option maxRecDepth 100000 in
theorem m_1197 : Cond.methodLink RL 167 yX11_shares ∈ WL := p_mt5 (i := 140) rfl rfl
set_option maxRecDepth 100000 in
theorem m_1198 : Cond.instanceMethod yX11_shares ∈ WL := p_mt5 (i := 141) rfl rfl
set_option maxRecDepth 100000 in
theorem m_1199 : Cond.selects RX11 yX11_shares yX11_shares ∈ WL := p_mt5 (i := 142) rfl rfl
set_option maxRecDepth 100000 in
theorem m_1200 : Cond.code yX11_shares cX11_shares 2 (some .int) ∈ WL := p_mt5 (i := 143) rfl rfl
set_option maxRecDepth 100000 in
theorem wv_L_167 : MV RL 167 10 yX11_shares cX11_shares 2 (some .int) 1 := ⟨⟨TX11, 11, rfl⟩, m_1197, m_1198, m_1199, m_98, m_1200, by decide +kernel, by decide +kernel, by decide⟩
set_option maxRecDepth 100000 in
theorem m_1973 : Cond.methodLink RL 174 yX12_counter ∈ WL := p_mt8 (i := 196) rfl rfl
set_option maxRecDepth 100000 in
theorem m_1974 : Cond.instanceMethod yX12_counter ∈ WL := p_mt8 (i := 197) rfl rfl
set_option maxRecDepth 100000 in
theorem m_1975 : Cond.selects RX12 yX12_counter yX12_counter ∈ WL := p_mt8 (i := 198) rfl rfl
set_option maxRecDepth 100000 in
theorem m_1976 : Cond.code yX12_counter cX12_counter 5 (some .int) ∈ WL := p_mt8 (i := 199) rfl rfl
set_option maxRecDepth 100000 in
theorem wv_L_174 : MV RL 174 11 yX12_counter cX12_counter 5 (some .int) 2 := ⟨⟨TX12, 51, rfl⟩, m_1973, m_1974, m_1975, m_110, m_1976, by decide +kernel, by decide +kernel, by decide⟩
set_option maxRecDepth 100000 in
theorem m_1225 : Cond.methodLink RL 171 yX11_counter ∈ WL := p_mt5 (i := 168) rfl rfl
set_option maxRecDepth 100000 in
theorem m_1226 : Cond.instanceMethod yX11_counter ∈ WL := p_mt5 (i := 169) rfl rfl
set_option maxRecDepth 100000 in
theorem m_1227 : Cond.selects RX11 yX11_counter yX11_counter ∈ WL := p_mt5 (i := 170) rfl rfl
set_option maxRecDepth 100000 in
theorem m_1228 : Cond.code yX11_counter cX11_counter 6 (some .int) ∈ WL := p_mt5 (i := 171) rfl rfl
set_option maxRecDepth 100000 in
theorem wv_L_171 : MV RL 171 10 yX11_counter cX11_counter 6 (some .int) 2 := ⟨⟨TX11, 11, rfl⟩, m_1225, m_1226, m_1227, m_98, m_1228, by decide +kernel, by decide +kernel, by decide⟩
set_option maxRecDepth 100000 in
theorem m_1981 : Cond.methodLink RL 178 yX12_right ∈ WL := p_mt8 (i := 204) rfl rfl
set_option maxRecDepth 100000 in
theorem m_1982 : Cond.instanceMethod yX12_right ∈ WL := p_mt8 (i := 205) rfl rfl
set_option maxRecDepth 100000 in
theorem m_1983 : Cond.selects RX12 yX12_right yX12_right ∈ WL := p_mt8 (i := 206) rfl rfl
set_option maxRecDepth 100000 in
theorem m_1984 : Cond.code yX12_right cX12_right 3 (some .int) ∈ WL := p_mt8 (i := 207) rfl rfl
set_option maxRecDepth 100000 in
theorem wv_L_178 : MV RL 178 11 yX12_right cX12_right 3 (some .int) 2 := ⟨⟨TX12, 51, rfl⟩, m_1981, m_1982, m_1983, m_110, m_1984, by decide +kernel, by decide +kernel, by decide⟩
set_option maxRecDepth 100000 in
theorem m_1234 : Cond.methodLink RL 175 yX11_right ∈ WL := p_mt5 (i := 177) rfl rfl
set_option maxRecDepth 100000 in
theorem m_1235 : Cond.instanceMethod yX11_right ∈ WL := p_mt5 (i := 178) rfl rfl
set_option maxRecDepth 100000 in
theorem m_1236 : Cond.selects RX11 yX11_right yX11_right ∈ WL := p_mt5 (i := 179) rfl rfl
set_option maxRecDepth 100000 in
theorem m_1237 : Cond.code yX11_right cX11_right 8 (some .int) ∈ WL := p_mt5 (i := 180) rfl rfl
set_option maxRecDepth 100000 in
theorem wv_L_175 : MV RL 175 10 yX11_right cX11_right 8 (some .int) 2 := ⟨⟨TX11, 11, rfl⟩, m_1234, m_1235, m_1236, m_98, m_1237, by decide +kernel, by decide +kernel, by decide⟩
set_option maxRecDepth 100000 in
theorem m_1998 : Cond.methodLink RL 182 yX12_same ∈ WL := p_mt8 (i := 221) rfl rfl
set_option maxRecDepth 100000 in
theorem m_1999 : Cond.instanceMethod yX12_same ∈ WL := p_mt8 (i := 222) rfl rfl
set_option maxRecDepth 100000 in
theorem m_2000 : Cond.selects RX12 yX12_same yX12_same ∈ WL := p_mt8 (i := 223) rfl rfl
set_option maxRecDepth 100000 in
theorem m_2001 : Cond.code yX12_same cX12_same 5 (some .int) ∈ WL := p_mt8 (i := 224) rfl rfl
set_option maxRecDepth 100000 in
theorem wv_L_182 : MV RL 182 11 yX12_same cX12_same 5 (some .int) 1 := ⟨⟨TX12, 51, rfl⟩, m_1998, m_1999, m_2000, m_110, m_2001, by decide +kernel, by decide +kernel, by decide⟩
set_option maxRecDepth 100000 in
theorem m_1245 : Cond.methodLink RL 179 yX11_same ∈ WL := p_mt5 (i := 188) rfl rfl
set_option maxRecDepth 100000 in
theorem m_1246 : Cond.instanceMethod yX11_same ∈ WL := p_mt5 (i := 189) rfl rfl
set_option maxRecDepth 100000 in
theorem m_1247 : Cond.selects RX11 yX11_same yX11_same ∈ WL := p_mt5 (i := 190) rfl rfl
set_option maxRecDepth 100000 in
theorem m_1248 : Cond.code yX11_same cX11_same 6 (some .int) ∈ WL := p_mt5 (i := 191) rfl rfl
set_option maxRecDepth 100000 in
theorem wv_L_179 : MV RL 179 10 yX11_same cX11_same 6 (some .int) 1 := ⟨⟨TX11, 11, rfl⟩, m_1245, m_1246, m_1247, m_98, m_1248, by decide +kernel, by decide +kernel, by decide⟩
set_option maxRecDepth 100000 in
theorem m_2005 : Cond.methodLink RL 186 yX12_rests ∈ WL := p_mt8 (i := 228) rfl rfl
set_option maxRecDepth 100000 in
theorem m_2006 : Cond.instanceMethod yX12_rests ∈ WL := p_mt8 (i := 229) rfl rfl
set_option maxRecDepth 100000 in
theorem m_2007 : Cond.selects RX12 yX12_rests yX12_rests ∈ WL := p_mt8 (i := 230) rfl rfl
set_option maxRecDepth 100000 in
theorem m_2008 : Cond.code yX12_rests cX12_rests 6 (some .int) ∈ WL := p_mt8 (i := 231) rfl rfl
set_option maxRecDepth 100000 in
theorem wv_L_186 : MV RL 186 11 yX12_rests cX12_rests 6 (some .int) 2 := ⟨⟨TX12, 51, rfl⟩, m_2005, m_2006, m_2007, m_110, m_2008, by decide +kernel, by decide +kernel, by decide⟩
set_option maxRecDepth 100000 in
theorem m_1253 : Cond.methodLink RL 183 yX11_rests ∈ WL := p_mt5 (i := 196) rfl rfl
set_option maxRecDepth 100000 in
theorem m_1254 : Cond.instanceMethod yX11_rests ∈ WL := p_mt5 (i := 197) rfl rfl
set_option maxRecDepth 100000 in
theorem m_1255 : Cond.selects RX11 yX11_rests yX11_rests ∈ WL := p_mt5 (i := 198) rfl rfl
set_option maxRecDepth 100000 in
theorem m_1256 : Cond.code yX11_rests cX11_rests 6 (some .int) ∈ WL := p_mt5 (i := 199) rfl rfl
set_option maxRecDepth 100000 in
theorem wv_L_183 : MV RL 183 10 yX11_rests cX11_rests 6 (some .int) 2 := ⟨⟨TX11, 11, rfl⟩, m_1253, m_1254, m_1255, m_98, m_1256, by decide +kernel, by decide +kernel, by decide⟩
set_option maxRecDepth 100000 in
theorem m_2018 : Cond.methodLink RL 190 yX12_law ∈ WL := p_mt9 (i := 1) rfl rfl
set_option maxRecDepth 100000 in
theorem m_2019 : Cond.instanceMethod yX12_law ∈ WL := p_mt9 (i := 2) rfl rfl
set_option maxRecDepth 100000 in
theorem m_2020 : Cond.selects RX12 yX12_law yX12_law ∈ WL := p_mt9 (i := 3) rfl rfl
set_option maxRecDepth 100000 in
theorem m_2021 : Cond.code yX12_law cX12_law 6 (some .int) ∈ WL := p_mt9 (i := 4) rfl rfl
set_option maxRecDepth 100000 in
theorem wv_L_190 : MV RL 190 11 yX12_law cX12_law 6 (some .int) 0 := ⟨⟨TX12, 51, rfl⟩, m_2018, m_2019, m_2020, m_110, m_2021, by decide +kernel, by decide +kernel, by decide⟩
set_option maxRecDepth 100000 in
theorem m_1263 : Cond.methodLink RL 187 yX11_law ∈ WL := p_mt5 (i := 206) rfl rfl
set_option maxRecDepth 100000 in
theorem m_1264 : Cond.instanceMethod yX11_law ∈ WL := p_mt5 (i := 207) rfl rfl
set_option maxRecDepth 100000 in
theorem m_1265 : Cond.selects RX11 yX11_law yX11_law ∈ WL := p_mt5 (i := 208) rfl rfl
set_option maxRecDepth 100000 in
theorem m_1266 : Cond.code yX11_law cX11_law 4 (some .int) ∈ WL := p_mt5 (i := 209) rfl rfl
set_option maxRecDepth 100000 in
theorem wv_L_187 : MV RL 187 10 yX11_law cX11_law 4 (some .int) 0 := ⟨⟨TX11, 11, rfl⟩, m_1263, m_1264, m_1265, m_98, m_1266, by decide +kernel, by decide +kernel, by decide⟩
set_option maxRecDepth 100000 in
theorem m_2026 : Cond.methodLink RL 194 yX12_years ∈ WL := p_mt9 (i := 9) rfl rfl
set_option maxRecDepth 100000 in
theorem m_2027 : Cond.instanceMethod yX12_years ∈ WL := p_mt9 (i := 10) rfl rfl
set_option maxRecDepth 100000 in
theorem m_2028 : Cond.selects RX12 yX12_years yX12_years ∈ WL := p_mt9 (i := 11) rfl rfl
set_option maxRecDepth 100000 in
theorem m_2029 : Cond.code yX12_years cX12_years 7 (some .int) ∈ WL := p_mt9 (i := 12) rfl rfl
set_option maxRecDepth 100000 in
theorem wv_L_194 : MV RL 194 11 yX12_years cX12_years 7 (some .int) 2 := ⟨⟨TX12, 51, rfl⟩, m_2026, m_2027, m_2028, m_110, m_2029, by decide +kernel, by decide +kernel, by decide⟩
set_option maxRecDepth 100000 in
theorem m_1271 : Cond.methodLink RL 191 yX11_years ∈ WL := p_mt5 (i := 214) rfl rfl
set_option maxRecDepth 100000 in
theorem m_1272 : Cond.instanceMethod yX11_years ∈ WL := p_mt5 (i := 215) rfl rfl
set_option maxRecDepth 100000 in
theorem m_1273 : Cond.selects RX11 yX11_years yX11_years ∈ WL := p_mt5 (i := 216) rfl rfl
set_option maxRecDepth 100000 in
theorem m_1274 : Cond.code yX11_years cX11_years 7 (some .int) ∈ WL := p_mt5 (i := 217) rfl rfl
set_option maxRecDepth 100000 in
theorem wv_L_191 : MV RL 191 10 yX11_years cX11_years 7 (some .int) 2 := ⟨⟨TX11, 11, rfl⟩, m_1271, m_1272, m_1273, m_98, m_1274, by decide +kernel, by decide +kernel, by decide⟩
set_option maxRecDepth 100000 in
theorem m_2039 : Cond.methodLink RL 198 yX12_keep ∈ WL := p_mt9 (i := 22) rfl rfl
set_option maxRecDepth 100000 in
theorem m_2040 : Cond.instanceMethod yX12_keep ∈ WL := p_mt9 (i := 23) rfl rfl
set_option maxRecDepth 100000 in
theorem m_2041 : Cond.selects RX12 yX12_keep yX12_keep ∈ WL := p_mt9 (i := 24) rfl rfl
set_option maxRecDepth 100000 in
theorem m_2042 : Cond.code yX12_keep cX12_keep 2 (some .boolean) ∈ WL := p_mt9 (i := 25) rfl rfl
set_option maxRecDepth 100000 in
theorem wv_L_198 : MV RL 198 11 yX12_keep cX12_keep 2 (some .boolean) 1 := ⟨⟨TX12, 51, rfl⟩, m_2039, m_2040, m_2041, m_110, m_2042, by decide +kernel, by decide +kernel, by decide⟩
set_option maxRecDepth 100000 in
theorem m_1290 : Cond.methodLink RL 195 yX11_keep ∈ WL := p_mt5 (i := 233) rfl rfl
set_option maxRecDepth 100000 in
theorem m_1291 : Cond.instanceMethod yX11_keep ∈ WL := p_mt5 (i := 234) rfl rfl
set_option maxRecDepth 100000 in
theorem m_1292 : Cond.selects RX11 yX11_keep yX11_keep ∈ WL := p_mt5 (i := 235) rfl rfl
set_option maxRecDepth 100000 in
theorem m_1293 : Cond.code yX11_keep cX11_keep 2 (some .boolean) ∈ WL := p_mt5 (i := 236) rfl rfl
set_option maxRecDepth 100000 in
theorem wv_L_195 : MV RL 195 10 yX11_keep cX11_keep 2 (some .boolean) 1 := ⟨⟨TX11, 11, rfl⟩, m_1290, m_1291, m_1292, m_98, m_1293, by decide +kernel, by decide +kernel, by decide⟩
set_option maxRecDepth 100000 in
theorem m_2043 : Cond.methodLink RL 202 yX12_again ∈ WL := p_mt9 (i := 26) rfl rfl
set_option maxRecDepth 100000 in
theorem m_2044 : Cond.instanceMethod yX12_again ∈ WL := p_mt9 (i := 27) rfl rfl
set_option maxRecDepth 100000 in
theorem m_2045 : Cond.selects RX12 yX12_again yX12_again ∈ WL := p_mt9 (i := 28) rfl rfl
set_option maxRecDepth 100000 in
theorem m_2046 : Cond.code yX12_again cX12_again 3 (some .boolean) ∈ WL := p_mt9 (i := 29) rfl rfl
set_option maxRecDepth 100000 in
theorem wv_L_202 : MV RL 202 11 yX12_again cX12_again 3 (some .boolean) 1 := ⟨⟨TX12, 51, rfl⟩, m_2043, m_2044, m_2045, m_110, m_2046, by decide +kernel, by decide +kernel, by decide⟩
set_option maxRecDepth 100000 in
theorem m_1299 : Cond.methodLink RL 199 yX11_again ∈ WL := p_mt6 (i := 2) rfl rfl
set_option maxRecDepth 100000 in
theorem m_1300 : Cond.instanceMethod yX11_again ∈ WL := p_mt6 (i := 3) rfl rfl
set_option maxRecDepth 100000 in
theorem m_1301 : Cond.selects RX11 yX11_again yX11_again ∈ WL := p_mt6 (i := 4) rfl rfl
set_option maxRecDepth 100000 in
theorem m_1302 : Cond.code yX11_again cX11_again 2 (some .boolean) ∈ WL := p_mt6 (i := 5) rfl rfl
set_option maxRecDepth 100000 in
theorem wv_L_199 : MV RL 199 10 yX11_again cX11_again 2 (some .boolean) 1 := ⟨⟨TX11, 11, rfl⟩, m_1299, m_1300, m_1301, m_98, m_1302, by decide +kernel, by decide +kernel, by decide⟩
set_option maxRecDepth 100000 in
theorem m_2047 : Cond.methodLink RL 206 yX12_count ∈ WL := p_mt9 (i := 30) rfl rfl
set_option maxRecDepth 100000 in
theorem m_2048 : Cond.instanceMethod yX12_count ∈ WL := p_mt9 (i := 31) rfl rfl
set_option maxRecDepth 100000 in
theorem m_2049 : Cond.selects RX12 yX12_count yX12_count ∈ WL := p_mt9 (i := 32) rfl rfl
set_option maxRecDepth 100000 in
theorem m_2050 : Cond.code yX12_count cX12_count 2 (some .int) ∈ WL := p_mt9 (i := 33) rfl rfl
set_option maxRecDepth 100000 in
theorem wv_L_206 : MV RL 206 11 yX12_count cX12_count 2 (some .int) 1 := ⟨⟨TX12, 51, rfl⟩, m_2047, m_2048, m_2049, m_110, m_2050, by decide +kernel, by decide +kernel, by decide⟩
set_option maxRecDepth 100000 in
theorem m_1308 : Cond.methodLink RL 203 yX11_count ∈ WL := p_mt6 (i := 11) rfl rfl
set_option maxRecDepth 100000 in
theorem m_1309 : Cond.instanceMethod yX11_count ∈ WL := p_mt6 (i := 12) rfl rfl
set_option maxRecDepth 100000 in
theorem m_1310 : Cond.selects RX11 yX11_count yX11_count ∈ WL := p_mt6 (i := 13) rfl rfl
set_option maxRecDepth 100000 in
theorem m_1311 : Cond.code yX11_count cX11_count 2 (some .int) ∈ WL := p_mt6 (i := 14) rfl rfl
set_option maxRecDepth 100000 in
theorem wv_L_203 : MV RL 203 10 yX11_count cX11_count 2 (some .int) 1 := ⟨⟨TX11, 11, rfl⟩, m_1308, m_1309, m_1310, m_98, m_1311, by decide +kernel, by decide +kernel, by decide⟩
set_option maxRecDepth 100000 in
theorem m_2051 : Cond.methodLink RL 210 yX12_row ∈ WL := p_mt9 (i := 34) rfl rfl
set_option maxRecDepth 100000 in
theorem m_2052 : Cond.instanceMethod yX12_row ∈ WL := p_mt9 (i := 35) rfl rfl
set_option maxRecDepth 100000 in
theorem m_2053 : Cond.selects RX12 yX12_row yX12_row ∈ WL := p_mt9 (i := 36) rfl rfl
set_option maxRecDepth 100000 in
theorem m_2054 : Cond.code yX12_row cX12_row 2 (some .long) ∈ WL := p_mt9 (i := 37) rfl rfl
set_option maxRecDepth 100000 in
theorem wv_L_210 : MV RL 210 11 yX12_row cX12_row 2 (some .long) 1 := ⟨⟨TX12, 51, rfl⟩, m_2051, m_2052, m_2053, m_110, m_2054, by decide +kernel, by decide +kernel, by decide⟩
set_option maxRecDepth 100000 in
theorem m_1408 : Cond.methodLink RL 207 yL_row ∈ WL := p_mt6 (i := 111) rfl rfl
set_option maxRecDepth 100000 in
theorem m_1409 : Cond.static yL_row ∈ WL := p_mt6 (i := 112) rfl rfl
set_option maxRecDepth 100000 in
theorem m_1410 : Cond.codeWith yL_row cL_row 4 (some .int) [(0, 8, 11, 13)] ∈ WL := p_mt6 (i := 113) rfl rfl
set_option maxRecDepth 100000 in
theorem wx_L_207 : ML9 RL 207 yL_row cL_row 4 (some .int) [(0, 8, 11, 13)] 3 := ⟨m_1408, m_1409, m_97, m_1410, by decide +kernel, by decide +kernel, by decide⟩
def fLc_0 (xs : Nat → Int32) (L o1 o2 o3 : Nat) (i4 : Int32) (rc : Int32 → PH → Option (Unit × PH)) (h : PH) : Option (Unit × PH) := s_rd xs L (i4 + (1 : Int32)) fun x1 => (h_ck 10 h o1).bind fun _ => h_bd (fX11_sign o1 x1 h) fun x2 h3 => s_rd xs L (i4 + (1 : Int32)) fun x4 => (h_ck 11 h3 o2).bind fun _ => h_bd (fX12_sign o2 x4 h3) fun x5 h6 => if x2 = x5 then (letE (i4 + (5 : Int32)) fun x7 => rc x7 h6) else (none)
def fLc_1 (xs : Nat → Int32) (L o1 o2 o3 : Nat) (i4 : Int32) (rc : Int32 → PH → Option (Unit × PH)) (h : PH) : Option (Unit × PH) := s_rd xs L (i4 + (1 : Int32)) fun x1 => (h_ck 10 h o1).bind fun _ => h_bd (fX11_end o1 x1 h) fun x2 h3 => s_rd xs L (i4 + (1 : Int32)) fun x4 => (h_ck 11 h3 o2).bind fun _ => h_bd (fX12_end o2 x4 h3) fun x5 h6 => if x2 = x5 then (letE (i4 + (5 : Int32)) fun x7 => rc x7 h6) else (none)
def fLc_2 (xs : Nat → Int32) (L o1 o2 o3 : Nat) (i4 : Int32) (rc : Int32 → PH → Option (Unit × PH)) (h : PH) : Option (Unit × PH) := (h_ck 10 h o1).bind fun _ => h_bd (fX11_grounds o1 h) fun x1 h2 => (h_ck 11 h2 o2).bind fun _ => h_bd (fX12_grounds o2 h2) fun x3 h4 => if x1 = x3 then (letE (i4 + (5 : Int32)) fun x5 => rc x5 h4) else (none)
def fLc_3 (xs : Nat → Int32) (L o1 o2 o3 : Nat) (i4 : Int32) (rc : Int32 → PH → Option (Unit × PH)) (h : PH) : Option (Unit × PH) := (h_ck 10 h o1).bind fun _ => h_bd (fX11_people o1 h) fun x1 h2 => (h_ck 11 h2 o2).bind fun _ => h_bd (fX12_people o2 h2) fun x3 h4 => if x1 = x3 then (letE (i4 + (5 : Int32)) fun x5 => rc x5 h4) else (none)
def fLc_4 (xs : Nat → Int32) (L o1 o2 o3 : Nat) (i4 : Int32) (rc : Int32 → PH → Option (Unit × PH)) (h : PH) : Option (Unit × PH) := (h_ck 10 h o1).bind fun _ => h_bd (fX11_wants o1 h) fun x1 h2 => (h_ck 11 h2 o2).bind fun _ => h_bd (fX12_wants o2 h2) fun x3 h4 => if x1 = x3 then (letE (i4 + (5 : Int32)) fun x5 => rc x5 h4) else (none)
def fLc_5 (xs : Nat → Int32) (L o1 o2 o3 : Nat) (i4 : Int32) (rc : Int32 → PH → Option (Unit × PH)) (h : PH) : Option (Unit × PH) := (h_ck 10 h o1).bind fun _ => h_bd (fX11_rule o1 h) fun x1 h2 => (h_ck 11 h2 o2).bind fun _ => h_bd (fX12_rule o2 h2) fun x3 h4 => if x1 = x3 then (letE (i4 + (5 : Int32)) fun x5 => rc x5 h4) else (none)
def fLc_6 (xs : Nat → Int32) (L o1 o2 o3 : Nat) (i4 : Int32) (rc : Int32 → PH → Option (Unit × PH)) (h : PH) : Option (Unit × PH) := s_rd xs L (i4 + (1 : Int32)) fun x1 => s_rd xs L (i4 + (2 : Int32)) fun x2 => h_bd (fL_ground o1 x1 x2 o3 h) fun x3 h4 => s_rd xs L (i4 + (1 : Int32)) fun x5 => s_rd xs L (i4 + (2 : Int32)) fun x6 => (h_ck 11 h4 o2).bind fun _ => h_bd (fX12_ground o2 x5 x6 h4) fun x7 h8 => (h_ck 11 h8 o2).bind fun _ => h_bd (fX12_thrown o2 h8) fun x9 h10 => if x9 = x3 then (if x3 = 0 then ((h_lld h10 o3 (0 : Int32)).bind fun y12 => if (lg_cmp y12 (x7.toInt64)) = 0 then (letE (i4 + (5 : Int32)) fun x13 => rc x13 h10) else (none)) else (letE (i4 + (5 : Int32)) fun x11 => rc x11 h10)) else (none)
def fLc_7 (xs : Nat → Int32) (L o1 o2 o3 : Nat) (i4 : Int32) (rc : Int32 → PH → Option (Unit × PH)) (h : PH) : Option (Unit × PH) := s_rd xs L (i4 + (1 : Int32)) fun x1 => s_rd xs L (i4 + (2 : Int32)) fun x2 => h_bd (fL_person o1 x1 x2 o3 h) fun x3 h4 => s_rd xs L (i4 + (1 : Int32)) fun x5 => s_rd xs L (i4 + (2 : Int32)) fun x6 => (h_ck 11 h4 o2).bind fun _ => h_bd (fX12_person o2 x5 x6 h4) fun x7 h8 => (h_ck 11 h8 o2).bind fun _ => h_bd (fX12_thrown o2 h8) fun x9 h10 => if x9 = x3 then (if x3 = 0 then ((h_lld h10 o3 (0 : Int32)).bind fun y12 => if (lg_cmp y12 (x7.toInt64)) = 0 then (letE (i4 + (5 : Int32)) fun x13 => rc x13 h10) else (none)) else (letE (i4 + (5 : Int32)) fun x11 => rc x11 h10)) else (none)
def fLc_8 (xs : Nat → Int32) (L o1 o2 o3 : Nat) (i4 : Int32) (rc : Int32 → PH → Option (Unit × PH)) (h : PH) : Option (Unit × PH) := s_rd xs L (i4 + (1 : Int32)) fun x1 => s_rd xs L (i4 + (2 : Int32)) fun x2 => (h_ck 10 h o1).bind fun _ => h_bd (fX11_held o1 x1 x2 h) fun x3 h4 => s_rd xs L (i4 + (1 : Int32)) fun x5 => s_rd xs L (i4 + (2 : Int32)) fun x6 => (h_ck 11 h4 o2).bind fun _ => h_bd (fX12_held o2 x5 x6 h4) fun x7 h8 => if x3 = x7 then (letE (i4 + (5 : Int32)) fun x9 => rc x9 h8) else (none)
def fLc_9 (xs : Nat → Int32) (L o1 o2 o3 : Nat) (i4 : Int32) (rc : Int32 → PH → Option (Unit × PH)) (h : PH) : Option (Unit × PH) := s_rd xs L (i4 + (1 : Int32)) fun x1 => s_rd xs L (i4 + (2 : Int32)) fun x2 => s_rd xs L (i4 + (3 : Int32)) fun x3 => s_rd xs L (i4 + (4 : Int32)) fun x4 => (h_ck 10 h o1).bind fun _ => h_bd (fX11_sheet o1 x1 x2 x3 x4 h) fun x5 h6 => s_rd xs L (i4 + (1 : Int32)) fun x7 => s_rd xs L (i4 + (2 : Int32)) fun x8 => s_rd xs L (i4 + (3 : Int32)) fun x9 => s_rd xs L (i4 + (4 : Int32)) fun x10 => (h_ck 11 h6 o2).bind fun _ => h_bd (fX12_sheet o2 x7 x8 x9 x10 h6) fun x11 h12 => if x5 = x11 then (letE (i4 + (5 : Int32)) fun x13 => rc x13 h12) else (none)
def fLc_10 (xs : Nat → Int32) (L o1 o2 o3 : Nat) (i4 : Int32) (rc : Int32 → PH → Option (Unit × PH)) (h : PH) : Option (Unit × PH) := s_rd xs L (i4 + (1 : Int32)) fun x1 => s_rd xs L (i4 + (2 : Int32)) fun x2 => (h_ck 10 h o1).bind fun _ => h_bd (fX11_gives o1 x1 x2 h) fun x3 h4 => s_rd xs L (i4 + (1 : Int32)) fun x5 => s_rd xs L (i4 + (2 : Int32)) fun x6 => (h_ck 11 h4 o2).bind fun _ => h_bd (fX12_gives o2 x5 x6 h4) fun x7 h8 => if x3 = x7 then (letE (i4 + (5 : Int32)) fun x9 => rc x9 h8) else (none)
def fLc_11 (xs : Nat → Int32) (L o1 o2 o3 : Nat) (i4 : Int32) (rc : Int32 → PH → Option (Unit × PH)) (h : PH) : Option (Unit × PH) := s_rd xs L (i4 + (1 : Int32)) fun x1 => s_rd xs L (i4 + (2 : Int32)) fun x2 => (h_ck 10 h o1).bind fun _ => h_bd (fX11_takesBack o1 x1 x2 h) fun x3 h4 => s_rd xs L (i4 + (1 : Int32)) fun x5 => s_rd xs L (i4 + (2 : Int32)) fun x6 => (h_ck 11 h4 o2).bind fun _ => h_bd (fX12_takesBack o2 x5 x6 h4) fun x7 h8 => if x3 = x7 then (letE (i4 + (5 : Int32)) fun x9 => rc x9 h8) else (none)
def fLc_12 (xs : Nat → Int32) (L o1 o2 o3 : Nat) (i4 : Int32) (rc : Int32 → PH → Option (Unit × PH)) (h : PH) : Option (Unit × PH) := s_rd xs L (i4 + (1 : Int32)) fun x1 => s_rd xs L (i4 + (2 : Int32)) fun x2 => (h_ck 10 h o1).bind fun _ => h_bd (fX11_makes o1 x1 x2 h) fun x3 h4 => s_rd xs L (i4 + (1 : Int32)) fun x5 => s_rd xs L (i4 + (2 : Int32)) fun x6 => (h_ck 11 h4 o2).bind fun _ => h_bd (fX12_makes o2 x5 x6 h4) fun x7 h8 => if x3 = x7 then (letE (i4 + (5 : Int32)) fun x9 => rc x9 h8) else (none)
def fLc_13 (xs : Nat → Int32) (L o1 o2 o3 : Nat) (i4 : Int32) (rc : Int32 → PH → Option (Unit × PH)) (h : PH) : Option (Unit × PH) := s_rd xs L (i4 + (1 : Int32)) fun x1 => (h_ck 10 h o1).bind fun _ => h_bd (fX11_days o1 x1 h) fun x2 h3 => s_rd xs L (i4 + (1 : Int32)) fun x4 => (h_ck 11 h3 o2).bind fun _ => h_bd (fX12_days o2 x4 h3) fun x5 h6 => if x2 = x5 then (letE (i4 + (5 : Int32)) fun x7 => rc x7 h6) else (none)
def fLc_14 (xs : Nat → Int32) (L o1 o2 o3 : Nat) (i4 : Int32) (rc : Int32 → PH → Option (Unit × PH)) (h : PH) : Option (Unit × PH) := (h_ck 10 h o1).bind fun _ => h_bd (fX11_year o1 h) fun x1 h2 => (h_ck 11 h2 o2).bind fun _ => h_bd (fX12_year o2 h2) fun x3 h4 => if x1 = x3 then (letE (i4 + (5 : Int32)) fun x5 => rc x5 h4) else (none)
def fLc_15 (xs : Nat → Int32) (L o1 o2 o3 : Nat) (i4 : Int32) (rc : Int32 → PH → Option (Unit × PH)) (h : PH) : Option (Unit × PH) := (h_ck 10 h o1).bind fun _ => h_bd (fX11_undo o1 h) fun x1 h2 => (h_ck 11 h2 o2).bind fun _ => h_bd (fX12_undo o2 h2) fun x3 h4 => if x1 = x3 then (letE (i4 + (5 : Int32)) fun x5 => rc x5 h4) else (none)
def fLc_16 (xs : Nat → Int32) (L o1 o2 o3 : Nat) (i4 : Int32) (rc : Int32 → PH → Option (Unit × PH)) (h : PH) : Option (Unit × PH) := s_rd xs L (i4 + (1 : Int32)) fun x1 => s_rd xs L (i4 + (2 : Int32)) fun x2 => s_rd xs L (i4 + (3 : Int32)) fun x3 => (h_ck 10 h o1).bind fun _ => h_bd (fX11_later o1 x1 x2 x3 h) fun x4 h5 => s_rd xs L (i4 + (1 : Int32)) fun x6 => s_rd xs L (i4 + (2 : Int32)) fun x7 => s_rd xs L (i4 + (3 : Int32)) fun x8 => (h_ck 11 h5 o2).bind fun _ => h_bd (fX12_later o2 x6 x7 x8 h5) fun x9 h10 => if x4 = x9 then (letE (i4 + (5 : Int32)) fun x11 => rc x11 h10) else (none)
def fLc_17 (xs : Nat → Int32) (L o1 o2 o3 : Nat) (i4 : Int32) (rc : Int32 → PH → Option (Unit × PH)) (h : PH) : Option (Unit × PH) := s_rd xs L (i4 + (1 : Int32)) fun x1 => (h_ck 10 h o1).bind fun _ => h_bd (fX11_settles o1 x1 h) fun x2 h3 => s_rd xs L (i4 + (1 : Int32)) fun x4 => (h_ck 11 h3 o2).bind fun _ => h_bd (fX12_settles o2 x4 h3) fun x5 h6 => if x2 = x5 then (letE (i4 + (5 : Int32)) fun x7 => rc x7 h6) else (none)
def fLc_18 (xs : Nat → Int32) (L o1 o2 o3 : Nat) (i4 : Int32) (rc : Int32 → PH → Option (Unit × PH)) (h : PH) : Option (Unit × PH) := s_rd xs L (i4 + (1 : Int32)) fun x1 => s_rd xs L (i4 + (2 : Int32)) fun x2 => (h_ck 10 h o1).bind fun _ => h_bd (fX11_when o1 x1 x2 h) fun x3 h4 => s_rd xs L (i4 + (1 : Int32)) fun x5 => s_rd xs L (i4 + (2 : Int32)) fun x6 => (h_ck 11 h4 o2).bind fun _ => h_bd (fX12_when o2 x5 x6 h4) fun x7 h8 => if x3 = x7 then (letE (i4 + (5 : Int32)) fun x9 => rc x9 h8) else (none)
def fLc_19 (xs : Nat → Int32) (L o1 o2 o3 : Nat) (i4 : Int32) (rc : Int32 → PH → Option (Unit × PH)) (h : PH) : Option (Unit × PH) := s_rd xs L (i4 + (1 : Int32)) fun x1 => s_rd xs L (i4 + (2 : Int32)) fun x2 => (h_ck 10 h o1).bind fun _ => h_bd (fX11_lacks o1 x1 x2 h) fun x3 h4 => s_rd xs L (i4 + (1 : Int32)) fun x5 => s_rd xs L (i4 + (2 : Int32)) fun x6 => (h_ck 11 h4 o2).bind fun _ => h_bd (fX12_lacks o2 x5 x6 h4) fun x7 h8 => if x3 = x7 then (letE (i4 + (5 : Int32)) fun x9 => rc x9 h8) else (none)
def fLc_20 (xs : Nat → Int32) (L o1 o2 o3 : Nat) (i4 : Int32) (rc : Int32 → PH → Option (Unit × PH)) (h : PH) : Option (Unit × PH) := (h_ck 10 h o1).bind fun _ => h_bd (fX11_richest o1 h) fun x1 h2 => (h_ck 11 h2 o2).bind fun _ => h_bd (fX12_richest o2 h2) fun x3 h4 => if x1 = x3 then (letE (i4 + (5 : Int32)) fun x5 => rc x5 h4) else (none)
def fLc_21 (xs : Nat → Int32) (L o1 o2 o3 : Nat) (i4 : Int32) (rc : Int32 → PH → Option (Unit × PH)) (h : PH) : Option (Unit × PH) := s_rd xs L (i4 + (1 : Int32)) fun x1 => s_rd xs L (i4 + (2 : Int32)) fun x2 => s_rd xs L (i4 + (3 : Int32)) fun x3 => (h_ck 10 h o1).bind fun _ => h_bd (fX11_apart o1 x1 x2 x3 h) fun x4 h5 => s_rd xs L (i4 + (1 : Int32)) fun x6 => s_rd xs L (i4 + (2 : Int32)) fun x7 => s_rd xs L (i4 + (3 : Int32)) fun x8 => (h_ck 11 h5 o2).bind fun _ => h_bd (fX12_apart o2 x6 x7 x8 h5) fun x9 h10 => if x4 = x9 then (letE (i4 + (5 : Int32)) fun x11 => rc x11 h10) else (none)
def fLc_22 (xs : Nat → Int32) (L o1 o2 o3 : Nat) (i4 : Int32) (rc : Int32 → PH → Option (Unit × PH)) (h : PH) : Option (Unit × PH) := s_rd xs L (i4 + (1 : Int32)) fun x1 => s_rd xs L (i4 + (2 : Int32)) fun x2 => s_rd xs L (i4 + (3 : Int32)) fun x3 => (h_ck 10 h o1).bind fun _ => h_bd (fX11_fewest o1 x1 x2 x3 h) fun x4 h5 => s_rd xs L (i4 + (1 : Int32)) fun x6 => s_rd xs L (i4 + (2 : Int32)) fun x7 => s_rd xs L (i4 + (3 : Int32)) fun x8 => (h_ck 11 h5 o2).bind fun _ => h_bd (fX12_fewest o2 x6 x7 x8 h5) fun x9 h10 => if x4 = x9 then (letE (i4 + (5 : Int32)) fun x11 => rc x11 h10) else (none)
def fLc_23 (xs : Nat → Int32) (L o1 o2 o3 : Nat) (i4 : Int32) (rc : Int32 → PH → Option (Unit × PH)) (h : PH) : Option (Unit × PH) := s_rd xs L (i4 + (1 : Int32)) fun x1 => s_rd xs L (i4 + (2 : Int32)) fun x2 => (h_ck 10 h o1).bind fun _ => h_bd (fX11_serves o1 x1 x2 h) fun x3 h4 => s_rd xs L (i4 + (1 : Int32)) fun x5 => s_rd xs L (i4 + (2 : Int32)) fun x6 => (h_ck 11 h4 o2).bind fun _ => h_bd (fX12_serves o2 x5 x6 h4) fun x7 h8 => if x3 = x7 then (letE (i4 + (5 : Int32)) fun x9 => rc x9 h8) else (none)
def fLc_24 (xs : Nat → Int32) (L o1 o2 o3 : Nat) (i4 : Int32) (rc : Int32 → PH → Option (Unit × PH)) (h : PH) : Option (Unit × PH) := s_rd xs L (i4 + (1 : Int32)) fun x1 => s_rd xs L (i4 + (2 : Int32)) fun x2 => (h_ck 10 h o1).bind fun _ => h_bd (fX11_burdens o1 x1 x2 h) fun x3 h4 => s_rd xs L (i4 + (1 : Int32)) fun x5 => s_rd xs L (i4 + (2 : Int32)) fun x6 => (h_ck 11 h4 o2).bind fun _ => h_bd (fX12_burdens o2 x5 x6 h4) fun x7 h8 => if x3 = x7 then (letE (i4 + (5 : Int32)) fun x9 => rc x9 h8) else (none)
def fLc_25 (xs : Nat → Int32) (L o1 o2 o3 : Nat) (i4 : Int32) (rc : Int32 → PH → Option (Unit × PH)) (h : PH) : Option (Unit × PH) := s_rd xs L (i4 + (1 : Int32)) fun x1 => (h_ck 10 h o1).bind fun _ => h_bd (fX11_quarrels o1 x1 h) fun x2 h3 => s_rd xs L (i4 + (1 : Int32)) fun x4 => (h_ck 11 h3 o2).bind fun _ => h_bd (fX12_quarrels o2 x4 h3) fun x5 h6 => if x2 = x5 then (letE (i4 + (5 : Int32)) fun x7 => rc x7 h6) else (none)
def fLc_26 (xs : Nat → Int32) (L o1 o2 o3 : Nat) (i4 : Int32) (rc : Int32 → PH → Option (Unit × PH)) (h : PH) : Option (Unit × PH) := s_rd xs L (i4 + (1 : Int32)) fun x1 => (h_ck 10 h o1).bind fun _ => h_bd (fX11_peace o1 x1 h) fun x2 h3 => s_rd xs L (i4 + (1 : Int32)) fun x4 => (h_ck 11 h3 o2).bind fun _ => h_bd (fX12_peace o2 x4 h3) fun x5 h6 => if x2 = x5 then (letE (i4 + (5 : Int32)) fun x7 => rc x7 h6) else (none)
def fLc_27 (xs : Nat → Int32) (L o1 o2 o3 : Nat) (i4 : Int32) (rc : Int32 → PH → Option (Unit × PH)) (h : PH) : Option (Unit × PH) := s_rd xs L (i4 + (1 : Int32)) fun x1 => (h_ck 10 h o1).bind fun _ => h_bd (fX11_pulls o1 x1 h) fun x2 h3 => s_rd xs L (i4 + (1 : Int32)) fun x4 => (h_ck 11 h3 o2).bind fun _ => h_bd (fX12_pulls o2 x4 h3) fun x5 h6 => if x2 = x5 then (letE (i4 + (5 : Int32)) fun x7 => rc x7 h6) else (none)
def fLc_28 (xs : Nat → Int32) (L o1 o2 o3 : Nat) (i4 : Int32) (rc : Int32 → PH → Option (Unit × PH)) (h : PH) : Option (Unit × PH) := s_rd xs L (i4 + (1 : Int32)) fun x1 => s_rd xs L (i4 + (2 : Int32)) fun x2 => s_rd xs L (i4 + (3 : Int32)) fun x3 => (h_ck 10 h o1).bind fun _ => h_bd (fX11_seen o1 x1 x2 x3 h) fun x4 h5 => s_rd xs L (i4 + (1 : Int32)) fun x6 => s_rd xs L (i4 + (2 : Int32)) fun x7 => s_rd xs L (i4 + (3 : Int32)) fun x8 => (h_ck 11 h5 o2).bind fun _ => h_bd (fX12_seen o2 x6 x7 x8 h5) fun x9 h10 => if x4 = x9 then (letE (i4 + (5 : Int32)) fun x11 => rc x11 h10) else (none)
def fLc_29 (xs : Nat → Int32) (L o1 o2 o3 : Nat) (i4 : Int32) (rc : Int32 → PH → Option (Unit × PH)) (h : PH) : Option (Unit × PH) := (h_ck 10 h o1).bind fun _ => h_bd (fX11_forget o1 h) fun x1 h2 => (h_ck 11 h2 o2).bind fun _ => h_bd (fX12_forget o2 h2) fun x3 h4 => if x1 = x3 then (letE (i4 + (5 : Int32)) fun x5 => rc x5 h4) else (none)
def fLc_30 (xs : Nat → Int32) (L o1 o2 o3 : Nat) (i4 : Int32) (rc : Int32 → PH → Option (Unit × PH)) (h : PH) : Option (Unit × PH) := s_rd xs L (i4 + (1 : Int32)) fun x1 => (h_ck 10 h o1).bind fun _ => h_bd (fX11_fits o1 x1 h) fun x2 h3 => s_rd xs L (i4 + (1 : Int32)) fun x4 => (h_ck 11 h3 o2).bind fun _ => h_bd (fX12_fits o2 x4 h3) fun x5 h6 => if x2 = x5 then (letE (i4 + (5 : Int32)) fun x7 => rc x7 h6) else (none)
def fLc_31 (xs : Nat → Int32) (L o1 o2 o3 : Nat) (i4 : Int32) (rc : Int32 → PH → Option (Unit × PH)) (h : PH) : Option (Unit × PH) := s_rd xs L (i4 + (1 : Int32)) fun x1 => s_rd xs L (i4 + (2 : Int32)) fun x2 => (h_ck 10 h o1).bind fun _ => h_bd (fX11_looks o1 x1 x2 h) fun x3 h4 => s_rd xs L (i4 + (1 : Int32)) fun x5 => s_rd xs L (i4 + (2 : Int32)) fun x6 => (h_ck 11 h4 o2).bind fun _ => h_bd (fX12_looks o2 x5 x6 h4) fun x7 h8 => if x3 = x7 then (letE (i4 + (5 : Int32)) fun x9 => rc x9 h8) else (none)
def fLc_32 (xs : Nat → Int32) (L o1 o2 o3 : Nat) (i4 : Int32) (rc : Int32 → PH → Option (Unit × PH)) (h : PH) : Option (Unit × PH) := s_rd xs L (i4 + (1 : Int32)) fun x1 => (h_ck 10 h o1).bind fun _ => h_bd (fX11_covers o1 x1 h) fun x2 h3 => s_rd xs L (i4 + (1 : Int32)) fun x4 => (h_ck 11 h3 o2).bind fun _ => h_bd (fX12_covers o2 x4 h3) fun x5 h6 => if x2 = x5 then (letE (i4 + (5 : Int32)) fun x7 => rc x7 h6) else (none)
def fLc_33 (xs : Nat → Int32) (L o1 o2 o3 : Nat) (i4 : Int32) (rc : Int32 → PH → Option (Unit × PH)) (h : PH) : Option (Unit × PH) := s_rd xs L (i4 + (1 : Int32)) fun x1 => (h_ck 10 h o1).bind fun _ => h_bd (fX11_shares o1 x1 h) fun x2 h3 => s_rd xs L (i4 + (1 : Int32)) fun x4 => (h_ck 11 h3 o2).bind fun _ => h_bd (fX12_shares o2 x4 h3) fun x5 h6 => if x2 = x5 then (letE (i4 + (5 : Int32)) fun x7 => rc x7 h6) else (none)
def fLc_34 (xs : Nat → Int32) (L o1 o2 o3 : Nat) (i4 : Int32) (rc : Int32 → PH → Option (Unit × PH)) (h : PH) : Option (Unit × PH) := s_rd xs L (i4 + (1 : Int32)) fun x1 => s_rd xs L (i4 + (2 : Int32)) fun x2 => (h_ck 10 h o1).bind fun _ => h_bd (fX11_counter o1 x1 x2 h) fun x3 h4 => s_rd xs L (i4 + (1 : Int32)) fun x5 => s_rd xs L (i4 + (2 : Int32)) fun x6 => (h_ck 11 h4 o2).bind fun _ => h_bd (fX12_counter o2 x5 x6 h4) fun x7 h8 => if x3 = x7 then (letE (i4 + (5 : Int32)) fun x9 => rc x9 h8) else (none)
def fLc_35 (xs : Nat → Int32) (L o1 o2 o3 : Nat) (i4 : Int32) (rc : Int32 → PH → Option (Unit × PH)) (h : PH) : Option (Unit × PH) := s_rd xs L (i4 + (1 : Int32)) fun x1 => s_rd xs L (i4 + (2 : Int32)) fun x2 => (h_ck 10 h o1).bind fun _ => h_bd (fX11_right o1 x1 x2 h) fun x3 h4 => s_rd xs L (i4 + (1 : Int32)) fun x5 => s_rd xs L (i4 + (2 : Int32)) fun x6 => (h_ck 11 h4 o2).bind fun _ => h_bd (fX12_right o2 x5 x6 h4) fun x7 h8 => if x3 = x7 then (letE (i4 + (5 : Int32)) fun x9 => rc x9 h8) else (none)
def fLc_36 (xs : Nat → Int32) (L o1 o2 o3 : Nat) (i4 : Int32) (rc : Int32 → PH → Option (Unit × PH)) (h : PH) : Option (Unit × PH) := s_rd xs L (i4 + (1 : Int32)) fun x1 => (h_ck 10 h o1).bind fun _ => h_bd (fX11_same o1 x1 h) fun x2 h3 => s_rd xs L (i4 + (1 : Int32)) fun x4 => (h_ck 11 h3 o2).bind fun _ => h_bd (fX12_same o2 x4 h3) fun x5 h6 => if x2 = x5 then (letE (i4 + (5 : Int32)) fun x7 => rc x7 h6) else (none)
def fLc_37 (xs : Nat → Int32) (L o1 o2 o3 : Nat) (i4 : Int32) (rc : Int32 → PH → Option (Unit × PH)) (h : PH) : Option (Unit × PH) := s_rd xs L (i4 + (1 : Int32)) fun x1 => s_rd xs L (i4 + (2 : Int32)) fun x2 => (h_ck 10 h o1).bind fun _ => h_bd (fX11_rests o1 x1 x2 h) fun x3 h4 => s_rd xs L (i4 + (1 : Int32)) fun x5 => s_rd xs L (i4 + (2 : Int32)) fun x6 => (h_ck 11 h4 o2).bind fun _ => h_bd (fX12_rests o2 x5 x6 h4) fun x7 h8 => if x3 = x7 then (letE (i4 + (5 : Int32)) fun x9 => rc x9 h8) else (none)
def fLc_38 (xs : Nat → Int32) (L o1 o2 o3 : Nat) (i4 : Int32) (rc : Int32 → PH → Option (Unit × PH)) (h : PH) : Option (Unit × PH) := (h_ck 10 h o1).bind fun _ => h_bd (fX11_law o1 h) fun x1 h2 => (h_ck 11 h2 o2).bind fun _ => h_bd (fX12_law o2 h2) fun x3 h4 => if x1 = x3 then (letE (i4 + (5 : Int32)) fun x5 => rc x5 h4) else (none)
def fLc_39 (xs : Nat → Int32) (L o1 o2 o3 : Nat) (i4 : Int32) (rc : Int32 → PH → Option (Unit × PH)) (h : PH) : Option (Unit × PH) := s_rd xs L (i4 + (1 : Int32)) fun x1 => s_rd xs L (i4 + (2 : Int32)) fun x2 => (h_ck 10 h o1).bind fun _ => h_bd (fX11_years o1 x1 x2 h) fun x3 h4 => s_rd xs L (i4 + (1 : Int32)) fun x5 => s_rd xs L (i4 + (2 : Int32)) fun x6 => (h_ck 11 h4 o2).bind fun _ => h_bd (fX12_years o2 x5 x6 h4) fun x7 h8 => if x3 = x7 then (letE (i4 + (5 : Int32)) fun x9 => rc x9 h8) else (none)
def fLc_40 (xs : Nat → Int32) (L o1 o2 o3 : Nat) (i4 : Int32) (rc : Int32 → PH → Option (Unit × PH)) (h : PH) : Option (Unit × PH) := s_rd xs L (i4 + (1 : Int32)) fun x1 => (h_ck 10 h o1).bind fun _ => h_bd (fX11_keep o1 x1 h) fun x2 h3 => s_rd xs L (i4 + (1 : Int32)) fun x4 => (h_ck 11 h3 o2).bind fun _ => h_bd (fX12_keep o2 x4 h3) fun x5 h6 => if x2 = x5 then (letE (i4 + (5 : Int32)) fun x7 => rc x7 h6) else (none)
def fLc_41 (xs : Nat → Int32) (L o1 o2 o3 : Nat) (i4 : Int32) (rc : Int32 → PH → Option (Unit × PH)) (h : PH) : Option (Unit × PH) := s_rd xs L (i4 + (1 : Int32)) fun x1 => (h_ck 10 h o1).bind fun _ => h_bd (fX11_again o1 x1 h) fun x2 h3 => s_rd xs L (i4 + (1 : Int32)) fun x4 => (h_ck 11 h3 o2).bind fun _ => h_bd (fX12_again o2 x4 h3) fun x5 h6 => if x2 = x5 then (letE (i4 + (5 : Int32)) fun x7 => rc x7 h6) else (none)
def fLc_42 (xs : Nat → Int32) (L o1 o2 o3 : Nat) (i4 : Int32) (rc : Int32 → PH → Option (Unit × PH)) (h : PH) : Option (Unit × PH) := s_rd xs L (i4 + (1 : Int32)) fun x1 => (h_ck 10 h o1).bind fun _ => h_bd (fX11_count o1 x1 h) fun x2 h3 => s_rd xs L (i4 + (1 : Int32)) fun x4 => (h_ck 11 h3 o2).bind fun _ => h_bd (fX12_count o2 x4 h3) fun x5 h6 => if x2 = x5 then (letE (i4 + (5 : Int32)) fun x7 => rc x7 h6) else (none)
def fLc_43 (xs : Nat → Int32) (L o1 o2 o3 : Nat) (i4 : Int32) (rc : Int32 → PH → Option (Unit × PH)) (h : PH) : Option (Unit × PH) := s_rd xs L (i4 + (1 : Int32)) fun x1 => h_bd (fL_row o1 x1 o3 h) fun x2 h3 => s_rd xs L (i4 + (1 : Int32)) fun x4 => (h_ck 11 h3 o2).bind fun _ => h_bd (fX12_row o2 x4 h3) fun y5 h6 => (h_ck 11 h6 o2).bind fun _ => h_bd (fX12_thrown o2 h6) fun x7 h8 => if x7 = x2 then (if x2 = 0 then ((h_lld h8 o3 (0 : Int32)).bind fun y10 => if (lg_cmp y10 y5) = 0 then (letE (i4 + (5 : Int32)) fun x11 => rc x11 h8) else (none)) else (letE (i4 + (5 : Int32)) fun x9 => rc x9 h8)) else (none)
set_option maxRecDepth 100000 in
set_option maxHeartbeats 4000000 in
theorem tLc_0 {K : AC} {g : WG} {b L : Nat} {xs : Nat → Int32} (hg : p_al g = false) (htr : K.2.1.stackTraces = false) (C : Cx K g cL_law 8 RL (some .boolean) "law" 1000 601024 7293034) (CS : va_X b L xs (a_s K) (a_s K).heap ∧ b < (a_s K).heap.size ∧ ¬ p_A g b) {kc ks : Nat} (hkc : kc + 1 ≤ 601024) (hks : ks + 6 ≤ 7293034) {fin : Unit → PH → State → Prop} (o1 o2 o3 : Nat) (i4 : Int32) {rc : Int32 → PH → Option (Unit × PH)} (hr : ∀ (y : Int32) (h : PH), VX K g 8 (kc + 1) (ks + 6) fin 23 [(0, .ref b), (1, p_rf g o1), (2, p_rf g o2), (3, p_rf g o3), (4, .int y)] [] h (rc y h)) (h : PH) : VX K g 8 kc ks fin 228 [(0, .ref b), (1, p_rf g o1), (2, p_rf g o2), (3, p_rf g o3), (4, .int i4)] [] h (fLc_0 xs L o1 o2 o3 i4 rc h) := by
  unfold fLc_0
  refine r_aload_n C dL_law_228 1 rfl ?_
  refine r_aloadS C dL_law_229 0 rfl ?_
  refine r_iload C dL_law_230 4 rfl ?_
  refine r_iconst C dL_law_232 k_i1 ?_
  refine r_iadd C dL_law_233 ?_
  refine r_sld C CS dL_law_234 (fun x1 => ?_)
  refine r_cvi (As := [.int x1]) (st := []) C wv_L_26 (tcX11_sign K.2.1 g hg o1 x1 h) (Nat.le_of_ble_eq_true rfl) rfl rfl (Nat.le_of_ble_eq_true rfl) dL_law_235 ⟨by omega, by omega⟩ (fun x2 h3 => ?_)
  refine r_aload_n C dL_law_238 2 rfl ?_
  refine r_aloadS C dL_law_239 0 rfl ?_
  refine r_iload C dL_law_240 4 rfl ?_
  refine r_iconst C dL_law_242 k_i1 ?_
  refine r_iadd C dL_law_243 ?_
  refine r_sld C CS dL_law_244 (fun x4 => ?_)
  refine r_cvi (As := [.int x4]) (st := [.int x2]) C wv_L_30 (tcX12_sign K.2.1 g hg o2 x4 h3) (Nat.le_of_ble_eq_true rfl) rfl rfl (Nat.le_of_ble_eq_true rfl) dL_law_245 ⟨by omega, by omega⟩ (fun x5 h6 => ?_)
  refine r_icmp_eq (tgt := 1624) C dL_law_248 (by decide) ?_ ?_
  · refine r_widen (k := kc + 1) (n := ks + 6) (by omega) (by omega) ?_
    refine r_iinc (lv' := [(0, .ref b), (1, p_rf g o1), (2, p_rf g o2), (3, p_rf g o3)]) C dL_law_1624 4 rfl k_i5 (by decide) (fun _ => rfl) (fun x7 => ?_)
    refine r_goto (tgt := 23) C dL_law_1627 (by decide) ?_
    refine r_perm (lv' := [(0, .ref b), (1, p_rf g o1), (2, p_rf g o2), (3, p_rf g o3), (4, .int x7)]) [1, 2, 3, 4, 0] rfl ?_
    exact hr x7 h6
  · refine r_iconst C dL_law_251 k_i0 ?_
    exact r_none
set_option maxRecDepth 100000 in
set_option maxHeartbeats 4000000 in
theorem tLc_1 {K : AC} {g : WG} {b L : Nat} {xs : Nat → Int32} (hg : p_al g = false) (htr : K.2.1.stackTraces = false) (C : Cx K g cL_law 8 RL (some .boolean) "law" 1000 601024 7293034) (CS : va_X b L xs (a_s K) (a_s K).heap ∧ b < (a_s K).heap.size ∧ ¬ p_A g b) {kc ks : Nat} (hkc : kc + 1 ≤ 601024) (hks : ks + 6 ≤ 7293034) {fin : Unit → PH → State → Prop} (o1 o2 o3 : Nat) (i4 : Int32) {rc : Int32 → PH → Option (Unit × PH)} (hr : ∀ (y : Int32) (h : PH), VX K g 8 (kc + 1) (ks + 6) fin 23 [(0, .ref b), (1, p_rf g o1), (2, p_rf g o2), (3, p_rf g o3), (4, .int y)] [] h (rc y h)) (h : PH) : VX K g 8 kc ks fin 253 [(0, .ref b), (1, p_rf g o1), (2, p_rf g o2), (3, p_rf g o3), (4, .int i4)] [] h (fLc_1 xs L o1 o2 o3 i4 rc h) := by
  unfold fLc_1
  refine r_aload_n C dL_law_253 1 rfl ?_
  refine r_aloadS C dL_law_254 0 rfl ?_
  refine r_iload C dL_law_255 4 rfl ?_
  refine r_iconst C dL_law_257 k_i1 ?_
  refine r_iadd C dL_law_258 ?_
  refine r_sld C CS dL_law_259 (fun x1 => ?_)
  refine r_cvi (As := [.int x1]) (st := []) C wv_L_31 (tcX11_end K.2.1 g hg o1 x1 h) (Nat.le_of_ble_eq_true rfl) rfl rfl (Nat.le_of_ble_eq_true rfl) dL_law_260 ⟨by omega, by omega⟩ (fun x2 h3 => ?_)
  refine r_aload_n C dL_law_263 2 rfl ?_
  refine r_aloadS C dL_law_264 0 rfl ?_
  refine r_iload C dL_law_265 4 rfl ?_
  refine r_iconst C dL_law_267 k_i1 ?_
  refine r_iadd C dL_law_268 ?_
  refine r_sld C CS dL_law_269 (fun x4 => ?_)
  refine r_cvi (As := [.int x4]) (st := [.int x2]) C wv_L_35 (tcX12_end K.2.1 g hg o2 x4 h3) (Nat.le_of_ble_eq_true rfl) rfl rfl (Nat.le_of_ble_eq_true rfl) dL_law_270 ⟨by omega, by omega⟩ (fun x5 h6 => ?_)
  refine r_icmp_eq (tgt := 1624) C dL_law_273 (by decide) ?_ ?_
  · refine r_widen (k := kc + 1) (n := ks + 6) (by omega) (by omega) ?_
    refine r_iinc (lv' := [(0, .ref b), (1, p_rf g o1), (2, p_rf g o2), (3, p_rf g o3)]) C dL_law_1624 4 rfl k_i5 (by decide) (fun _ => rfl) (fun x7 => ?_)
    refine r_goto (tgt := 23) C dL_law_1627 (by decide) ?_
    refine r_perm (lv' := [(0, .ref b), (1, p_rf g o1), (2, p_rf g o2), (3, p_rf g o3), (4, .int x7)]) [1, 2, 3, 4, 0] rfl ?_
    exact hr x7 h6
  · refine r_iconst C dL_law_276 k_i0 ?_
    exact r_none
set_option maxRecDepth 100000 in
set_option maxHeartbeats 4000000 in
theorem tLc_2 {K : AC} {g : WG} {b L : Nat} {xs : Nat → Int32} (hg : p_al g = false) (htr : K.2.1.stackTraces = false) (C : Cx K g cL_law 8 RL (some .boolean) "law" 1000 601024 7293034) (CS : va_X b L xs (a_s K) (a_s K).heap ∧ b < (a_s K).heap.size ∧ ¬ p_A g b) {kc ks : Nat} (hkc : kc + 1 ≤ 601024) (hks : ks + 6 ≤ 7293034) {fin : Unit → PH → State → Prop} (o1 o2 o3 : Nat) (i4 : Int32) {rc : Int32 → PH → Option (Unit × PH)} (hr : ∀ (y : Int32) (h : PH), VX K g 8 (kc + 1) (ks + 6) fin 23 [(0, .ref b), (1, p_rf g o1), (2, p_rf g o2), (3, p_rf g o3), (4, .int y)] [] h (rc y h)) (h : PH) : VX K g 8 kc ks fin 278 [(0, .ref b), (1, p_rf g o1), (2, p_rf g o2), (3, p_rf g o3), (4, .int i4)] [] h (fLc_2 xs L o1 o2 o3 i4 rc h) := by
  unfold fLc_2
  refine r_aload_n C dL_law_278 1 rfl ?_
  refine r_cvi (As := []) (st := []) C wv_L_36 (tcX11_grounds K.2.1 g hg o1 h) (Nat.le_of_ble_eq_true rfl) rfl rfl (Nat.le_of_ble_eq_true rfl) dL_law_279 ⟨by omega, by omega⟩ (fun x1 h2 => ?_)
  refine r_aload_n C dL_law_282 2 rfl ?_
  refine r_cvi (As := []) (st := [.int x1]) C wv_L_40 (tcX12_grounds K.2.1 g hg o2 h2) (Nat.le_of_ble_eq_true rfl) rfl rfl (Nat.le_of_ble_eq_true rfl) dL_law_283 ⟨by omega, by omega⟩ (fun x3 h4 => ?_)
  refine r_icmp_eq (tgt := 1624) C dL_law_286 (by decide) ?_ ?_
  · refine r_widen (k := kc + 1) (n := ks + 6) (by omega) (by omega) ?_
    refine r_iinc (lv' := [(0, .ref b), (1, p_rf g o1), (2, p_rf g o2), (3, p_rf g o3)]) C dL_law_1624 4 rfl k_i5 (by decide) (fun _ => rfl) (fun x5 => ?_)
    refine r_goto (tgt := 23) C dL_law_1627 (by decide) ?_
    refine r_perm (lv' := [(0, .ref b), (1, p_rf g o1), (2, p_rf g o2), (3, p_rf g o3), (4, .int x5)]) [1, 2, 3, 4, 0] rfl ?_
    exact hr x5 h4
  · refine r_iconst C dL_law_289 k_i0 ?_
    exact r_none
set_option maxRecDepth 100000 in
set_option maxHeartbeats 4000000 in
theorem tLc_3 {K : AC} {g : WG} {b L : Nat} {xs : Nat → Int32} (hg : p_al g = false) (htr : K.2.1.stackTraces = false) (C : Cx K g cL_law 8 RL (some .boolean) "law" 1000 601024 7293034) (CS : va_X b L xs (a_s K) (a_s K).heap ∧ b < (a_s K).heap.size ∧ ¬ p_A g b) {kc ks : Nat} (hkc : kc + 1 ≤ 601024) (hks : ks + 6 ≤ 7293034) {fin : Unit → PH → State → Prop} (o1 o2 o3 : Nat) (i4 : Int32) {rc : Int32 → PH → Option (Unit × PH)} (hr : ∀ (y : Int32) (h : PH), VX K g 8 (kc + 1) (ks + 6) fin 23 [(0, .ref b), (1, p_rf g o1), (2, p_rf g o2), (3, p_rf g o3), (4, .int y)] [] h (rc y h)) (h : PH) : VX K g 8 kc ks fin 291 [(0, .ref b), (1, p_rf g o1), (2, p_rf g o2), (3, p_rf g o3), (4, .int i4)] [] h (fLc_3 xs L o1 o2 o3 i4 rc h) := by
  unfold fLc_3
  refine r_aload_n C dL_law_291 1 rfl ?_
  refine r_cvi (As := []) (st := []) C wv_L_41 (tcX11_people K.2.1 g hg o1 h) (Nat.le_of_ble_eq_true rfl) rfl rfl (Nat.le_of_ble_eq_true rfl) dL_law_292 ⟨by omega, by omega⟩ (fun x1 h2 => ?_)
  refine r_aload_n C dL_law_295 2 rfl ?_
  refine r_cvi (As := []) (st := [.int x1]) C wv_L_44 (tcX12_people K.2.1 g hg o2 h2) (Nat.le_of_ble_eq_true rfl) rfl rfl (Nat.le_of_ble_eq_true rfl) dL_law_296 ⟨by omega, by omega⟩ (fun x3 h4 => ?_)
  refine r_icmp_eq (tgt := 1624) C dL_law_299 (by decide) ?_ ?_
  · refine r_widen (k := kc + 1) (n := ks + 6) (by omega) (by omega) ?_
    refine r_iinc (lv' := [(0, .ref b), (1, p_rf g o1), (2, p_rf g o2), (3, p_rf g o3)]) C dL_law_1624 4 rfl k_i5 (by decide) (fun _ => rfl) (fun x5 => ?_)
    refine r_goto (tgt := 23) C dL_law_1627 (by decide) ?_
    refine r_perm (lv' := [(0, .ref b), (1, p_rf g o1), (2, p_rf g o2), (3, p_rf g o3), (4, .int x5)]) [1, 2, 3, 4, 0] rfl ?_
    exact hr x5 h4
  · refine r_iconst C dL_law_302 k_i0 ?_
    exact r_none
set_option maxRecDepth 100000 in
set_option maxHeartbeats 4000000 in
theorem tLc_4 {K : AC} {g : WG} {b L : Nat} {xs : Nat → Int32} (hg : p_al g = false) (htr : K.2.1.stackTraces = false) (C : Cx K g cL_law 8 RL (some .boolean) "law" 1000 601024 7293034) (CS : va_X b L xs (a_s K) (a_s K).heap ∧ b < (a_s K).heap.size ∧ ¬ p_A g b) {kc ks : Nat} (hkc : kc + 1 ≤ 601024) (hks : ks + 6 ≤ 7293034) {fin : Unit → PH → State → Prop} (o1 o2 o3 : Nat) (i4 : Int32) {rc : Int32 → PH → Option (Unit × PH)} (hr : ∀ (y : Int32) (h : PH), VX K g 8 (kc + 1) (ks + 6) fin 23 [(0, .ref b), (1, p_rf g o1), (2, p_rf g o2), (3, p_rf g o3), (4, .int y)] [] h (rc y h)) (h : PH) : VX K g 8 kc ks fin 304 [(0, .ref b), (1, p_rf g o1), (2, p_rf g o2), (3, p_rf g o3), (4, .int i4)] [] h (fLc_4 xs L o1 o2 o3 i4 rc h) := by
  unfold fLc_4
  refine r_aload_n C dL_law_304 1 rfl ?_
  refine r_cvi (As := []) (st := []) C wv_L_45 (tcX11_wants K.2.1 g hg o1 h) (Nat.le_of_ble_eq_true rfl) rfl rfl (Nat.le_of_ble_eq_true rfl) dL_law_305 ⟨by omega, by omega⟩ (fun x1 h2 => ?_)
  refine r_aload_n C dL_law_308 2 rfl ?_
  refine r_cvi (As := []) (st := [.int x1]) C wv_L_48 (tcX12_wants K.2.1 g hg o2 h2) (Nat.le_of_ble_eq_true rfl) rfl rfl (Nat.le_of_ble_eq_true rfl) dL_law_309 ⟨by omega, by omega⟩ (fun x3 h4 => ?_)
  refine r_icmp_eq (tgt := 1624) C dL_law_312 (by decide) ?_ ?_
  · refine r_widen (k := kc + 1) (n := ks + 6) (by omega) (by omega) ?_
    refine r_iinc (lv' := [(0, .ref b), (1, p_rf g o1), (2, p_rf g o2), (3, p_rf g o3)]) C dL_law_1624 4 rfl k_i5 (by decide) (fun _ => rfl) (fun x5 => ?_)
    refine r_goto (tgt := 23) C dL_law_1627 (by decide) ?_
    refine r_perm (lv' := [(0, .ref b), (1, p_rf g o1), (2, p_rf g o2), (3, p_rf g o3), (4, .int x5)]) [1, 2, 3, 4, 0] rfl ?_
    exact hr x5 h4
  · refine r_iconst C dL_law_315 k_i0 ?_
    exact r_none
set_option maxRecDepth 100000 in
set_option maxHeartbeats 4000000 in
theorem tLc_5 {K : AC} {g : WG} {b L : Nat} {xs : Nat → Int32} (hg : p_al g = false) (htr : K.2.1.stackTraces = false) (C : Cx K g cL_law 8 RL (some .boolean) "law" 1000 601024 7293034) (CS : va_X b L xs (a_s K) (a_s K).heap ∧ b < (a_s K).heap.size ∧ ¬ p_A g b) {kc ks : Nat} (hkc : kc + 1 ≤ 601024) (hks : ks + 6 ≤ 7293034) {fin : Unit → PH → State → Prop} (o1 o2 o3 : Nat) (i4 : Int32) {rc : Int32 → PH → Option (Unit × PH)} (hr : ∀ (y : Int32) (h : PH), VX K g 8 (kc + 1) (ks + 6) fin 23 [(0, .ref b), (1, p_rf g o1), (2, p_rf g o2), (3, p_rf g o3), (4, .int y)] [] h (rc y h)) (h : PH) : VX K g 8 kc ks fin 317 [(0, .ref b), (1, p_rf g o1), (2, p_rf g o2), (3, p_rf g o3), (4, .int i4)] [] h (fLc_5 xs L o1 o2 o3 i4 rc h) := by
  unfold fLc_5
  refine r_aload_n C dL_law_317 1 rfl ?_
  refine r_cvi (As := []) (st := []) C wv_L_49 (tcX11_rule K.2.1 g hg o1 h) (Nat.le_of_ble_eq_true rfl) rfl rfl (Nat.le_of_ble_eq_true rfl) dL_law_318 ⟨by omega, by omega⟩ (fun x1 h2 => ?_)
  refine r_aload_n C dL_law_321 2 rfl ?_
  refine r_cvi (As := []) (st := [.int x1]) C wv_L_52 (tcX12_rule K.2.1 g hg o2 h2) (Nat.le_of_ble_eq_true rfl) rfl rfl (Nat.le_of_ble_eq_true rfl) dL_law_322 ⟨by omega, by omega⟩ (fun x3 h4 => ?_)
  refine r_icmp_eq (tgt := 1624) C dL_law_325 (by decide) ?_ ?_
  · refine r_widen (k := kc + 1) (n := ks + 6) (by omega) (by omega) ?_
    refine r_iinc (lv' := [(0, .ref b), (1, p_rf g o1), (2, p_rf g o2), (3, p_rf g o3)]) C dL_law_1624 4 rfl k_i5 (by decide) (fun _ => rfl) (fun x5 => ?_)
    refine r_goto (tgt := 23) C dL_law_1627 (by decide) ?_
    refine r_perm (lv' := [(0, .ref b), (1, p_rf g o1), (2, p_rf g o2), (3, p_rf g o3), (4, .int x5)]) [1, 2, 3, 4, 0] rfl ?_
    exact hr x5 h4
  · refine r_iconst C dL_law_328 k_i0 ?_
    exact r_none
set_option maxRecDepth 100000 in
set_option maxHeartbeats 4000000 in
theorem tLc_6 {K : AC} {g : WG} {b L : Nat} {xs : Nat → Int32} (hg : p_al g = false) (htr : K.2.1.stackTraces = false) (C : Cx K g cL_law 8 RL (some .boolean) "law" 1000 601024 7293034) (CS : va_X b L xs (a_s K) (a_s K).heap ∧ b < (a_s K).heap.size ∧ ¬ p_A g b) {kc ks : Nat} (hkc : kc + 1 ≤ 601024) (hks : ks + 6 ≤ 7293034) {fin : Unit → PH → State → Prop} (o1 o2 o3 : Nat) (i4 : Int32) {rc : Int32 → PH → Option (Unit × PH)} (hr : ∀ (y : Int32) (h : PH), VX K g 8 (kc + 1) (ks + 6) fin 23 [(0, .ref b), (1, p_rf g o1), (2, p_rf g o2), (3, p_rf g o3), (4, .int y)] [] h (rc y h)) (h : PH) : VX K g 8 kc ks fin 330 [(0, .ref b), (1, p_rf g o1), (2, p_rf g o2), (3, p_rf g o3), (4, .int i4)] [] h (fLc_6 xs L o1 o2 o3 i4 rc h) := by
  unfold fLc_6
  refine r_aload_n C dL_law_330 1 rfl ?_
  refine r_aloadS C dL_law_331 0 rfl ?_
  refine r_iload C dL_law_332 4 rfl ?_
  refine r_iconst C dL_law_334 k_i1 ?_
  refine r_iadd C dL_law_335 ?_
  refine r_sld C CS dL_law_336 (fun x1 => ?_)
  refine r_aloadS C dL_law_337 0 rfl ?_
  refine r_iload C dL_law_338 4 rfl ?_
  refine r_iconst C dL_law_340 k_i2 ?_
  refine r_iadd C dL_law_341 ?_
  refine r_sld C CS dL_law_342 (fun x2 => ?_)
  refine r_aload_n C dL_law_343 3 rfl ?_
  refine r_csW (As := [p_rf g o1, .int x1, .int x2, p_rf g o3]) (st := []) C wx_L_53 (tcL_ground K.2.1 g hg htr o1 x1 x2 o3 h) (Nat.le_of_ble_eq_true rfl) rfl rfl (Nat.le_of_ble_eq_true rfl) dL_law_344 ⟨by omega, by omega⟩ (fun x3 h4 => ?_)
  refine r_istore (lv9 := [(5, .int x3), (0, .ref b), (1, p_rf g o1), (2, p_rf g o2), (3, p_rf g o3), (4, .int i4)]) C dL_law_347 (by decide) rfl ?_
  refine r_aload_n C dL_law_349 3 rfl ?_
  refine r_aloadS C dL_law_350 1 rfl ?_
  refine r_iload C dL_law_351 5 rfl ?_
  refine r_iconst C dL_law_353 k_i1 ?_
  refine r_iadd C dL_law_354 ?_
  refine r_sld C CS dL_law_355 (fun x5 => ?_)
  refine r_aloadS C dL_law_356 1 rfl ?_
  refine r_iload C dL_law_357 5 rfl ?_
  refine r_iconst C dL_law_359 k_i2 ?_
  refine r_iadd C dL_law_360 ?_
  refine r_sld C CS dL_law_361 (fun x6 => ?_)
  refine r_cvi (As := [.int x5, .int x6]) (st := []) C wv_L_58 (tcX12_ground K.2.1 g hg o2 x5 x6 h4) (Nat.le_of_ble_eq_true rfl) rfl rfl (Nat.le_of_ble_eq_true rfl) dL_law_362 ⟨by omega, by omega⟩ (fun x7 h8 => ?_)
  refine r_istore (lv9 := [(6, .int x7), (5, .int x3), (0, .ref b), (1, p_rf g o1), (2, p_rf g o2), (3, p_rf g o3), (4, .int i4)]) C dL_law_365 (by decide) rfl ?_
  refine r_aload_n C dL_law_367 4 rfl ?_
  refine r_cvi (As := []) (st := []) C wv_L_59 (tcX12_thrown K.2.1 g hg o2 h8) (Nat.le_of_ble_eq_true rfl) rfl rfl (Nat.le_of_ble_eq_true rfl) dL_law_368 ⟨by omega, by omega⟩ (fun x9 h10 => ?_)
  refine r_iload C dL_law_371 1 rfl ?_
  refine r_icmp_eq (tgt := 378) C dL_law_373 (by decide) ?_ ?_
  · refine r_iload C dL_law_378 1 rfl ?_
    refine r_if_ne (tgt := 395) C dL_law_380 (by decide) ?_ ?_
    · refine r_goto (tgt := 1624) C dL_law_395 (by decide) ?_
      refine r_widen (k := kc + 1) (n := ks + 6) (by omega) (by omega) ?_
      refine r_iinc (lv' := [(6, .int x7), (5, .int x3), (0, .ref b), (1, p_rf g o1), (2, p_rf g o2), (3, p_rf g o3)]) C dL_law_1624 6 rfl k_i5 (by decide) (fun _ => rfl) (fun x11 => ?_)
      refine r_goto (tgt := 23) C dL_law_1627 (by decide) ?_
      refine r_perm (lv' := [(0, .ref b), (1, p_rf g o1), (2, p_rf g o2), (3, p_rf g o3), (4, .int x11)]) [3, 4, 5, 6, 0] rfl ?_
      exact hr x11 h10
    · refine r_aload_n C dL_law_383 5 rfl ?_
      refine r_iconst C dL_law_384 k_i0 ?_
      refine r_lald C dL_law_385 (fun y12 => ?_)
      refine r_iload C dL_law_386 0 rfl ?_
      refine r_i2l C dL_law_388 ?_
      refine r_lcmp C dL_law_389 ?_
      refine r_if_eq (tgt := 395) C dL_law_390 (by decide) ?_ ?_
      · refine r_goto (tgt := 1624) C dL_law_395 (by decide) ?_
        refine r_widen (k := kc + 1) (n := ks + 6) (by omega) (by omega) ?_
        refine r_iinc (lv' := [(6, .int x7), (5, .int x3), (0, .ref b), (1, p_rf g o1), (2, p_rf g o2), (3, p_rf g o3)]) C dL_law_1624 6 rfl k_i5 (by decide) (fun _ => rfl) (fun x13 => ?_)
        refine r_goto (tgt := 23) C dL_law_1627 (by decide) ?_
        refine r_perm (lv' := [(0, .ref b), (1, p_rf g o1), (2, p_rf g o2), (3, p_rf g o3), (4, .int x13)]) [3, 4, 5, 6, 0] rfl ?_
        exact hr x13 h10
      · refine r_iconst C dL_law_393 k_i0 ?_
        exact r_none
  · refine r_iconst C dL_law_376 k_i0 ?_
    exact r_none
set_option maxRecDepth 100000 in
set_option maxHeartbeats 4000000 in
theorem tLc_7 {K : AC} {g : WG} {b L : Nat} {xs : Nat → Int32} (hg : p_al g = false) (htr : K.2.1.stackTraces = false) (C : Cx K g cL_law 8 RL (some .boolean) "law" 1000 601024 7293034) (CS : va_X b L xs (a_s K) (a_s K).heap ∧ b < (a_s K).heap.size ∧ ¬ p_A g b) {kc ks : Nat} (hkc : kc + 1 ≤ 601024) (hks : ks + 6 ≤ 7293034) {fin : Unit → PH → State → Prop} (o1 o2 o3 : Nat) (i4 : Int32) {rc : Int32 → PH → Option (Unit × PH)} (hr : ∀ (y : Int32) (h : PH), VX K g 8 (kc + 1) (ks + 6) fin 23 [(0, .ref b), (1, p_rf g o1), (2, p_rf g o2), (3, p_rf g o3), (4, .int y)] [] h (rc y h)) (h : PH) : VX K g 8 kc ks fin 398 [(0, .ref b), (1, p_rf g o1), (2, p_rf g o2), (3, p_rf g o3), (4, .int i4)] [] h (fLc_7 xs L o1 o2 o3 i4 rc h) := by
  unfold fLc_7
  refine r_aload_n C dL_law_398 1 rfl ?_
  refine r_aloadS C dL_law_399 0 rfl ?_
  refine r_iload C dL_law_400 4 rfl ?_
  refine r_iconst C dL_law_402 k_i1 ?_
  refine r_iadd C dL_law_403 ?_
  refine r_sld C CS dL_law_404 (fun x1 => ?_)
  refine r_aloadS C dL_law_405 0 rfl ?_
  refine r_iload C dL_law_406 4 rfl ?_
  refine r_iconst C dL_law_408 k_i2 ?_
  refine r_iadd C dL_law_409 ?_
  refine r_sld C CS dL_law_410 (fun x2 => ?_)
  refine r_aload_n C dL_law_411 3 rfl ?_
  refine r_csW (As := [p_rf g o1, .int x1, .int x2, p_rf g o3]) (st := []) C wx_L_62 (tcL_person K.2.1 g hg htr o1 x1 x2 o3 h) (Nat.le_of_ble_eq_true rfl) rfl rfl (Nat.le_of_ble_eq_true rfl) dL_law_412 ⟨by omega, by omega⟩ (fun x3 h4 => ?_)
  refine r_istore (lv9 := [(5, .int x3), (0, .ref b), (1, p_rf g o1), (2, p_rf g o2), (3, p_rf g o3), (4, .int i4)]) C dL_law_415 (by decide) rfl ?_
  refine r_aload_n C dL_law_417 3 rfl ?_
  refine r_aloadS C dL_law_418 1 rfl ?_
  refine r_iload C dL_law_419 5 rfl ?_
  refine r_iconst C dL_law_421 k_i1 ?_
  refine r_iadd C dL_law_422 ?_
  refine r_sld C CS dL_law_423 (fun x5 => ?_)
  refine r_aloadS C dL_law_424 1 rfl ?_
  refine r_iload C dL_law_425 5 rfl ?_
  refine r_iconst C dL_law_427 k_i2 ?_
  refine r_iadd C dL_law_428 ?_
  refine r_sld C CS dL_law_429 (fun x6 => ?_)
  refine r_cvi (As := [.int x5, .int x6]) (st := []) C wv_L_64 (tcX12_person K.2.1 g hg o2 x5 x6 h4) (Nat.le_of_ble_eq_true rfl) rfl rfl (Nat.le_of_ble_eq_true rfl) dL_law_430 ⟨by omega, by omega⟩ (fun x7 h8 => ?_)
  refine r_istore (lv9 := [(6, .int x7), (5, .int x3), (0, .ref b), (1, p_rf g o1), (2, p_rf g o2), (3, p_rf g o3), (4, .int i4)]) C dL_law_433 (by decide) rfl ?_
  refine r_aload_n C dL_law_435 4 rfl ?_
  refine r_cvi (As := []) (st := []) C wv_L_59 (tcX12_thrown K.2.1 g hg o2 h8) (Nat.le_of_ble_eq_true rfl) rfl rfl (Nat.le_of_ble_eq_true rfl) dL_law_436 ⟨by omega, by omega⟩ (fun x9 h10 => ?_)
  refine r_iload C dL_law_439 1 rfl ?_
  refine r_icmp_eq (tgt := 446) C dL_law_441 (by decide) ?_ ?_
  · refine r_iload C dL_law_446 1 rfl ?_
    refine r_if_ne (tgt := 463) C dL_law_448 (by decide) ?_ ?_
    · refine r_goto (tgt := 1624) C dL_law_463 (by decide) ?_
      refine r_widen (k := kc + 1) (n := ks + 6) (by omega) (by omega) ?_
      refine r_iinc (lv' := [(6, .int x7), (5, .int x3), (0, .ref b), (1, p_rf g o1), (2, p_rf g o2), (3, p_rf g o3)]) C dL_law_1624 6 rfl k_i5 (by decide) (fun _ => rfl) (fun x11 => ?_)
      refine r_goto (tgt := 23) C dL_law_1627 (by decide) ?_
      refine r_perm (lv' := [(0, .ref b), (1, p_rf g o1), (2, p_rf g o2), (3, p_rf g o3), (4, .int x11)]) [3, 4, 5, 6, 0] rfl ?_
      exact hr x11 h10
    · refine r_aload_n C dL_law_451 5 rfl ?_
      refine r_iconst C dL_law_452 k_i0 ?_
      refine r_lald C dL_law_453 (fun y12 => ?_)
      refine r_iload C dL_law_454 0 rfl ?_
      refine r_i2l C dL_law_456 ?_
      refine r_lcmp C dL_law_457 ?_
      refine r_if_eq (tgt := 463) C dL_law_458 (by decide) ?_ ?_
      · refine r_goto (tgt := 1624) C dL_law_463 (by decide) ?_
        refine r_widen (k := kc + 1) (n := ks + 6) (by omega) (by omega) ?_
        refine r_iinc (lv' := [(6, .int x7), (5, .int x3), (0, .ref b), (1, p_rf g o1), (2, p_rf g o2), (3, p_rf g o3)]) C dL_law_1624 6 rfl k_i5 (by decide) (fun _ => rfl) (fun x13 => ?_)
        refine r_goto (tgt := 23) C dL_law_1627 (by decide) ?_
        refine r_perm (lv' := [(0, .ref b), (1, p_rf g o1), (2, p_rf g o2), (3, p_rf g o3), (4, .int x13)]) [3, 4, 5, 6, 0] rfl ?_
        exact hr x13 h10
      · refine r_iconst C dL_law_461 k_i0 ?_
        exact r_none
  · refine r_iconst C dL_law_444 k_i0 ?_
    exact r_none
set_option maxRecDepth 100000 in
set_option maxHeartbeats 4000000 in
theorem tLc_8 {K : AC} {g : WG} {b L : Nat} {xs : Nat → Int32} (hg : p_al g = false) (htr : K.2.1.stackTraces = false) (C : Cx K g cL_law 8 RL (some .boolean) "law" 1000 601024 7293034) (CS : va_X b L xs (a_s K) (a_s K).heap ∧ b < (a_s K).heap.size ∧ ¬ p_A g b) {kc ks : Nat} (hkc : kc + 1 ≤ 601024) (hks : ks + 6 ≤ 7293034) {fin : Unit → PH → State → Prop} (o1 o2 o3 : Nat) (i4 : Int32) {rc : Int32 → PH → Option (Unit × PH)} (hr : ∀ (y : Int32) (h : PH), VX K g 8 (kc + 1) (ks + 6) fin 23 [(0, .ref b), (1, p_rf g o1), (2, p_rf g o2), (3, p_rf g o3), (4, .int y)] [] h (rc y h)) (h : PH) : VX K g 8 kc ks fin 466 [(0, .ref b), (1, p_rf g o1), (2, p_rf g o2), (3, p_rf g o3), (4, .int i4)] [] h (fLc_8 xs L o1 o2 o3 i4 rc h) := by
  unfold fLc_8
  refine r_aload_n C dL_law_466 1 rfl ?_
  refine r_aloadS C dL_law_467 0 rfl ?_
  refine r_iload C dL_law_468 4 rfl ?_
  refine r_iconst C dL_law_470 k_i1 ?_
  refine r_iadd C dL_law_471 ?_
  refine r_sld C CS dL_law_472 (fun x1 => ?_)
  refine r_aloadS C dL_law_473 0 rfl ?_
  refine r_iload C dL_law_474 4 rfl ?_
  refine r_iconst C dL_law_476 k_i2 ?_
  refine r_iadd C dL_law_477 ?_
  refine r_sld C CS dL_law_478 (fun x2 => ?_)
  refine r_cvi (As := [.int x1, .int x2]) (st := []) C wv_L_65 (tcX11_held K.2.1 g hg o1 x1 x2 h) (Nat.le_of_ble_eq_true rfl) rfl rfl (Nat.le_of_ble_eq_true rfl) dL_law_479 ⟨by omega, by omega⟩ (fun x3 h4 => ?_)
  refine r_aload_n C dL_law_482 2 rfl ?_
  refine r_aloadS C dL_law_483 0 rfl ?_
  refine r_iload C dL_law_484 4 rfl ?_
  refine r_iconst C dL_law_486 k_i1 ?_
  refine r_iadd C dL_law_487 ?_
  refine r_sld C CS dL_law_488 (fun x5 => ?_)
  refine r_aloadS C dL_law_489 0 rfl ?_
  refine r_iload C dL_law_490 4 rfl ?_
  refine r_iconst C dL_law_492 k_i2 ?_
  refine r_iadd C dL_law_493 ?_
  refine r_sld C CS dL_law_494 (fun x6 => ?_)
  refine r_cvi (As := [.int x5, .int x6]) (st := [.int x3]) C wv_L_68 (tcX12_held K.2.1 g hg o2 x5 x6 h4) (Nat.le_of_ble_eq_true rfl) rfl rfl (Nat.le_of_ble_eq_true rfl) dL_law_495 ⟨by omega, by omega⟩ (fun x7 h8 => ?_)
  refine r_icmp_eq (tgt := 1624) C dL_law_498 (by decide) ?_ ?_
  · refine r_widen (k := kc + 1) (n := ks + 6) (by omega) (by omega) ?_
    refine r_iinc (lv' := [(0, .ref b), (1, p_rf g o1), (2, p_rf g o2), (3, p_rf g o3)]) C dL_law_1624 4 rfl k_i5 (by decide) (fun _ => rfl) (fun x9 => ?_)
    refine r_goto (tgt := 23) C dL_law_1627 (by decide) ?_
    refine r_perm (lv' := [(0, .ref b), (1, p_rf g o1), (2, p_rf g o2), (3, p_rf g o3), (4, .int x9)]) [1, 2, 3, 4, 0] rfl ?_
    exact hr x9 h8
  · refine r_iconst C dL_law_501 k_i0 ?_
    exact r_none
set_option maxRecDepth 100000 in
set_option maxHeartbeats 4000000 in
theorem tLc_9 {K : AC} {g : WG} {b L : Nat} {xs : Nat → Int32} (hg : p_al g = false) (htr : K.2.1.stackTraces = false) (C : Cx K g cL_law 8 RL (some .boolean) "law" 1000 601024 7293034) (CS : va_X b L xs (a_s K) (a_s K).heap ∧ b < (a_s K).heap.size ∧ ¬ p_A g b) {kc ks : Nat} (hkc : kc + 1 ≤ 601024) (hks : ks + 6 ≤ 7293034) {fin : Unit → PH → State → Prop} (o1 o2 o3 : Nat) (i4 : Int32) {rc : Int32 → PH → Option (Unit × PH)} (hr : ∀ (y : Int32) (h : PH), VX K g 8 (kc + 1) (ks + 6) fin 23 [(0, .ref b), (1, p_rf g o1), (2, p_rf g o2), (3, p_rf g o3), (4, .int y)] [] h (rc y h)) (h : PH) : VX K g 8 kc ks fin 503 [(0, .ref b), (1, p_rf g o1), (2, p_rf g o2), (3, p_rf g o3), (4, .int i4)] [] h (fLc_9 xs L o1 o2 o3 i4 rc h) := by
  unfold fLc_9
  refine r_aload_n C dL_law_503 1 rfl ?_
  refine r_aloadS C dL_law_504 0 rfl ?_
  refine r_iload C dL_law_505 4 rfl ?_
  refine r_iconst C dL_law_507 k_i1 ?_
  refine r_iadd C dL_law_508 ?_
  refine r_sld C CS dL_law_509 (fun x1 => ?_)
  refine r_aloadS C dL_law_510 0 rfl ?_
  refine r_iload C dL_law_511 4 rfl ?_
  refine r_iconst C dL_law_513 k_i2 ?_
  refine r_iadd C dL_law_514 ?_
  refine r_sld C CS dL_law_515 (fun x2 => ?_)
  refine r_aloadS C dL_law_516 0 rfl ?_
  refine r_iload C dL_law_517 4 rfl ?_
  refine r_iconst C dL_law_519 k_i3 ?_
  refine r_iadd C dL_law_520 ?_
  refine r_sld C CS dL_law_521 (fun x3 => ?_)
  refine r_aloadS C dL_law_522 0 rfl ?_
  refine r_iload C dL_law_523 4 rfl ?_
  refine r_iconst C dL_law_525 k_i4 ?_
  refine r_iadd C dL_law_526 ?_
  refine r_sld C CS dL_law_527 (fun x4 => ?_)
  refine r_cvi (As := [.int x1, .int x2, .int x3, .int x4]) (st := []) C wv_L_69 (tcX11_sheet K.2.1 g hg o1 x1 x2 x3 x4 h) (Nat.le_of_ble_eq_true rfl) rfl rfl (Nat.le_of_ble_eq_true rfl) dL_law_528 ⟨by omega, by omega⟩ (fun x5 h6 => ?_)
  refine r_aload_n C dL_law_531 2 rfl ?_
  refine r_aloadS C dL_law_532 0 rfl ?_
  refine r_iload C dL_law_533 4 rfl ?_
  refine r_iconst C dL_law_535 k_i1 ?_
  refine r_iadd C dL_law_536 ?_
  refine r_sld C CS dL_law_537 (fun x7 => ?_)
  refine r_aloadS C dL_law_538 0 rfl ?_
  refine r_iload C dL_law_539 4 rfl ?_
  refine r_iconst C dL_law_541 k_i2 ?_
  refine r_iadd C dL_law_542 ?_
  refine r_sld C CS dL_law_543 (fun x8 => ?_)
  refine r_aloadS C dL_law_544 0 rfl ?_
  refine r_iload C dL_law_545 4 rfl ?_
  refine r_iconst C dL_law_547 k_i3 ?_
  refine r_iadd C dL_law_548 ?_
  refine r_sld C CS dL_law_549 (fun x9 => ?_)
  refine r_aloadS C dL_law_550 0 rfl ?_
  refine r_iload C dL_law_551 4 rfl ?_
  refine r_iconst C dL_law_553 k_i4 ?_
  refine r_iadd C dL_law_554 ?_
  refine r_sld C CS dL_law_555 (fun x10 => ?_)
  refine r_cvi (As := [.int x7, .int x8, .int x9, .int x10]) (st := [.int x5]) C wv_L_73 (tcX12_sheet K.2.1 g hg o2 x7 x8 x9 x10 h6) (Nat.le_of_ble_eq_true rfl) rfl rfl (Nat.le_of_ble_eq_true rfl) dL_law_556 ⟨by omega, by omega⟩ (fun x11 h12 => ?_)
  refine r_icmp_eq (tgt := 1624) C dL_law_559 (by decide) ?_ ?_
  · refine r_widen (k := kc + 1) (n := ks + 6) (by omega) (by omega) ?_
    refine r_iinc (lv' := [(0, .ref b), (1, p_rf g o1), (2, p_rf g o2), (3, p_rf g o3)]) C dL_law_1624 4 rfl k_i5 (by decide) (fun _ => rfl) (fun x13 => ?_)
    refine r_goto (tgt := 23) C dL_law_1627 (by decide) ?_
    refine r_perm (lv' := [(0, .ref b), (1, p_rf g o1), (2, p_rf g o2), (3, p_rf g o3), (4, .int x13)]) [1, 2, 3, 4, 0] rfl ?_
    exact hr x13 h12
  · refine r_iconst C dL_law_562 k_i0 ?_
    exact r_none
set_option maxRecDepth 100000 in
set_option maxHeartbeats 4000000 in
theorem tLc_10 {K : AC} {g : WG} {b L : Nat} {xs : Nat → Int32} (hg : p_al g = false) (htr : K.2.1.stackTraces = false) (C : Cx K g cL_law 8 RL (some .boolean) "law" 1000 601024 7293034) (CS : va_X b L xs (a_s K) (a_s K).heap ∧ b < (a_s K).heap.size ∧ ¬ p_A g b) {kc ks : Nat} (hkc : kc + 1 ≤ 601024) (hks : ks + 6 ≤ 7293034) {fin : Unit → PH → State → Prop} (o1 o2 o3 : Nat) (i4 : Int32) {rc : Int32 → PH → Option (Unit × PH)} (hr : ∀ (y : Int32) (h : PH), VX K g 8 (kc + 1) (ks + 6) fin 23 [(0, .ref b), (1, p_rf g o1), (2, p_rf g o2), (3, p_rf g o3), (4, .int y)] [] h (rc y h)) (h : PH) : VX K g 8 kc ks fin 564 [(0, .ref b), (1, p_rf g o1), (2, p_rf g o2), (3, p_rf g o3), (4, .int i4)] [] h (fLc_10 xs L o1 o2 o3 i4 rc h) := by
  unfold fLc_10
  refine r_aload_n C dL_law_564 1 rfl ?_
  refine r_aloadS C dL_law_565 0 rfl ?_
  refine r_iload C dL_law_566 4 rfl ?_
  refine r_iconst C dL_law_568 k_i1 ?_
  refine r_iadd C dL_law_569 ?_
  refine r_sld C CS dL_law_570 (fun x1 => ?_)
  refine r_aloadS C dL_law_571 0 rfl ?_
  refine r_iload C dL_law_572 4 rfl ?_
  refine r_iconst C dL_law_574 k_i2 ?_
  refine r_iadd C dL_law_575 ?_
  refine r_sld C CS dL_law_576 (fun x2 => ?_)
  refine r_cvi (As := [.int x1, .int x2]) (st := []) C wv_L_74 (tcX11_gives K.2.1 g hg o1 x1 x2 h) (Nat.le_of_ble_eq_true rfl) rfl rfl (Nat.le_of_ble_eq_true rfl) dL_law_577 ⟨by omega, by omega⟩ (fun x3 h4 => ?_)
  refine r_aload_n C dL_law_580 2 rfl ?_
  refine r_aloadS C dL_law_581 0 rfl ?_
  refine r_iload C dL_law_582 4 rfl ?_
  refine r_iconst C dL_law_584 k_i1 ?_
  refine r_iadd C dL_law_585 ?_
  refine r_sld C CS dL_law_586 (fun x5 => ?_)
  refine r_aloadS C dL_law_587 0 rfl ?_
  refine r_iload C dL_law_588 4 rfl ?_
  refine r_iconst C dL_law_590 k_i2 ?_
  refine r_iadd C dL_law_591 ?_
  refine r_sld C CS dL_law_592 (fun x6 => ?_)
  refine r_cvi (As := [.int x5, .int x6]) (st := [.int x3]) C wv_L_77 (tcX12_gives K.2.1 g hg o2 x5 x6 h4) (Nat.le_of_ble_eq_true rfl) rfl rfl (Nat.le_of_ble_eq_true rfl) dL_law_593 ⟨by omega, by omega⟩ (fun x7 h8 => ?_)
  refine r_icmp_eq (tgt := 1624) C dL_law_596 (by decide) ?_ ?_
  · refine r_widen (k := kc + 1) (n := ks + 6) (by omega) (by omega) ?_
    refine r_iinc (lv' := [(0, .ref b), (1, p_rf g o1), (2, p_rf g o2), (3, p_rf g o3)]) C dL_law_1624 4 rfl k_i5 (by decide) (fun _ => rfl) (fun x9 => ?_)
    refine r_goto (tgt := 23) C dL_law_1627 (by decide) ?_
    refine r_perm (lv' := [(0, .ref b), (1, p_rf g o1), (2, p_rf g o2), (3, p_rf g o3), (4, .int x9)]) [1, 2, 3, 4, 0] rfl ?_
    exact hr x9 h8
  · refine r_iconst C dL_law_599 k_i0 ?_
    exact r_none
set_option maxRecDepth 100000 in
set_option maxHeartbeats 4000000 in
theorem tLc_11 {K : AC} {g : WG} {b L : Nat} {xs : Nat → Int32} (hg : p_al g = false) (htr : K.2.1.stackTraces = false) (C : Cx K g cL_law 8 RL (some .boolean) "law" 1000 601024 7293034) (CS : va_X b L xs (a_s K) (a_s K).heap ∧ b < (a_s K).heap.size ∧ ¬ p_A g b) {kc ks : Nat} (hkc : kc + 1 ≤ 601024) (hks : ks + 6 ≤ 7293034) {fin : Unit → PH → State → Prop} (o1 o2 o3 : Nat) (i4 : Int32) {rc : Int32 → PH → Option (Unit × PH)} (hr : ∀ (y : Int32) (h : PH), VX K g 8 (kc + 1) (ks + 6) fin 23 [(0, .ref b), (1, p_rf g o1), (2, p_rf g o2), (3, p_rf g o3), (4, .int y)] [] h (rc y h)) (h : PH) : VX K g 8 kc ks fin 601 [(0, .ref b), (1, p_rf g o1), (2, p_rf g o2), (3, p_rf g o3), (4, .int i4)] [] h (fLc_11 xs L o1 o2 o3 i4 rc h) := by
  unfold fLc_11
  refine r_aload_n C dL_law_601 1 rfl ?_
  refine r_aloadS C dL_law_602 0 rfl ?_
  refine r_iload C dL_law_603 4 rfl ?_
  refine r_iconst C dL_law_605 k_i1 ?_
  refine r_iadd C dL_law_606 ?_
  refine r_sld C CS dL_law_607 (fun x1 => ?_)
  refine r_aloadS C dL_law_608 0 rfl ?_
  refine r_iload C dL_law_609 4 rfl ?_
  refine r_iconst C dL_law_611 k_i2 ?_
  refine r_iadd C dL_law_612 ?_
  refine r_sld C CS dL_law_613 (fun x2 => ?_)
  refine r_cvi (As := [.int x1, .int x2]) (st := []) C wv_L_78 (tcX11_takesBack K.2.1 g hg o1 x1 x2 h) (Nat.le_of_ble_eq_true rfl) rfl rfl (Nat.le_of_ble_eq_true rfl) dL_law_614 ⟨by omega, by omega⟩ (fun x3 h4 => ?_)
  refine r_aload_n C dL_law_617 2 rfl ?_
  refine r_aloadS C dL_law_618 0 rfl ?_
  refine r_iload C dL_law_619 4 rfl ?_
  refine r_iconst C dL_law_621 k_i1 ?_
  refine r_iadd C dL_law_622 ?_
  refine r_sld C CS dL_law_623 (fun x5 => ?_)
  refine r_aloadS C dL_law_624 0 rfl ?_
  refine r_iload C dL_law_625 4 rfl ?_
  refine r_iconst C dL_law_627 k_i2 ?_
  refine r_iadd C dL_law_628 ?_
  refine r_sld C CS dL_law_629 (fun x6 => ?_)
  refine r_cvi (As := [.int x5, .int x6]) (st := [.int x3]) C wv_L_81 (tcX12_takesBack K.2.1 g hg o2 x5 x6 h4) (Nat.le_of_ble_eq_true rfl) rfl rfl (Nat.le_of_ble_eq_true rfl) dL_law_630 ⟨by omega, by omega⟩ (fun x7 h8 => ?_)
  refine r_icmp_eq (tgt := 1624) C dL_law_633 (by decide) ?_ ?_
  · refine r_widen (k := kc + 1) (n := ks + 6) (by omega) (by omega) ?_
    refine r_iinc (lv' := [(0, .ref b), (1, p_rf g o1), (2, p_rf g o2), (3, p_rf g o3)]) C dL_law_1624 4 rfl k_i5 (by decide) (fun _ => rfl) (fun x9 => ?_)
    refine r_goto (tgt := 23) C dL_law_1627 (by decide) ?_
    refine r_perm (lv' := [(0, .ref b), (1, p_rf g o1), (2, p_rf g o2), (3, p_rf g o3), (4, .int x9)]) [1, 2, 3, 4, 0] rfl ?_
    exact hr x9 h8
  · refine r_iconst C dL_law_636 k_i0 ?_
    exact r_none
set_option maxRecDepth 100000 in
set_option maxHeartbeats 4000000 in
theorem tLc_12 {K : AC} {g : WG} {b L : Nat} {xs : Nat → Int32} (hg : p_al g = false) (htr : K.2.1.stackTraces = false) (C : Cx K g cL_law 8 RL (some .boolean) "law" 1000 601024 7293034) (CS : va_X b L xs (a_s K) (a_s K).heap ∧ b < (a_s K).heap.size ∧ ¬ p_A g b) {kc ks : Nat} (hkc : kc + 1 ≤ 601024) (hks : ks + 6 ≤ 7293034) {fin : Unit → PH → State → Prop} (o1 o2 o3 : Nat) (i4 : Int32) {rc : Int32 → PH → Option (Unit × PH)} (hr : ∀ (y : Int32) (h : PH), VX K g 8 (kc + 1) (ks + 6) fin 23 [(0, .ref b), (1, p_rf g o1), (2, p_rf g o2), (3, p_rf g o3), (4, .int y)] [] h (rc y h)) (h : PH) : VX K g 8 kc ks fin 638 [(0, .ref b), (1, p_rf g o1), (2, p_rf g o2), (3, p_rf g o3), (4, .int i4)] [] h (fLc_12 xs L o1 o2 o3 i4 rc h) := by
  unfold fLc_12
  refine r_aload_n C dL_law_638 1 rfl ?_
  refine r_aloadS C dL_law_639 0 rfl ?_
  refine r_iload C dL_law_640 4 rfl ?_
  refine r_iconst C dL_law_642 k_i1 ?_
  refine r_iadd C dL_law_643 ?_
  refine r_sld C CS dL_law_644 (fun x1 => ?_)
  refine r_aloadS C dL_law_645 0 rfl ?_
  refine r_iload C dL_law_646 4 rfl ?_
  refine r_iconst C dL_law_648 k_i2 ?_
  refine r_iadd C dL_law_649 ?_
  refine r_sld C CS dL_law_650 (fun x2 => ?_)
  refine r_cvi (As := [.int x1, .int x2]) (st := []) C wv_L_82 (tcX11_makes K.2.1 g hg o1 x1 x2 h) (Nat.le_of_ble_eq_true rfl) rfl rfl (Nat.le_of_ble_eq_true rfl) dL_law_651 ⟨by omega, by omega⟩ (fun x3 h4 => ?_)
  refine r_aload_n C dL_law_654 2 rfl ?_
  refine r_aloadS C dL_law_655 0 rfl ?_
  refine r_iload C dL_law_656 4 rfl ?_
  refine r_iconst C dL_law_658 k_i1 ?_
  refine r_iadd C dL_law_659 ?_
  refine r_sld C CS dL_law_660 (fun x5 => ?_)
  refine r_aloadS C dL_law_661 0 rfl ?_
  refine r_iload C dL_law_662 4 rfl ?_
  refine r_iconst C dL_law_664 k_i2 ?_
  refine r_iadd C dL_law_665 ?_
  refine r_sld C CS dL_law_666 (fun x6 => ?_)
  refine r_cvi (As := [.int x5, .int x6]) (st := [.int x3]) C wv_L_85 (tcX12_makes K.2.1 g hg o2 x5 x6 h4) (Nat.le_of_ble_eq_true rfl) rfl rfl (Nat.le_of_ble_eq_true rfl) dL_law_667 ⟨by omega, by omega⟩ (fun x7 h8 => ?_)
  refine r_icmp_eq (tgt := 1624) C dL_law_670 (by decide) ?_ ?_
  · refine r_widen (k := kc + 1) (n := ks + 6) (by omega) (by omega) ?_
    refine r_iinc (lv' := [(0, .ref b), (1, p_rf g o1), (2, p_rf g o2), (3, p_rf g o3)]) C dL_law_1624 4 rfl k_i5 (by decide) (fun _ => rfl) (fun x9 => ?_)
    refine r_goto (tgt := 23) C dL_law_1627 (by decide) ?_
    refine r_perm (lv' := [(0, .ref b), (1, p_rf g o1), (2, p_rf g o2), (3, p_rf g o3), (4, .int x9)]) [1, 2, 3, 4, 0] rfl ?_
    exact hr x9 h8
  · refine r_iconst C dL_law_673 k_i0 ?_
    exact r_none
set_option maxRecDepth 100000 in
set_option maxHeartbeats 4000000 in
theorem tLc_13 {K : AC} {g : WG} {b L : Nat} {xs : Nat → Int32} (hg : p_al g = false) (htr : K.2.1.stackTraces = false) (C : Cx K g cL_law 8 RL (some .boolean) "law" 1000 601024 7293034) (CS : va_X b L xs (a_s K) (a_s K).heap ∧ b < (a_s K).heap.size ∧ ¬ p_A g b) {kc ks : Nat} (hkc : kc + 1 ≤ 601024) (hks : ks + 6 ≤ 7293034) {fin : Unit → PH → State → Prop} (o1 o2 o3 : Nat) (i4 : Int32) {rc : Int32 → PH → Option (Unit × PH)} (hr : ∀ (y : Int32) (h : PH), VX K g 8 (kc + 1) (ks + 6) fin 23 [(0, .ref b), (1, p_rf g o1), (2, p_rf g o2), (3, p_rf g o3), (4, .int y)] [] h (rc y h)) (h : PH) : VX K g 8 kc ks fin 675 [(0, .ref b), (1, p_rf g o1), (2, p_rf g o2), (3, p_rf g o3), (4, .int i4)] [] h (fLc_13 xs L o1 o2 o3 i4 rc h) := by
  unfold fLc_13
  refine r_aload_n C dL_law_675 1 rfl ?_
  refine r_aloadS C dL_law_676 0 rfl ?_
  refine r_iload C dL_law_677 4 rfl ?_
  refine r_iconst C dL_law_679 k_i1 ?_
  refine r_iadd C dL_law_680 ?_
  refine r_sld C CS dL_law_681 (fun x1 => ?_)
  refine r_cvi (As := [.int x1]) (st := []) C wv_L_86 (tcX11_days K.2.1 g hg o1 x1 h) (Nat.le_of_ble_eq_true rfl) rfl rfl (Nat.le_of_ble_eq_true rfl) dL_law_682 ⟨by omega, by omega⟩ (fun x2 h3 => ?_)
  refine r_aload_n C dL_law_685 2 rfl ?_
  refine r_aloadS C dL_law_686 0 rfl ?_
  refine r_iload C dL_law_687 4 rfl ?_
  refine r_iconst C dL_law_689 k_i1 ?_
  refine r_iadd C dL_law_690 ?_
  refine r_sld C CS dL_law_691 (fun x4 => ?_)
  refine r_cvi (As := [.int x4]) (st := [.int x2]) C wv_L_89 (tcX12_days K.2.1 g hg o2 x4 h3) (Nat.le_of_ble_eq_true rfl) rfl rfl (Nat.le_of_ble_eq_true rfl) dL_law_692 ⟨by omega, by omega⟩ (fun x5 h6 => ?_)
  refine r_icmp_eq (tgt := 1624) C dL_law_695 (by decide) ?_ ?_
  · refine r_widen (k := kc + 1) (n := ks + 6) (by omega) (by omega) ?_
    refine r_iinc (lv' := [(0, .ref b), (1, p_rf g o1), (2, p_rf g o2), (3, p_rf g o3)]) C dL_law_1624 4 rfl k_i5 (by decide) (fun _ => rfl) (fun x7 => ?_)
    refine r_goto (tgt := 23) C dL_law_1627 (by decide) ?_
    refine r_perm (lv' := [(0, .ref b), (1, p_rf g o1), (2, p_rf g o2), (3, p_rf g o3), (4, .int x7)]) [1, 2, 3, 4, 0] rfl ?_
    exact hr x7 h6
  · refine r_iconst C dL_law_698 k_i0 ?_
    exact r_none
set_option maxRecDepth 100000 in
set_option maxHeartbeats 4000000 in
theorem tLc_14 {K : AC} {g : WG} {b L : Nat} {xs : Nat → Int32} (hg : p_al g = false) (htr : K.2.1.stackTraces = false) (C : Cx K g cL_law 8 RL (some .boolean) "law" 1000 601024 7293034) (CS : va_X b L xs (a_s K) (a_s K).heap ∧ b < (a_s K).heap.size ∧ ¬ p_A g b) {kc ks : Nat} (hkc : kc + 1 ≤ 601024) (hks : ks + 6 ≤ 7293034) {fin : Unit → PH → State → Prop} (o1 o2 o3 : Nat) (i4 : Int32) {rc : Int32 → PH → Option (Unit × PH)} (hr : ∀ (y : Int32) (h : PH), VX K g 8 (kc + 1) (ks + 6) fin 23 [(0, .ref b), (1, p_rf g o1), (2, p_rf g o2), (3, p_rf g o3), (4, .int y)] [] h (rc y h)) (h : PH) : VX K g 8 kc ks fin 700 [(0, .ref b), (1, p_rf g o1), (2, p_rf g o2), (3, p_rf g o3), (4, .int i4)] [] h (fLc_14 xs L o1 o2 o3 i4 rc h) := by
  unfold fLc_14
  refine r_aload_n C dL_law_700 1 rfl ?_
  refine r_cvi (As := []) (st := []) C wv_L_90 (tcX11_year K.2.1 g hg o1 h) (Nat.le_of_ble_eq_true rfl) rfl rfl (Nat.le_of_ble_eq_true rfl) dL_law_701 ⟨by omega, by omega⟩ (fun x1 h2 => ?_)
  refine r_aload_n C dL_law_704 2 rfl ?_
  refine r_cvi (As := []) (st := [.int x1]) C wv_L_93 (tcX12_year K.2.1 g hg o2 h2) (Nat.le_of_ble_eq_true rfl) rfl rfl (Nat.le_of_ble_eq_true rfl) dL_law_705 ⟨by omega, by omega⟩ (fun x3 h4 => ?_)
  refine r_icmp_eq (tgt := 1624) C dL_law_708 (by decide) ?_ ?_
  · refine r_widen (k := kc + 1) (n := ks + 6) (by omega) (by omega) ?_
    refine r_iinc (lv' := [(0, .ref b), (1, p_rf g o1), (2, p_rf g o2), (3, p_rf g o3)]) C dL_law_1624 4 rfl k_i5 (by decide) (fun _ => rfl) (fun x5 => ?_)
    refine r_goto (tgt := 23) C dL_law_1627 (by decide) ?_
    refine r_perm (lv' := [(0, .ref b), (1, p_rf g o1), (2, p_rf g o2), (3, p_rf g o3), (4, .int x5)]) [1, 2, 3, 4, 0] rfl ?_
    exact hr x5 h4
  · refine r_iconst C dL_law_711 k_i0 ?_
    exact r_none
set_option maxRecDepth 100000 in
set_option maxHeartbeats 4000000 in
theorem tLc_15 {K : AC} {g : WG} {b L : Nat} {xs : Nat → Int32} (hg : p_al g = false) (htr : K.2.1.stackTraces = false) (C : Cx K g cL_law 8 RL (some .boolean) "law" 1000 601024 7293034) (CS : va_X b L xs (a_s K) (a_s K).heap ∧ b < (a_s K).heap.size ∧ ¬ p_A g b) {kc ks : Nat} (hkc : kc + 1 ≤ 601024) (hks : ks + 6 ≤ 7293034) {fin : Unit → PH → State → Prop} (o1 o2 o3 : Nat) (i4 : Int32) {rc : Int32 → PH → Option (Unit × PH)} (hr : ∀ (y : Int32) (h : PH), VX K g 8 (kc + 1) (ks + 6) fin 23 [(0, .ref b), (1, p_rf g o1), (2, p_rf g o2), (3, p_rf g o3), (4, .int y)] [] h (rc y h)) (h : PH) : VX K g 8 kc ks fin 713 [(0, .ref b), (1, p_rf g o1), (2, p_rf g o2), (3, p_rf g o3), (4, .int i4)] [] h (fLc_15 xs L o1 o2 o3 i4 rc h) := by
  unfold fLc_15
  refine r_aload_n C dL_law_713 1 rfl ?_
  refine r_cvi (As := []) (st := []) C wv_L_94 (tcX11_undo K.2.1 g hg o1 h) (Nat.le_of_ble_eq_true rfl) rfl rfl (Nat.le_of_ble_eq_true rfl) dL_law_714 ⟨by omega, by omega⟩ (fun x1 h2 => ?_)
  refine r_aload_n C dL_law_717 2 rfl ?_
  refine r_cvi (As := []) (st := [.int x1]) C wv_L_97 (tcX12_undo K.2.1 g hg o2 h2) (Nat.le_of_ble_eq_true rfl) rfl rfl (Nat.le_of_ble_eq_true rfl) dL_law_718 ⟨by omega, by omega⟩ (fun x3 h4 => ?_)
  refine r_icmp_eq (tgt := 1624) C dL_law_721 (by decide) ?_ ?_
  · refine r_widen (k := kc + 1) (n := ks + 6) (by omega) (by omega) ?_
    refine r_iinc (lv' := [(0, .ref b), (1, p_rf g o1), (2, p_rf g o2), (3, p_rf g o3)]) C dL_law_1624 4 rfl k_i5 (by decide) (fun _ => rfl) (fun x5 => ?_)
    refine r_goto (tgt := 23) C dL_law_1627 (by decide) ?_
    refine r_perm (lv' := [(0, .ref b), (1, p_rf g o1), (2, p_rf g o2), (3, p_rf g o3), (4, .int x5)]) [1, 2, 3, 4, 0] rfl ?_
    exact hr x5 h4
  · refine r_iconst C dL_law_724 k_i0 ?_
    exact r_none
set_option maxRecDepth 100000 in
set_option maxHeartbeats 4000000 in
theorem tLc_16 {K : AC} {g : WG} {b L : Nat} {xs : Nat → Int32} (hg : p_al g = false) (htr : K.2.1.stackTraces = false) (C : Cx K g cL_law 8 RL (some .boolean) "law" 1000 601024 7293034) (CS : va_X b L xs (a_s K) (a_s K).heap ∧ b < (a_s K).heap.size ∧ ¬ p_A g b) {kc ks : Nat} (hkc : kc + 1 ≤ 601024) (hks : ks + 6 ≤ 7293034) {fin : Unit → PH → State → Prop} (o1 o2 o3 : Nat) (i4 : Int32) {rc : Int32 → PH → Option (Unit × PH)} (hr : ∀ (y : Int32) (h : PH), VX K g 8 (kc + 1) (ks + 6) fin 23 [(0, .ref b), (1, p_rf g o1), (2, p_rf g o2), (3, p_rf g o3), (4, .int y)] [] h (rc y h)) (h : PH) : VX K g 8 kc ks fin 726 [(0, .ref b), (1, p_rf g o1), (2, p_rf g o2), (3, p_rf g o3), (4, .int i4)] [] h (fLc_16 xs L o1 o2 o3 i4 rc h) := by
  unfold fLc_16
  refine r_aload_n C dL_law_726 1 rfl ?_
  refine r_aloadS C dL_law_727 0 rfl ?_
  refine r_iload C dL_law_728 4 rfl ?_
  refine r_iconst C dL_law_730 k_i1 ?_
  refine r_iadd C dL_law_731 ?_
  refine r_sld C CS dL_law_732 (fun x1 => ?_)
  refine r_aloadS C dL_law_733 0 rfl ?_
  refine r_iload C dL_law_734 4 rfl ?_
  refine r_iconst C dL_law_736 k_i2 ?_
  refine r_iadd C dL_law_737 ?_
  refine r_sld C CS dL_law_738 (fun x2 => ?_)
  refine r_aloadS C dL_law_739 0 rfl ?_
  refine r_iload C dL_law_740 4 rfl ?_
  refine r_iconst C dL_law_742 k_i3 ?_
  refine r_iadd C dL_law_743 ?_
  refine r_sld C CS dL_law_744 (fun x3 => ?_)
  refine r_cvi (As := [.int x1, .int x2, .int x3]) (st := []) C wv_L_98 (tcX11_later K.2.1 g hg o1 x1 x2 x3 h) (Nat.le_of_ble_eq_true rfl) rfl rfl (Nat.le_of_ble_eq_true rfl) dL_law_745 ⟨by omega, by omega⟩ (fun x4 h5 => ?_)
  refine r_aload_n C dL_law_748 2 rfl ?_
  refine r_aloadS C dL_law_749 0 rfl ?_
  refine r_iload C dL_law_750 4 rfl ?_
  refine r_iconst C dL_law_752 k_i1 ?_
  refine r_iadd C dL_law_753 ?_
  refine r_sld C CS dL_law_754 (fun x6 => ?_)
  refine r_aloadS C dL_law_755 0 rfl ?_
  refine r_iload C dL_law_756 4 rfl ?_
  refine r_iconst C dL_law_758 k_i2 ?_
  refine r_iadd C dL_law_759 ?_
  refine r_sld C CS dL_law_760 (fun x7 => ?_)
  refine r_aloadS C dL_law_761 0 rfl ?_
  refine r_iload C dL_law_762 4 rfl ?_
  refine r_iconst C dL_law_764 k_i3 ?_
  refine r_iadd C dL_law_765 ?_
  refine r_sld C CS dL_law_766 (fun x8 => ?_)
  refine r_cvi (As := [.int x6, .int x7, .int x8]) (st := [.int x4]) C wv_L_102 (tcX12_later K.2.1 g hg o2 x6 x7 x8 h5) (Nat.le_of_ble_eq_true rfl) rfl rfl (Nat.le_of_ble_eq_true rfl) dL_law_767 ⟨by omega, by omega⟩ (fun x9 h10 => ?_)
  refine r_icmp_eq (tgt := 1624) C dL_law_770 (by decide) ?_ ?_
  · refine r_widen (k := kc + 1) (n := ks + 6) (by omega) (by omega) ?_
    refine r_iinc (lv' := [(0, .ref b), (1, p_rf g o1), (2, p_rf g o2), (3, p_rf g o3)]) C dL_law_1624 4 rfl k_i5 (by decide) (fun _ => rfl) (fun x11 => ?_)
    refine r_goto (tgt := 23) C dL_law_1627 (by decide) ?_
    refine r_perm (lv' := [(0, .ref b), (1, p_rf g o1), (2, p_rf g o2), (3, p_rf g o3), (4, .int x11)]) [1, 2, 3, 4, 0] rfl ?_
    exact hr x11 h10
  · refine r_iconst C dL_law_773 k_i0 ?_
    exact r_none
set_option maxRecDepth 100000 in
set_option maxHeartbeats 4000000 in
theorem tLc_17 {K : AC} {g : WG} {b L : Nat} {xs : Nat → Int32} (hg : p_al g = false) (htr : K.2.1.stackTraces = false) (C : Cx K g cL_law 8 RL (some .boolean) "law" 1000 601024 7293034) (CS : va_X b L xs (a_s K) (a_s K).heap ∧ b < (a_s K).heap.size ∧ ¬ p_A g b) {kc ks : Nat} (hkc : kc + 1 ≤ 601024) (hks : ks + 6 ≤ 7293034) {fin : Unit → PH → State → Prop} (o1 o2 o3 : Nat) (i4 : Int32) {rc : Int32 → PH → Option (Unit × PH)} (hr : ∀ (y : Int32) (h : PH), VX K g 8 (kc + 1) (ks + 6) fin 23 [(0, .ref b), (1, p_rf g o1), (2, p_rf g o2), (3, p_rf g o3), (4, .int y)] [] h (rc y h)) (h : PH) : VX K g 8 kc ks fin 775 [(0, .ref b), (1, p_rf g o1), (2, p_rf g o2), (3, p_rf g o3), (4, .int i4)] [] h (fLc_17 xs L o1 o2 o3 i4 rc h) := by
  unfold fLc_17
  refine r_aload_n C dL_law_775 1 rfl ?_
  refine r_aloadS C dL_law_776 0 rfl ?_
  refine r_iload C dL_law_777 4 rfl ?_
  refine r_iconst C dL_law_779 k_i1 ?_
  refine r_iadd C dL_law_780 ?_
  refine r_sld C CS dL_law_781 (fun x1 => ?_)
  refine r_cvi (As := [.int x1]) (st := []) C wv_L_103 (tcX11_settles K.2.1 g hg o1 x1 h) (Nat.le_of_ble_eq_true rfl) rfl rfl (Nat.le_of_ble_eq_true rfl) dL_law_782 ⟨by omega, by omega⟩ (fun x2 h3 => ?_)
  refine r_aload_n C dL_law_785 2 rfl ?_
  refine r_aloadS C dL_law_786 0 rfl ?_
  refine r_iload C dL_law_787 4 rfl ?_
  refine r_iconst C dL_law_789 k_i1 ?_
  refine r_iadd C dL_law_790 ?_
  refine r_sld C CS dL_law_791 (fun x4 => ?_)
  refine r_cvi (As := [.int x4]) (st := [.int x2]) C wv_L_106 (tcX12_settles K.2.1 g hg o2 x4 h3) (Nat.le_of_ble_eq_true rfl) rfl rfl (Nat.le_of_ble_eq_true rfl) dL_law_792 ⟨by omega, by omega⟩ (fun x5 h6 => ?_)
  refine r_icmp_eq (tgt := 1624) C dL_law_795 (by decide) ?_ ?_
  · refine r_widen (k := kc + 1) (n := ks + 6) (by omega) (by omega) ?_
    refine r_iinc (lv' := [(0, .ref b), (1, p_rf g o1), (2, p_rf g o2), (3, p_rf g o3)]) C dL_law_1624 4 rfl k_i5 (by decide) (fun _ => rfl) (fun x7 => ?_)
    refine r_goto (tgt := 23) C dL_law_1627 (by decide) ?_
    refine r_perm (lv' := [(0, .ref b), (1, p_rf g o1), (2, p_rf g o2), (3, p_rf g o3), (4, .int x7)]) [1, 2, 3, 4, 0] rfl ?_
    exact hr x7 h6
  · refine r_iconst C dL_law_798 k_i0 ?_
    exact r_none
set_option maxRecDepth 100000 in
set_option maxHeartbeats 4000000 in
theorem tLc_18 {K : AC} {g : WG} {b L : Nat} {xs : Nat → Int32} (hg : p_al g = false) (htr : K.2.1.stackTraces = false) (C : Cx K g cL_law 8 RL (some .boolean) "law" 1000 601024 7293034) (CS : va_X b L xs (a_s K) (a_s K).heap ∧ b < (a_s K).heap.size ∧ ¬ p_A g b) {kc ks : Nat} (hkc : kc + 1 ≤ 601024) (hks : ks + 6 ≤ 7293034) {fin : Unit → PH → State → Prop} (o1 o2 o3 : Nat) (i4 : Int32) {rc : Int32 → PH → Option (Unit × PH)} (hr : ∀ (y : Int32) (h : PH), VX K g 8 (kc + 1) (ks + 6) fin 23 [(0, .ref b), (1, p_rf g o1), (2, p_rf g o2), (3, p_rf g o3), (4, .int y)] [] h (rc y h)) (h : PH) : VX K g 8 kc ks fin 800 [(0, .ref b), (1, p_rf g o1), (2, p_rf g o2), (3, p_rf g o3), (4, .int i4)] [] h (fLc_18 xs L o1 o2 o3 i4 rc h) := by
  unfold fLc_18
  refine r_aload_n C dL_law_800 1 rfl ?_
  refine r_aloadS C dL_law_801 0 rfl ?_
  refine r_iload C dL_law_802 4 rfl ?_
  refine r_iconst C dL_law_804 k_i1 ?_
  refine r_iadd C dL_law_805 ?_
  refine r_sld C CS dL_law_806 (fun x1 => ?_)
  refine r_aloadS C dL_law_807 0 rfl ?_
  refine r_iload C dL_law_808 4 rfl ?_
  refine r_iconst C dL_law_810 k_i2 ?_
  refine r_iadd C dL_law_811 ?_
  refine r_sld C CS dL_law_812 (fun x2 => ?_)
  refine r_cvi (As := [.int x1, .int x2]) (st := []) C wv_L_107 (tcX11_when K.2.1 g hg o1 x1 x2 h) (Nat.le_of_ble_eq_true rfl) rfl rfl (Nat.le_of_ble_eq_true rfl) dL_law_813 ⟨by omega, by omega⟩ (fun x3 h4 => ?_)
  refine r_aload_n C dL_law_816 2 rfl ?_
  refine r_aloadS C dL_law_817 0 rfl ?_
  refine r_iload C dL_law_818 4 rfl ?_
  refine r_iconst C dL_law_820 k_i1 ?_
  refine r_iadd C dL_law_821 ?_
  refine r_sld C CS dL_law_822 (fun x5 => ?_)
  refine r_aloadS C dL_law_823 0 rfl ?_
  refine r_iload C dL_law_824 4 rfl ?_
  refine r_iconst C dL_law_826 k_i2 ?_
  refine r_iadd C dL_law_827 ?_
  refine r_sld C CS dL_law_828 (fun x6 => ?_)
  refine r_cvi (As := [.int x5, .int x6]) (st := [.int x3]) C wv_L_110 (tcX12_when K.2.1 g hg o2 x5 x6 h4) (Nat.le_of_ble_eq_true rfl) rfl rfl (Nat.le_of_ble_eq_true rfl) dL_law_829 ⟨by omega, by omega⟩ (fun x7 h8 => ?_)
  refine r_icmp_eq (tgt := 1624) C dL_law_832 (by decide) ?_ ?_
  · refine r_widen (k := kc + 1) (n := ks + 6) (by omega) (by omega) ?_
    refine r_iinc (lv' := [(0, .ref b), (1, p_rf g o1), (2, p_rf g o2), (3, p_rf g o3)]) C dL_law_1624 4 rfl k_i5 (by decide) (fun _ => rfl) (fun x9 => ?_)
    refine r_goto (tgt := 23) C dL_law_1627 (by decide) ?_
    refine r_perm (lv' := [(0, .ref b), (1, p_rf g o1), (2, p_rf g o2), (3, p_rf g o3), (4, .int x9)]) [1, 2, 3, 4, 0] rfl ?_
    exact hr x9 h8
  · refine r_iconst C dL_law_835 k_i0 ?_
    exact r_none
set_option maxRecDepth 100000 in
set_option maxHeartbeats 4000000 in
theorem tLc_19 {K : AC} {g : WG} {b L : Nat} {xs : Nat → Int32} (hg : p_al g = false) (htr : K.2.1.stackTraces = false) (C : Cx K g cL_law 8 RL (some .boolean) "law" 1000 601024 7293034) (CS : va_X b L xs (a_s K) (a_s K).heap ∧ b < (a_s K).heap.size ∧ ¬ p_A g b) {kc ks : Nat} (hkc : kc + 1 ≤ 601024) (hks : ks + 6 ≤ 7293034) {fin : Unit → PH → State → Prop} (o1 o2 o3 : Nat) (i4 : Int32) {rc : Int32 → PH → Option (Unit × PH)} (hr : ∀ (y : Int32) (h : PH), VX K g 8 (kc + 1) (ks + 6) fin 23 [(0, .ref b), (1, p_rf g o1), (2, p_rf g o2), (3, p_rf g o3), (4, .int y)] [] h (rc y h)) (h : PH) : VX K g 8 kc ks fin 837 [(0, .ref b), (1, p_rf g o1), (2, p_rf g o2), (3, p_rf g o3), (4, .int i4)] [] h (fLc_19 xs L o1 o2 o3 i4 rc h) := by
  unfold fLc_19
  refine r_aload_n C dL_law_837 1 rfl ?_
  refine r_aloadS C dL_law_838 0 rfl ?_
  refine r_iload C dL_law_839 4 rfl ?_
  refine r_iconst C dL_law_841 k_i1 ?_
  refine r_iadd C dL_law_842 ?_
  refine r_sld C CS dL_law_843 (fun x1 => ?_)
  refine r_aloadS C dL_law_844 0 rfl ?_
  refine r_iload C dL_law_845 4 rfl ?_
  refine r_iconst C dL_law_847 k_i2 ?_
  refine r_iadd C dL_law_848 ?_
  refine r_sld C CS dL_law_849 (fun x2 => ?_)
  refine r_cvi (As := [.int x1, .int x2]) (st := []) C wv_L_111 (tcX11_lacks K.2.1 g hg o1 x1 x2 h) (Nat.le_of_ble_eq_true rfl) rfl rfl (Nat.le_of_ble_eq_true rfl) dL_law_850 ⟨by omega, by omega⟩ (fun x3 h4 => ?_)
  refine r_aload_n C dL_law_853 2 rfl ?_
  refine r_aloadS C dL_law_854 0 rfl ?_
  refine r_iload C dL_law_855 4 rfl ?_
  refine r_iconst C dL_law_857 k_i1 ?_
  refine r_iadd C dL_law_858 ?_
  refine r_sld C CS dL_law_859 (fun x5 => ?_)
  refine r_aloadS C dL_law_860 0 rfl ?_
  refine r_iload C dL_law_861 4 rfl ?_
  refine r_iconst C dL_law_863 k_i2 ?_
  refine r_iadd C dL_law_864 ?_
  refine r_sld C CS dL_law_865 (fun x6 => ?_)
  refine r_cvi (As := [.int x5, .int x6]) (st := [.int x3]) C wv_L_114 (tcX12_lacks K.2.1 g hg o2 x5 x6 h4) (Nat.le_of_ble_eq_true rfl) rfl rfl (Nat.le_of_ble_eq_true rfl) dL_law_866 ⟨by omega, by omega⟩ (fun x7 h8 => ?_)
  refine r_icmp_eq (tgt := 1624) C dL_law_869 (by decide) ?_ ?_
  · refine r_widen (k := kc + 1) (n := ks + 6) (by omega) (by omega) ?_
    refine r_iinc (lv' := [(0, .ref b), (1, p_rf g o1), (2, p_rf g o2), (3, p_rf g o3)]) C dL_law_1624 4 rfl k_i5 (by decide) (fun _ => rfl) (fun x9 => ?_)
    refine r_goto (tgt := 23) C dL_law_1627 (by decide) ?_
    refine r_perm (lv' := [(0, .ref b), (1, p_rf g o1), (2, p_rf g o2), (3, p_rf g o3), (4, .int x9)]) [1, 2, 3, 4, 0] rfl ?_
    exact hr x9 h8
  · refine r_iconst C dL_law_872 k_i0 ?_
    exact r_none
set_option maxRecDepth 100000 in
set_option maxHeartbeats 4000000 in
theorem tLc_20 {K : AC} {g : WG} {b L : Nat} {xs : Nat → Int32} (hg : p_al g = false) (htr : K.2.1.stackTraces = false) (C : Cx K g cL_law 8 RL (some .boolean) "law" 1000 601024 7293034) (CS : va_X b L xs (a_s K) (a_s K).heap ∧ b < (a_s K).heap.size ∧ ¬ p_A g b) {kc ks : Nat} (hkc : kc + 1 ≤ 601024) (hks : ks + 6 ≤ 7293034) {fin : Unit → PH → State → Prop} (o1 o2 o3 : Nat) (i4 : Int32) {rc : Int32 → PH → Option (Unit × PH)} (hr : ∀ (y : Int32) (h : PH), VX K g 8 (kc + 1) (ks + 6) fin 23 [(0, .ref b), (1, p_rf g o1), (2, p_rf g o2), (3, p_rf g o3), (4, .int y)] [] h (rc y h)) (h : PH) : VX K g 8 kc ks fin 874 [(0, .ref b), (1, p_rf g o1), (2, p_rf g o2), (3, p_rf g o3), (4, .int i4)] [] h (fLc_20 xs L o1 o2 o3 i4 rc h) := by
  unfold fLc_20
  refine r_aload_n C dL_law_874 1 rfl ?_
  refine r_cvi (As := []) (st := []) C wv_L_115 (tcX11_richest K.2.1 g hg o1 h) (Nat.le_of_ble_eq_true rfl) rfl rfl (Nat.le_of_ble_eq_true rfl) dL_law_875 ⟨by omega, by omega⟩ (fun x1 h2 => ?_)
  refine r_aload_n C dL_law_878 2 rfl ?_
  refine r_cvi (As := []) (st := [.int x1]) C wv_L_118 (tcX12_richest K.2.1 g hg o2 h2) (Nat.le_of_ble_eq_true rfl) rfl rfl (Nat.le_of_ble_eq_true rfl) dL_law_879 ⟨by omega, by omega⟩ (fun x3 h4 => ?_)
  refine r_icmp_eq (tgt := 1624) C dL_law_882 (by decide) ?_ ?_
  · refine r_widen (k := kc + 1) (n := ks + 6) (by omega) (by omega) ?_
    refine r_iinc (lv' := [(0, .ref b), (1, p_rf g o1), (2, p_rf g o2), (3, p_rf g o3)]) C dL_law_1624 4 rfl k_i5 (by decide) (fun _ => rfl) (fun x5 => ?_)
    refine r_goto (tgt := 23) C dL_law_1627 (by decide) ?_
    refine r_perm (lv' := [(0, .ref b), (1, p_rf g o1), (2, p_rf g o2), (3, p_rf g o3), (4, .int x5)]) [1, 2, 3, 4, 0] rfl ?_
    exact hr x5 h4
  · refine r_iconst C dL_law_885 k_i0 ?_
    exact r_none
set_option maxRecDepth 100000 in
set_option maxHeartbeats 4000000 in
theorem tLc_21 {K : AC} {g : WG} {b L : Nat} {xs : Nat → Int32} (hg : p_al g = false) (htr : K.2.1.stackTraces = false) (C : Cx K g cL_law 8 RL (some .boolean) "law" 1000 601024 7293034) (CS : va_X b L xs (a_s K) (a_s K).heap ∧ b < (a_s K).heap.size ∧ ¬ p_A g b) {kc ks : Nat} (hkc : kc + 1 ≤ 601024) (hks : ks + 6 ≤ 7293034) {fin : Unit → PH → State → Prop} (o1 o2 o3 : Nat) (i4 : Int32) {rc : Int32 → PH → Option (Unit × PH)} (hr : ∀ (y : Int32) (h : PH), VX K g 8 (kc + 1) (ks + 6) fin 23 [(0, .ref b), (1, p_rf g o1), (2, p_rf g o2), (3, p_rf g o3), (4, .int y)] [] h (rc y h)) (h : PH) : VX K g 8 kc ks fin 887 [(0, .ref b), (1, p_rf g o1), (2, p_rf g o2), (3, p_rf g o3), (4, .int i4)] [] h (fLc_21 xs L o1 o2 o3 i4 rc h) := by
  unfold fLc_21
  refine r_aload_n C dL_law_887 1 rfl ?_
  refine r_aloadS C dL_law_888 0 rfl ?_
  refine r_iload C dL_law_889 4 rfl ?_
  refine r_iconst C dL_law_891 k_i1 ?_
  refine r_iadd C dL_law_892 ?_
  refine r_sld C CS dL_law_893 (fun x1 => ?_)
  refine r_aloadS C dL_law_894 0 rfl ?_
  refine r_iload C dL_law_895 4 rfl ?_
  refine r_iconst C dL_law_897 k_i2 ?_
  refine r_iadd C dL_law_898 ?_
  refine r_sld C CS dL_law_899 (fun x2 => ?_)
  refine r_aloadS C dL_law_900 0 rfl ?_
  refine r_iload C dL_law_901 4 rfl ?_
  refine r_iconst C dL_law_903 k_i3 ?_
  refine r_iadd C dL_law_904 ?_
  refine r_sld C CS dL_law_905 (fun x3 => ?_)
  refine r_cvi (As := [.int x1, .int x2, .int x3]) (st := []) C wv_L_119 (tcX11_apart K.2.1 g hg o1 x1 x2 x3 h) (Nat.le_of_ble_eq_true rfl) rfl rfl (Nat.le_of_ble_eq_true rfl) dL_law_906 ⟨by omega, by omega⟩ (fun x4 h5 => ?_)
  refine r_aload_n C dL_law_909 2 rfl ?_
  refine r_aloadS C dL_law_910 0 rfl ?_
  refine r_iload C dL_law_911 4 rfl ?_
  refine r_iconst C dL_law_913 k_i1 ?_
  refine r_iadd C dL_law_914 ?_
  refine r_sld C CS dL_law_915 (fun x6 => ?_)
  refine r_aloadS C dL_law_916 0 rfl ?_
  refine r_iload C dL_law_917 4 rfl ?_
  refine r_iconst C dL_law_919 k_i2 ?_
  refine r_iadd C dL_law_920 ?_
  refine r_sld C CS dL_law_921 (fun x7 => ?_)
  refine r_aloadS C dL_law_922 0 rfl ?_
  refine r_iload C dL_law_923 4 rfl ?_
  refine r_iconst C dL_law_925 k_i3 ?_
  refine r_iadd C dL_law_926 ?_
  refine r_sld C CS dL_law_927 (fun x8 => ?_)
  refine r_cvi (As := [.int x6, .int x7, .int x8]) (st := [.int x4]) C wv_L_122 (tcX12_apart K.2.1 g hg o2 x6 x7 x8 h5) (Nat.le_of_ble_eq_true rfl) rfl rfl (Nat.le_of_ble_eq_true rfl) dL_law_928 ⟨by omega, by omega⟩ (fun x9 h10 => ?_)
  refine r_icmp_eq (tgt := 1624) C dL_law_931 (by decide) ?_ ?_
  · refine r_widen (k := kc + 1) (n := ks + 6) (by omega) (by omega) ?_
    refine r_iinc (lv' := [(0, .ref b), (1, p_rf g o1), (2, p_rf g o2), (3, p_rf g o3)]) C dL_law_1624 4 rfl k_i5 (by decide) (fun _ => rfl) (fun x11 => ?_)
    refine r_goto (tgt := 23) C dL_law_1627 (by decide) ?_
    refine r_perm (lv' := [(0, .ref b), (1, p_rf g o1), (2, p_rf g o2), (3, p_rf g o3), (4, .int x11)]) [1, 2, 3, 4, 0] rfl ?_
    exact hr x11 h10
  · refine r_iconst C dL_law_934 k_i0 ?_
    exact r_none
set_option maxRecDepth 100000 in
set_option maxHeartbeats 4000000 in
theorem tLc_22 {K : AC} {g : WG} {b L : Nat} {xs : Nat → Int32} (hg : p_al g = false) (htr : K.2.1.stackTraces = false) (C : Cx K g cL_law 8 RL (some .boolean) "law" 1000 601024 7293034) (CS : va_X b L xs (a_s K) (a_s K).heap ∧ b < (a_s K).heap.size ∧ ¬ p_A g b) {kc ks : Nat} (hkc : kc + 1 ≤ 601024) (hks : ks + 6 ≤ 7293034) {fin : Unit → PH → State → Prop} (o1 o2 o3 : Nat) (i4 : Int32) {rc : Int32 → PH → Option (Unit × PH)} (hr : ∀ (y : Int32) (h : PH), VX K g 8 (kc + 1) (ks + 6) fin 23 [(0, .ref b), (1, p_rf g o1), (2, p_rf g o2), (3, p_rf g o3), (4, .int y)] [] h (rc y h)) (h : PH) : VX K g 8 kc ks fin 936 [(0, .ref b), (1, p_rf g o1), (2, p_rf g o2), (3, p_rf g o3), (4, .int i4)] [] h (fLc_22 xs L o1 o2 o3 i4 rc h) := by
  unfold fLc_22
  refine r_aload_n C dL_law_936 1 rfl ?_
  refine r_aloadS C dL_law_937 0 rfl ?_
  refine r_iload C dL_law_938 4 rfl ?_
  refine r_iconst C dL_law_940 k_i1 ?_
  refine r_iadd C dL_law_941 ?_
  refine r_sld C CS dL_law_942 (fun x1 => ?_)
  refine r_aloadS C dL_law_943 0 rfl ?_
  refine r_iload C dL_law_944 4 rfl ?_
  refine r_iconst C dL_law_946 k_i2 ?_
  refine r_iadd C dL_law_947 ?_
  refine r_sld C CS dL_law_948 (fun x2 => ?_)
  refine r_aloadS C dL_law_949 0 rfl ?_
  refine r_iload C dL_law_950 4 rfl ?_
  refine r_iconst C dL_law_952 k_i3 ?_
  refine r_iadd C dL_law_953 ?_
  refine r_sld C CS dL_law_954 (fun x3 => ?_)
  refine r_cvi (As := [.int x1, .int x2, .int x3]) (st := []) C wv_L_123 (tcX11_fewest K.2.1 g hg o1 x1 x2 x3 h) (Nat.le_of_ble_eq_true rfl) rfl rfl (Nat.le_of_ble_eq_true rfl) dL_law_955 ⟨by omega, by omega⟩ (fun x4 h5 => ?_)
  refine r_aload_n C dL_law_958 2 rfl ?_
  refine r_aloadS C dL_law_959 0 rfl ?_
  refine r_iload C dL_law_960 4 rfl ?_
  refine r_iconst C dL_law_962 k_i1 ?_
  refine r_iadd C dL_law_963 ?_
  refine r_sld C CS dL_law_964 (fun x6 => ?_)
  refine r_aloadS C dL_law_965 0 rfl ?_
  refine r_iload C dL_law_966 4 rfl ?_
  refine r_iconst C dL_law_968 k_i2 ?_
  refine r_iadd C dL_law_969 ?_
  refine r_sld C CS dL_law_970 (fun x7 => ?_)
  refine r_aloadS C dL_law_971 0 rfl ?_
  refine r_iload C dL_law_972 4 rfl ?_
  refine r_iconst C dL_law_974 k_i3 ?_
  refine r_iadd C dL_law_975 ?_
  refine r_sld C CS dL_law_976 (fun x8 => ?_)
  refine r_cvi (As := [.int x6, .int x7, .int x8]) (st := [.int x4]) C wv_L_126 (tcX12_fewest K.2.1 g hg o2 x6 x7 x8 h5) (Nat.le_of_ble_eq_true rfl) rfl rfl (Nat.le_of_ble_eq_true rfl) dL_law_977 ⟨by omega, by omega⟩ (fun x9 h10 => ?_)
  refine r_icmp_eq (tgt := 1624) C dL_law_980 (by decide) ?_ ?_
  · refine r_widen (k := kc + 1) (n := ks + 6) (by omega) (by omega) ?_
    refine r_iinc (lv' := [(0, .ref b), (1, p_rf g o1), (2, p_rf g o2), (3, p_rf g o3)]) C dL_law_1624 4 rfl k_i5 (by decide) (fun _ => rfl) (fun x11 => ?_)
    refine r_goto (tgt := 23) C dL_law_1627 (by decide) ?_
    refine r_perm (lv' := [(0, .ref b), (1, p_rf g o1), (2, p_rf g o2), (3, p_rf g o3), (4, .int x11)]) [1, 2, 3, 4, 0] rfl ?_
    exact hr x11 h10
  · refine r_iconst C dL_law_983 k_i0 ?_
    exact r_none
set_option maxRecDepth 100000 in
set_option maxHeartbeats 4000000 in
theorem tLc_23 {K : AC} {g : WG} {b L : Nat} {xs : Nat → Int32} (hg : p_al g = false) (htr : K.2.1.stackTraces = false) (C : Cx K g cL_law 8 RL (some .boolean) "law" 1000 601024 7293034) (CS : va_X b L xs (a_s K) (a_s K).heap ∧ b < (a_s K).heap.size ∧ ¬ p_A g b) {kc ks : Nat} (hkc : kc + 1 ≤ 601024) (hks : ks + 6 ≤ 7293034) {fin : Unit → PH → State → Prop} (o1 o2 o3 : Nat) (i4 : Int32) {rc : Int32 → PH → Option (Unit × PH)} (hr : ∀ (y : Int32) (h : PH), VX K g 8 (kc + 1) (ks + 6) fin 23 [(0, .ref b), (1, p_rf g o1), (2, p_rf g o2), (3, p_rf g o3), (4, .int y)] [] h (rc y h)) (h : PH) : VX K g 8 kc ks fin 985 [(0, .ref b), (1, p_rf g o1), (2, p_rf g o2), (3, p_rf g o3), (4, .int i4)] [] h (fLc_23 xs L o1 o2 o3 i4 rc h) := by
  unfold fLc_23
  refine r_aload_n C dL_law_985 1 rfl ?_
  refine r_aloadS C dL_law_986 0 rfl ?_
  refine r_iload C dL_law_987 4 rfl ?_
  refine r_iconst C dL_law_989 k_i1 ?_
  refine r_iadd C dL_law_990 ?_
  refine r_sld C CS dL_law_991 (fun x1 => ?_)
  refine r_aloadS C dL_law_992 0 rfl ?_
  refine r_iload C dL_law_993 4 rfl ?_
  refine r_iconst C dL_law_995 k_i2 ?_
  refine r_iadd C dL_law_996 ?_
  refine r_sld C CS dL_law_997 (fun x2 => ?_)
  refine r_cvi (As := [.int x1, .int x2]) (st := []) C wv_L_127 (tcX11_serves K.2.1 g hg o1 x1 x2 h) (Nat.le_of_ble_eq_true rfl) rfl rfl (Nat.le_of_ble_eq_true rfl) dL_law_998 ⟨by omega, by omega⟩ (fun x3 h4 => ?_)
  refine r_aload_n C dL_law_1001 2 rfl ?_
  refine r_aloadS C dL_law_1002 0 rfl ?_
  refine r_iload C dL_law_1003 4 rfl ?_
  refine r_iconst C dL_law_1005 k_i1 ?_
  refine r_iadd C dL_law_1006 ?_
  refine r_sld C CS dL_law_1007 (fun x5 => ?_)
  refine r_aloadS C dL_law_1008 0 rfl ?_
  refine r_iload C dL_law_1009 4 rfl ?_
  refine r_iconst C dL_law_1011 k_i2 ?_
  refine r_iadd C dL_law_1012 ?_
  refine r_sld C CS dL_law_1013 (fun x6 => ?_)
  refine r_cvi (As := [.int x5, .int x6]) (st := [.int x3]) C wv_L_130 (tcX12_serves K.2.1 g hg o2 x5 x6 h4) (Nat.le_of_ble_eq_true rfl) rfl rfl (Nat.le_of_ble_eq_true rfl) dL_law_1014 ⟨by omega, by omega⟩ (fun x7 h8 => ?_)
  refine r_icmp_eq (tgt := 1624) C dL_law_1017 (by decide) ?_ ?_
  · refine r_widen (k := kc + 1) (n := ks + 6) (by omega) (by omega) ?_
    refine r_iinc (lv' := [(0, .ref b), (1, p_rf g o1), (2, p_rf g o2), (3, p_rf g o3)]) C dL_law_1624 4 rfl k_i5 (by decide) (fun _ => rfl) (fun x9 => ?_)
    refine r_goto (tgt := 23) C dL_law_1627 (by decide) ?_
    refine r_perm (lv' := [(0, .ref b), (1, p_rf g o1), (2, p_rf g o2), (3, p_rf g o3), (4, .int x9)]) [1, 2, 3, 4, 0] rfl ?_
    exact hr x9 h8
  · refine r_iconst C dL_law_1020 k_i0 ?_
    exact r_none
set_option maxRecDepth 100000 in
set_option maxHeartbeats 4000000 in
theorem tLc_24 {K : AC} {g : WG} {b L : Nat} {xs : Nat → Int32} (hg : p_al g = false) (htr : K.2.1.stackTraces = false) (C : Cx K g cL_law 8 RL (some .boolean) "law" 1000 601024 7293034) (CS : va_X b L xs (a_s K) (a_s K).heap ∧ b < (a_s K).heap.size ∧ ¬ p_A g b) {kc ks : Nat} (hkc : kc + 1 ≤ 601024) (hks : ks + 6 ≤ 7293034) {fin : Unit → PH → State → Prop} (o1 o2 o3 : Nat) (i4 : Int32) {rc : Int32 → PH → Option (Unit × PH)} (hr : ∀ (y : Int32) (h : PH), VX K g 8 (kc + 1) (ks + 6) fin 23 [(0, .ref b), (1, p_rf g o1), (2, p_rf g o2), (3, p_rf g o3), (4, .int y)] [] h (rc y h)) (h : PH) : VX K g 8 kc ks fin 1022 [(0, .ref b), (1, p_rf g o1), (2, p_rf g o2), (3, p_rf g o3), (4, .int i4)] [] h (fLc_24 xs L o1 o2 o3 i4 rc h) := by
  unfold fLc_24
  refine r_aload_n C dL_law_1022 1 rfl ?_
  refine r_aloadS C dL_law_1023 0 rfl ?_
  refine r_iload C dL_law_1024 4 rfl ?_
  refine r_iconst C dL_law_1026 k_i1 ?_
  refine r_iadd C dL_law_1027 ?_
  refine r_sld C CS dL_law_1028 (fun x1 => ?_)
  refine r_aloadS C dL_law_1029 0 rfl ?_
  refine r_iload C dL_law_1030 4 rfl ?_
  refine r_iconst C dL_law_1032 k_i2 ?_
  refine r_iadd C dL_law_1033 ?_
  refine r_sld C CS dL_law_1034 (fun x2 => ?_)
  refine r_cvi (As := [.int x1, .int x2]) (st := []) C wv_L_131 (tcX11_burdens K.2.1 g hg o1 x1 x2 h) (Nat.le_of_ble_eq_true rfl) rfl rfl (Nat.le_of_ble_eq_true rfl) dL_law_1035 ⟨by omega, by omega⟩ (fun x3 h4 => ?_)
  refine r_aload_n C dL_law_1038 2 rfl ?_
  refine r_aloadS C dL_law_1039 0 rfl ?_
  refine r_iload C dL_law_1040 4 rfl ?_
  refine r_iconst C dL_law_1042 k_i1 ?_
  refine r_iadd C dL_law_1043 ?_
  refine r_sld C CS dL_law_1044 (fun x5 => ?_)
  refine r_aloadS C dL_law_1045 0 rfl ?_
  refine r_iload C dL_law_1046 4 rfl ?_
  refine r_iconst C dL_law_1048 k_i2 ?_
  refine r_iadd C dL_law_1049 ?_
  refine r_sld C CS dL_law_1050 (fun x6 => ?_)
  refine r_cvi (As := [.int x5, .int x6]) (st := [.int x3]) C wv_L_134 (tcX12_burdens K.2.1 g hg o2 x5 x6 h4) (Nat.le_of_ble_eq_true rfl) rfl rfl (Nat.le_of_ble_eq_true rfl) dL_law_1051 ⟨by omega, by omega⟩ (fun x7 h8 => ?_)
  refine r_icmp_eq (tgt := 1624) C dL_law_1054 (by decide) ?_ ?_
  · refine r_widen (k := kc + 1) (n := ks + 6) (by omega) (by omega) ?_
    refine r_iinc (lv' := [(0, .ref b), (1, p_rf g o1), (2, p_rf g o2), (3, p_rf g o3)]) C dL_law_1624 4 rfl k_i5 (by decide) (fun _ => rfl) (fun x9 => ?_)
    refine r_goto (tgt := 23) C dL_law_1627 (by decide) ?_
    refine r_perm (lv' := [(0, .ref b), (1, p_rf g o1), (2, p_rf g o2), (3, p_rf g o3), (4, .int x9)]) [1, 2, 3, 4, 0] rfl ?_
    exact hr x9 h8
  · refine r_iconst C dL_law_1057 k_i0 ?_
    exact r_none
set_option maxRecDepth 100000 in
set_option maxHeartbeats 4000000 in
theorem tLc_25 {K : AC} {g : WG} {b L : Nat} {xs : Nat → Int32} (hg : p_al g = false) (htr : K.2.1.stackTraces = false) (C : Cx K g cL_law 8 RL (some .boolean) "law" 1000 601024 7293034) (CS : va_X b L xs (a_s K) (a_s K).heap ∧ b < (a_s K).heap.size ∧ ¬ p_A g b) {kc ks : Nat} (hkc : kc + 1 ≤ 601024) (hks : ks + 6 ≤ 7293034) {fin : Unit → PH → State → Prop} (o1 o2 o3 : Nat) (i4 : Int32) {rc : Int32 → PH → Option (Unit × PH)} (hr : ∀ (y : Int32) (h : PH), VX K g 8 (kc + 1) (ks + 6) fin 23 [(0, .ref b), (1, p_rf g o1), (2, p_rf g o2), (3, p_rf g o3), (4, .int y)] [] h (rc y h)) (h : PH) : VX K g 8 kc ks fin 1059 [(0, .ref b), (1, p_rf g o1), (2, p_rf g o2), (3, p_rf g o3), (4, .int i4)] [] h (fLc_25 xs L o1 o2 o3 i4 rc h) := by
  unfold fLc_25
  refine r_aload_n C dL_law_1059 1 rfl ?_
  refine r_aloadS C dL_law_1060 0 rfl ?_
  refine r_iload C dL_law_1061 4 rfl ?_
  refine r_iconst C dL_law_1063 k_i1 ?_
  refine r_iadd C dL_law_1064 ?_
  refine r_sld C CS dL_law_1065 (fun x1 => ?_)
  refine r_cvi (As := [.int x1]) (st := []) C wv_L_135 (tcX11_quarrels K.2.1 g hg o1 x1 h) (Nat.le_of_ble_eq_true rfl) rfl rfl (Nat.le_of_ble_eq_true rfl) dL_law_1066 ⟨by omega, by omega⟩ (fun x2 h3 => ?_)
  refine r_aload_n C dL_law_1069 2 rfl ?_
  refine r_aloadS C dL_law_1070 0 rfl ?_
  refine r_iload C dL_law_1071 4 rfl ?_
  refine r_iconst C dL_law_1073 k_i1 ?_
  refine r_iadd C dL_law_1074 ?_
  refine r_sld C CS dL_law_1075 (fun x4 => ?_)
  refine r_cvi (As := [.int x4]) (st := [.int x2]) C wv_L_138 (tcX12_quarrels K.2.1 g hg o2 x4 h3) (Nat.le_of_ble_eq_true rfl) rfl rfl (Nat.le_of_ble_eq_true rfl) dL_law_1076 ⟨by omega, by omega⟩ (fun x5 h6 => ?_)
  refine r_icmp_eq (tgt := 1624) C dL_law_1079 (by decide) ?_ ?_
  · refine r_widen (k := kc + 1) (n := ks + 6) (by omega) (by omega) ?_
    refine r_iinc (lv' := [(0, .ref b), (1, p_rf g o1), (2, p_rf g o2), (3, p_rf g o3)]) C dL_law_1624 4 rfl k_i5 (by decide) (fun _ => rfl) (fun x7 => ?_)
    refine r_goto (tgt := 23) C dL_law_1627 (by decide) ?_
    refine r_perm (lv' := [(0, .ref b), (1, p_rf g o1), (2, p_rf g o2), (3, p_rf g o3), (4, .int x7)]) [1, 2, 3, 4, 0] rfl ?_
    exact hr x7 h6
  · refine r_iconst C dL_law_1082 k_i0 ?_
    exact r_none
set_option maxRecDepth 100000 in
set_option maxHeartbeats 4000000 in
theorem tLc_26 {K : AC} {g : WG} {b L : Nat} {xs : Nat → Int32} (hg : p_al g = false) (htr : K.2.1.stackTraces = false) (C : Cx K g cL_law 8 RL (some .boolean) "law" 1000 601024 7293034) (CS : va_X b L xs (a_s K) (a_s K).heap ∧ b < (a_s K).heap.size ∧ ¬ p_A g b) {kc ks : Nat} (hkc : kc + 1 ≤ 601024) (hks : ks + 6 ≤ 7293034) {fin : Unit → PH → State → Prop} (o1 o2 o3 : Nat) (i4 : Int32) {rc : Int32 → PH → Option (Unit × PH)} (hr : ∀ (y : Int32) (h : PH), VX K g 8 (kc + 1) (ks + 6) fin 23 [(0, .ref b), (1, p_rf g o1), (2, p_rf g o2), (3, p_rf g o3), (4, .int y)] [] h (rc y h)) (h : PH) : VX K g 8 kc ks fin 1084 [(0, .ref b), (1, p_rf g o1), (2, p_rf g o2), (3, p_rf g o3), (4, .int i4)] [] h (fLc_26 xs L o1 o2 o3 i4 rc h) := by
  unfold fLc_26
  refine r_aload_n C dL_law_1084 1 rfl ?_
  refine r_aloadS C dL_law_1085 0 rfl ?_
  refine r_iload C dL_law_1086 4 rfl ?_
  refine r_iconst C dL_law_1088 k_i1 ?_
  refine r_iadd C dL_law_1089 ?_
  refine r_sld C CS dL_law_1090 (fun x1 => ?_)
  refine r_cvi (As := [.int x1]) (st := []) C wv_L_139 (tcX11_peace K.2.1 g hg o1 x1 h) (Nat.le_of_ble_eq_true rfl) rfl rfl (Nat.le_of_ble_eq_true rfl) dL_law_1091 ⟨by omega, by omega⟩ (fun x2 h3 => ?_)
  refine r_aload_n C dL_law_1094 2 rfl ?_
  refine r_aloadS C dL_law_1095 0 rfl ?_
  refine r_iload C dL_law_1096 4 rfl ?_
  refine r_iconst C dL_law_1098 k_i1 ?_
  refine r_iadd C dL_law_1099 ?_
  refine r_sld C CS dL_law_1100 (fun x4 => ?_)
  refine r_cvi (As := [.int x4]) (st := [.int x2]) C wv_L_142 (tcX12_peace K.2.1 g hg o2 x4 h3) (Nat.le_of_ble_eq_true rfl) rfl rfl (Nat.le_of_ble_eq_true rfl) dL_law_1101 ⟨by omega, by omega⟩ (fun x5 h6 => ?_)
  refine r_icmp_eq (tgt := 1624) C dL_law_1104 (by decide) ?_ ?_
  · refine r_widen (k := kc + 1) (n := ks + 6) (by omega) (by omega) ?_
    refine r_iinc (lv' := [(0, .ref b), (1, p_rf g o1), (2, p_rf g o2), (3, p_rf g o3)]) C dL_law_1624 4 rfl k_i5 (by decide) (fun _ => rfl) (fun x7 => ?_)
    refine r_goto (tgt := 23) C dL_law_1627 (by decide) ?_
    refine r_perm (lv' := [(0, .ref b), (1, p_rf g o1), (2, p_rf g o2), (3, p_rf g o3), (4, .int x7)]) [1, 2, 3, 4, 0] rfl ?_
    exact hr x7 h6
  · refine r_iconst C dL_law_1107 k_i0 ?_
    exact r_none
set_option maxRecDepth 100000 in
set_option maxHeartbeats 4000000 in
theorem tLc_27 {K : AC} {g : WG} {b L : Nat} {xs : Nat → Int32} (hg : p_al g = false) (htr : K.2.1.stackTraces = false) (C : Cx K g cL_law 8 RL (some .boolean) "law" 1000 601024 7293034) (CS : va_X b L xs (a_s K) (a_s K).heap ∧ b < (a_s K).heap.size ∧ ¬ p_A g b) {kc ks : Nat} (hkc : kc + 1 ≤ 601024) (hks : ks + 6 ≤ 7293034) {fin : Unit → PH → State → Prop} (o1 o2 o3 : Nat) (i4 : Int32) {rc : Int32 → PH → Option (Unit × PH)} (hr : ∀ (y : Int32) (h : PH), VX K g 8 (kc + 1) (ks + 6) fin 23 [(0, .ref b), (1, p_rf g o1), (2, p_rf g o2), (3, p_rf g o3), (4, .int y)] [] h (rc y h)) (h : PH) : VX K g 8 kc ks fin 1109 [(0, .ref b), (1, p_rf g o1), (2, p_rf g o2), (3, p_rf g o3), (4, .int i4)] [] h (fLc_27 xs L o1 o2 o3 i4 rc h) := by
  unfold fLc_27
  refine r_aload_n C dL_law_1109 1 rfl ?_
  refine r_aloadS C dL_law_1110 0 rfl ?_
  refine r_iload C dL_law_1111 4 rfl ?_
  refine r_iconst C dL_law_1113 k_i1 ?_
  refine r_iadd C dL_law_1114 ?_
  refine r_sld C CS dL_law_1115 (fun x1 => ?_)
  refine r_cvi (As := [.int x1]) (st := []) C wv_L_143 (tcX11_pulls K.2.1 g hg o1 x1 h) (Nat.le_of_ble_eq_true rfl) rfl rfl (Nat.le_of_ble_eq_true rfl) dL_law_1116 ⟨by omega, by omega⟩ (fun x2 h3 => ?_)
  refine r_aload_n C dL_law_1119 2 rfl ?_
  refine r_aloadS C dL_law_1120 0 rfl ?_
  refine r_iload C dL_law_1121 4 rfl ?_
  refine r_iconst C dL_law_1123 k_i1 ?_
  refine r_iadd C dL_law_1124 ?_
  refine r_sld C CS dL_law_1125 (fun x4 => ?_)
  refine r_cvi (As := [.int x4]) (st := [.int x2]) C wv_L_146 (tcX12_pulls K.2.1 g hg o2 x4 h3) (Nat.le_of_ble_eq_true rfl) rfl rfl (Nat.le_of_ble_eq_true rfl) dL_law_1126 ⟨by omega, by omega⟩ (fun x5 h6 => ?_)
  refine r_icmp_eq (tgt := 1624) C dL_law_1129 (by decide) ?_ ?_
  · refine r_widen (k := kc + 1) (n := ks + 6) (by omega) (by omega) ?_
    refine r_iinc (lv' := [(0, .ref b), (1, p_rf g o1), (2, p_rf g o2), (3, p_rf g o3)]) C dL_law_1624 4 rfl k_i5 (by decide) (fun _ => rfl) (fun x7 => ?_)
    refine r_goto (tgt := 23) C dL_law_1627 (by decide) ?_
    refine r_perm (lv' := [(0, .ref b), (1, p_rf g o1), (2, p_rf g o2), (3, p_rf g o3), (4, .int x7)]) [1, 2, 3, 4, 0] rfl ?_
    exact hr x7 h6
  · refine r_iconst C dL_law_1132 k_i0 ?_
    exact r_none
set_option maxRecDepth 100000 in
set_option maxHeartbeats 4000000 in
theorem tLc_28 {K : AC} {g : WG} {b L : Nat} {xs : Nat → Int32} (hg : p_al g = false) (htr : K.2.1.stackTraces = false) (C : Cx K g cL_law 8 RL (some .boolean) "law" 1000 601024 7293034) (CS : va_X b L xs (a_s K) (a_s K).heap ∧ b < (a_s K).heap.size ∧ ¬ p_A g b) {kc ks : Nat} (hkc : kc + 1 ≤ 601024) (hks : ks + 6 ≤ 7293034) {fin : Unit → PH → State → Prop} (o1 o2 o3 : Nat) (i4 : Int32) {rc : Int32 → PH → Option (Unit × PH)} (hr : ∀ (y : Int32) (h : PH), VX K g 8 (kc + 1) (ks + 6) fin 23 [(0, .ref b), (1, p_rf g o1), (2, p_rf g o2), (3, p_rf g o3), (4, .int y)] [] h (rc y h)) (h : PH) : VX K g 8 kc ks fin 1134 [(0, .ref b), (1, p_rf g o1), (2, p_rf g o2), (3, p_rf g o3), (4, .int i4)] [] h (fLc_28 xs L o1 o2 o3 i4 rc h) := by
  unfold fLc_28
  refine r_aload_n C dL_law_1134 1 rfl ?_
  refine r_aloadS C dL_law_1135 0 rfl ?_
  refine r_iload C dL_law_1136 4 rfl ?_
  refine r_iconst C dL_law_1138 k_i1 ?_
  refine r_iadd C dL_law_1139 ?_
  refine r_sld C CS dL_law_1140 (fun x1 => ?_)
  refine r_aloadS C dL_law_1141 0 rfl ?_
  refine r_iload C dL_law_1142 4 rfl ?_
  refine r_iconst C dL_law_1144 k_i2 ?_
  refine r_iadd C dL_law_1145 ?_
  refine r_sld C CS dL_law_1146 (fun x2 => ?_)
  refine r_aloadS C dL_law_1147 0 rfl ?_
  refine r_iload C dL_law_1148 4 rfl ?_
  refine r_iconst C dL_law_1150 k_i3 ?_
  refine r_iadd C dL_law_1151 ?_
  refine r_sld C CS dL_law_1152 (fun x3 => ?_)
  refine r_cvi (As := [.int x1, .int x2, .int x3]) (st := []) C wv_L_147 (tcX11_seen K.2.1 g hg o1 x1 x2 x3 h) (Nat.le_of_ble_eq_true rfl) rfl rfl (Nat.le_of_ble_eq_true rfl) dL_law_1153 ⟨by omega, by omega⟩ (fun x4 h5 => ?_)
  refine r_aload_n C dL_law_1156 2 rfl ?_
  refine r_aloadS C dL_law_1157 0 rfl ?_
  refine r_iload C dL_law_1158 4 rfl ?_
  refine r_iconst C dL_law_1160 k_i1 ?_
  refine r_iadd C dL_law_1161 ?_
  refine r_sld C CS dL_law_1162 (fun x6 => ?_)
  refine r_aloadS C dL_law_1163 0 rfl ?_
  refine r_iload C dL_law_1164 4 rfl ?_
  refine r_iconst C dL_law_1166 k_i2 ?_
  refine r_iadd C dL_law_1167 ?_
  refine r_sld C CS dL_law_1168 (fun x7 => ?_)
  refine r_aloadS C dL_law_1169 0 rfl ?_
  refine r_iload C dL_law_1170 4 rfl ?_
  refine r_iconst C dL_law_1172 k_i3 ?_
  refine r_iadd C dL_law_1173 ?_
  refine r_sld C CS dL_law_1174 (fun x8 => ?_)
  refine r_cvi (As := [.int x6, .int x7, .int x8]) (st := [.int x4]) C wv_L_150 (tcX12_seen K.2.1 g hg o2 x6 x7 x8 h5) (Nat.le_of_ble_eq_true rfl) rfl rfl (Nat.le_of_ble_eq_true rfl) dL_law_1175 ⟨by omega, by omega⟩ (fun x9 h10 => ?_)
  refine r_icmp_eq (tgt := 1624) C dL_law_1178 (by decide) ?_ ?_
  · refine r_widen (k := kc + 1) (n := ks + 6) (by omega) (by omega) ?_
    refine r_iinc (lv' := [(0, .ref b), (1, p_rf g o1), (2, p_rf g o2), (3, p_rf g o3)]) C dL_law_1624 4 rfl k_i5 (by decide) (fun _ => rfl) (fun x11 => ?_)
    refine r_goto (tgt := 23) C dL_law_1627 (by decide) ?_
    refine r_perm (lv' := [(0, .ref b), (1, p_rf g o1), (2, p_rf g o2), (3, p_rf g o3), (4, .int x11)]) [1, 2, 3, 4, 0] rfl ?_
    exact hr x11 h10
  · refine r_iconst C dL_law_1181 k_i0 ?_
    exact r_none
set_option maxRecDepth 100000 in
set_option maxHeartbeats 4000000 in
theorem tLc_29 {K : AC} {g : WG} {b L : Nat} {xs : Nat → Int32} (hg : p_al g = false) (htr : K.2.1.stackTraces = false) (C : Cx K g cL_law 8 RL (some .boolean) "law" 1000 601024 7293034) (CS : va_X b L xs (a_s K) (a_s K).heap ∧ b < (a_s K).heap.size ∧ ¬ p_A g b) {kc ks : Nat} (hkc : kc + 1 ≤ 601024) (hks : ks + 6 ≤ 7293034) {fin : Unit → PH → State → Prop} (o1 o2 o3 : Nat) (i4 : Int32) {rc : Int32 → PH → Option (Unit × PH)} (hr : ∀ (y : Int32) (h : PH), VX K g 8 (kc + 1) (ks + 6) fin 23 [(0, .ref b), (1, p_rf g o1), (2, p_rf g o2), (3, p_rf g o3), (4, .int y)] [] h (rc y h)) (h : PH) : VX K g 8 kc ks fin 1183 [(0, .ref b), (1, p_rf g o1), (2, p_rf g o2), (3, p_rf g o3), (4, .int i4)] [] h (fLc_29 xs L o1 o2 o3 i4 rc h) := by
  unfold fLc_29
  refine r_aload_n C dL_law_1183 1 rfl ?_
  refine r_cvi (As := []) (st := []) C wv_L_151 (tcX11_forget K.2.1 g hg o1 h) (Nat.le_of_ble_eq_true rfl) rfl rfl (Nat.le_of_ble_eq_true rfl) dL_law_1184 ⟨by omega, by omega⟩ (fun x1 h2 => ?_)
  refine r_aload_n C dL_law_1187 2 rfl ?_
  refine r_cvi (As := []) (st := [.int x1]) C wv_L_154 (tcX12_forget K.2.1 g hg o2 h2) (Nat.le_of_ble_eq_true rfl) rfl rfl (Nat.le_of_ble_eq_true rfl) dL_law_1188 ⟨by omega, by omega⟩ (fun x3 h4 => ?_)
  refine r_icmp_eq (tgt := 1624) C dL_law_1191 (by decide) ?_ ?_
  · refine r_widen (k := kc + 1) (n := ks + 6) (by omega) (by omega) ?_
    refine r_iinc (lv' := [(0, .ref b), (1, p_rf g o1), (2, p_rf g o2), (3, p_rf g o3)]) C dL_law_1624 4 rfl k_i5 (by decide) (fun _ => rfl) (fun x5 => ?_)
    refine r_goto (tgt := 23) C dL_law_1627 (by decide) ?_
    refine r_perm (lv' := [(0, .ref b), (1, p_rf g o1), (2, p_rf g o2), (3, p_rf g o3), (4, .int x5)]) [1, 2, 3, 4, 0] rfl ?_
    exact hr x5 h4
  · refine r_iconst C dL_law_1194 k_i0 ?_
    exact r_none
set_option maxRecDepth 100000 in
set_option maxHeartbeats 4000000 in
theorem tLc_30 {K : AC} {g : WG} {b L : Nat} {xs : Nat → Int32} (hg : p_al g = false) (htr : K.2.1.stackTraces = false) (C : Cx K g cL_law 8 RL (some .boolean) "law" 1000 601024 7293034) (CS : va_X b L xs (a_s K) (a_s K).heap ∧ b < (a_s K).heap.size ∧ ¬ p_A g b) {kc ks : Nat} (hkc : kc + 1 ≤ 601024) (hks : ks + 6 ≤ 7293034) {fin : Unit → PH → State → Prop} (o1 o2 o3 : Nat) (i4 : Int32) {rc : Int32 → PH → Option (Unit × PH)} (hr : ∀ (y : Int32) (h : PH), VX K g 8 (kc + 1) (ks + 6) fin 23 [(0, .ref b), (1, p_rf g o1), (2, p_rf g o2), (3, p_rf g o3), (4, .int y)] [] h (rc y h)) (h : PH) : VX K g 8 kc ks fin 1196 [(0, .ref b), (1, p_rf g o1), (2, p_rf g o2), (3, p_rf g o3), (4, .int i4)] [] h (fLc_30 xs L o1 o2 o3 i4 rc h) := by
  unfold fLc_30
  refine r_aload_n C dL_law_1196 1 rfl ?_
  refine r_aloadS C dL_law_1197 0 rfl ?_
  refine r_iload C dL_law_1198 4 rfl ?_
  refine r_iconst C dL_law_1200 k_i1 ?_
  refine r_iadd C dL_law_1201 ?_
  refine r_sld C CS dL_law_1202 (fun x1 => ?_)
  refine r_cvi (As := [.int x1]) (st := []) C wv_L_155 (tcX11_fits K.2.1 g hg o1 x1 h) (Nat.le_of_ble_eq_true rfl) rfl rfl (Nat.le_of_ble_eq_true rfl) dL_law_1203 ⟨by omega, by omega⟩ (fun x2 h3 => ?_)
  refine r_aload_n C dL_law_1206 2 rfl ?_
  refine r_aloadS C dL_law_1207 0 rfl ?_
  refine r_iload C dL_law_1208 4 rfl ?_
  refine r_iconst C dL_law_1210 k_i1 ?_
  refine r_iadd C dL_law_1211 ?_
  refine r_sld C CS dL_law_1212 (fun x4 => ?_)
  refine r_cvi (As := [.int x4]) (st := [.int x2]) C wv_L_158 (tcX12_fits K.2.1 g hg o2 x4 h3) (Nat.le_of_ble_eq_true rfl) rfl rfl (Nat.le_of_ble_eq_true rfl) dL_law_1213 ⟨by omega, by omega⟩ (fun x5 h6 => ?_)
  refine r_icmp_eq (tgt := 1624) C dL_law_1216 (by decide) ?_ ?_
  · refine r_widen (k := kc + 1) (n := ks + 6) (by omega) (by omega) ?_
    refine r_iinc (lv' := [(0, .ref b), (1, p_rf g o1), (2, p_rf g o2), (3, p_rf g o3)]) C dL_law_1624 4 rfl k_i5 (by decide) (fun _ => rfl) (fun x7 => ?_)
    refine r_goto (tgt := 23) C dL_law_1627 (by decide) ?_
    refine r_perm (lv' := [(0, .ref b), (1, p_rf g o1), (2, p_rf g o2), (3, p_rf g o3), (4, .int x7)]) [1, 2, 3, 4, 0] rfl ?_
    exact hr x7 h6
  · refine r_iconst C dL_law_1219 k_i0 ?_
    exact r_none
set_option maxRecDepth 100000 in
set_option maxHeartbeats 4000000 in
theorem tLc_31 {K : AC} {g : WG} {b L : Nat} {xs : Nat → Int32} (hg : p_al g = false) (htr : K.2.1.stackTraces = false) (C : Cx K g cL_law 8 RL (some .boolean) "law" 1000 601024 7293034) (CS : va_X b L xs (a_s K) (a_s K).heap ∧ b < (a_s K).heap.size ∧ ¬ p_A g b) {kc ks : Nat} (hkc : kc + 1 ≤ 601024) (hks : ks + 6 ≤ 7293034) {fin : Unit → PH → State → Prop} (o1 o2 o3 : Nat) (i4 : Int32) {rc : Int32 → PH → Option (Unit × PH)} (hr : ∀ (y : Int32) (h : PH), VX K g 8 (kc + 1) (ks + 6) fin 23 [(0, .ref b), (1, p_rf g o1), (2, p_rf g o2), (3, p_rf g o3), (4, .int y)] [] h (rc y h)) (h : PH) : VX K g 8 kc ks fin 1221 [(0, .ref b), (1, p_rf g o1), (2, p_rf g o2), (3, p_rf g o3), (4, .int i4)] [] h (fLc_31 xs L o1 o2 o3 i4 rc h) := by
  unfold fLc_31
  refine r_aload_n C dL_law_1221 1 rfl ?_
  refine r_aloadS C dL_law_1222 0 rfl ?_
  refine r_iload C dL_law_1223 4 rfl ?_
  refine r_iconst C dL_law_1225 k_i1 ?_
  refine r_iadd C dL_law_1226 ?_
  refine r_sld C CS dL_law_1227 (fun x1 => ?_)
  refine r_aloadS C dL_law_1228 0 rfl ?_
  refine r_iload C dL_law_1229 4 rfl ?_
  refine r_iconst C dL_law_1231 k_i2 ?_
  refine r_iadd C dL_law_1232 ?_
  refine r_sld C CS dL_law_1233 (fun x2 => ?_)
  refine r_cvi (As := [.int x1, .int x2]) (st := []) C wv_L_159 (tcX11_looks K.2.1 g hg o1 x1 x2 h) (Nat.le_of_ble_eq_true rfl) rfl rfl (Nat.le_of_ble_eq_true rfl) dL_law_1234 ⟨by omega, by omega⟩ (fun x3 h4 => ?_)
  refine r_aload_n C dL_law_1237 2 rfl ?_
  refine r_aloadS C dL_law_1238 0 rfl ?_
  refine r_iload C dL_law_1239 4 rfl ?_
  refine r_iconst C dL_law_1241 k_i1 ?_
  refine r_iadd C dL_law_1242 ?_
  refine r_sld C CS dL_law_1243 (fun x5 => ?_)
  refine r_aloadS C dL_law_1244 0 rfl ?_
  refine r_iload C dL_law_1245 4 rfl ?_
  refine r_iconst C dL_law_1247 k_i2 ?_
  refine r_iadd C dL_law_1248 ?_
  refine r_sld C CS dL_law_1249 (fun x6 => ?_)
  refine r_cvi (As := [.int x5, .int x6]) (st := [.int x3]) C wv_L_162 (tcX12_looks K.2.1 g hg o2 x5 x6 h4) (Nat.le_of_ble_eq_true rfl) rfl rfl (Nat.le_of_ble_eq_true rfl) dL_law_1250 ⟨by omega, by omega⟩ (fun x7 h8 => ?_)
  refine r_icmp_eq (tgt := 1624) C dL_law_1253 (by decide) ?_ ?_
  · refine r_widen (k := kc + 1) (n := ks + 6) (by omega) (by omega) ?_
    refine r_iinc (lv' := [(0, .ref b), (1, p_rf g o1), (2, p_rf g o2), (3, p_rf g o3)]) C dL_law_1624 4 rfl k_i5 (by decide) (fun _ => rfl) (fun x9 => ?_)
    refine r_goto (tgt := 23) C dL_law_1627 (by decide) ?_
    refine r_perm (lv' := [(0, .ref b), (1, p_rf g o1), (2, p_rf g o2), (3, p_rf g o3), (4, .int x9)]) [1, 2, 3, 4, 0] rfl ?_
    exact hr x9 h8
  · refine r_iconst C dL_law_1256 k_i0 ?_
    exact r_none
set_option maxRecDepth 100000 in
set_option maxHeartbeats 4000000 in
theorem tLc_32 {K : AC} {g : WG} {b L : Nat} {xs : Nat → Int32} (hg : p_al g = false) (htr : K.2.1.stackTraces = false) (C : Cx K g cL_law 8 RL (some .boolean) "law" 1000 601024 7293034) (CS : va_X b L xs (a_s K) (a_s K).heap ∧ b < (a_s K).heap.size ∧ ¬ p_A g b) {kc ks : Nat} (hkc : kc + 1 ≤ 601024) (hks : ks + 6 ≤ 7293034) {fin : Unit → PH → State → Prop} (o1 o2 o3 : Nat) (i4 : Int32) {rc : Int32 → PH → Option (Unit × PH)} (hr : ∀ (y : Int32) (h : PH), VX K g 8 (kc + 1) (ks + 6) fin 23 [(0, .ref b), (1, p_rf g o1), (2, p_rf g o2), (3, p_rf g o3), (4, .int y)] [] h (rc y h)) (h : PH) : VX K g 8 kc ks fin 1258 [(0, .ref b), (1, p_rf g o1), (2, p_rf g o2), (3, p_rf g o3), (4, .int i4)] [] h (fLc_32 xs L o1 o2 o3 i4 rc h) := by
  unfold fLc_32
  refine r_aload_n C dL_law_1258 1 rfl ?_
  refine r_aloadS C dL_law_1259 0 rfl ?_
  refine r_iload C dL_law_1260 4 rfl ?_
  refine r_iconst C dL_law_1262 k_i1 ?_
  refine r_iadd C dL_law_1263 ?_
  refine r_sld C CS dL_law_1264 (fun x1 => ?_)
  refine r_cvi (As := [.int x1]) (st := []) C wv_L_163 (tcX11_covers K.2.1 g hg o1 x1 h) (Nat.le_of_ble_eq_true rfl) rfl rfl (Nat.le_of_ble_eq_true rfl) dL_law_1265 ⟨by omega, by omega⟩ (fun x2 h3 => ?_)
  refine r_aload_n C dL_law_1268 2 rfl ?_
  refine r_aloadS C dL_law_1269 0 rfl ?_
  refine r_iload C dL_law_1270 4 rfl ?_
  refine r_iconst C dL_law_1272 k_i1 ?_
  refine r_iadd C dL_law_1273 ?_
  refine r_sld C CS dL_law_1274 (fun x4 => ?_)
  refine r_cvi (As := [.int x4]) (st := [.int x2]) C wv_L_166 (tcX12_covers K.2.1 g hg o2 x4 h3) (Nat.le_of_ble_eq_true rfl) rfl rfl (Nat.le_of_ble_eq_true rfl) dL_law_1275 ⟨by omega, by omega⟩ (fun x5 h6 => ?_)
  refine r_icmp_eq (tgt := 1624) C dL_law_1278 (by decide) ?_ ?_
  · refine r_widen (k := kc + 1) (n := ks + 6) (by omega) (by omega) ?_
    refine r_iinc (lv' := [(0, .ref b), (1, p_rf g o1), (2, p_rf g o2), (3, p_rf g o3)]) C dL_law_1624 4 rfl k_i5 (by decide) (fun _ => rfl) (fun x7 => ?_)
    refine r_goto (tgt := 23) C dL_law_1627 (by decide) ?_
    refine r_perm (lv' := [(0, .ref b), (1, p_rf g o1), (2, p_rf g o2), (3, p_rf g o3), (4, .int x7)]) [1, 2, 3, 4, 0] rfl ?_
    exact hr x7 h6
  · refine r_iconst C dL_law_1281 k_i0 ?_
    exact r_none
set_option maxRecDepth 100000 in
set_option maxHeartbeats 4000000 in
theorem tLc_33 {K : AC} {g : WG} {b L : Nat} {xs : Nat → Int32} (hg : p_al g = false) (htr : K.2.1.stackTraces = false) (C : Cx K g cL_law 8 RL (some .boolean) "law" 1000 601024 7293034) (CS : va_X b L xs (a_s K) (a_s K).heap ∧ b < (a_s K).heap.size ∧ ¬ p_A g b) {kc ks : Nat} (hkc : kc + 1 ≤ 601024) (hks : ks + 6 ≤ 7293034) {fin : Unit → PH → State → Prop} (o1 o2 o3 : Nat) (i4 : Int32) {rc : Int32 → PH → Option (Unit × PH)} (hr : ∀ (y : Int32) (h : PH), VX K g 8 (kc + 1) (ks + 6) fin 23 [(0, .ref b), (1, p_rf g o1), (2, p_rf g o2), (3, p_rf g o3), (4, .int y)] [] h (rc y h)) (h : PH) : VX K g 8 kc ks fin 1283 [(0, .ref b), (1, p_rf g o1), (2, p_rf g o2), (3, p_rf g o3), (4, .int i4)] [] h (fLc_33 xs L o1 o2 o3 i4 rc h) := by
  unfold fLc_33
  refine r_aload_n C dL_law_1283 1 rfl ?_
  refine r_aloadS C dL_law_1284 0 rfl ?_
  refine r_iload C dL_law_1285 4 rfl ?_
  refine r_iconst C dL_law_1287 k_i1 ?_
  refine r_iadd C dL_law_1288 ?_
  refine r_sld C CS dL_law_1289 (fun x1 => ?_)
  refine r_cvi (As := [.int x1]) (st := []) C wv_L_167 (tcX11_shares K.2.1 g hg o1 x1 h) (Nat.le_of_ble_eq_true rfl) rfl rfl (Nat.le_of_ble_eq_true rfl) dL_law_1290 ⟨by omega, by omega⟩ (fun x2 h3 => ?_)
  refine r_aload_n C dL_law_1293 2 rfl ?_
  refine r_aloadS C dL_law_1294 0 rfl ?_
  refine r_iload C dL_law_1295 4 rfl ?_
  refine r_iconst C dL_law_1297 k_i1 ?_
  refine r_iadd C dL_law_1298 ?_
  refine r_sld C CS dL_law_1299 (fun x4 => ?_)
  refine r_cvi (As := [.int x4]) (st := [.int x2]) C wv_L_170 (tcX12_shares K.2.1 g hg o2 x4 h3) (Nat.le_of_ble_eq_true rfl) rfl rfl (Nat.le_of_ble_eq_true rfl) dL_law_1300 ⟨by omega, by omega⟩ (fun x5 h6 => ?_)
  refine r_icmp_eq (tgt := 1624) C dL_law_1303 (by decide) ?_ ?_
  · refine r_widen (k := kc + 1) (n := ks + 6) (by omega) (by omega) ?_
    refine r_iinc (lv' := [(0, .ref b), (1, p_rf g o1), (2, p_rf g o2), (3, p_rf g o3)]) C dL_law_1624 4 rfl k_i5 (by decide) (fun _ => rfl) (fun x7 => ?_)
    refine r_goto (tgt := 23) C dL_law_1627 (by decide) ?_
    refine r_perm (lv' := [(0, .ref b), (1, p_rf g o1), (2, p_rf g o2), (3, p_rf g o3), (4, .int x7)]) [1, 2, 3, 4, 0] rfl ?_
    exact hr x7 h6
  · refine r_iconst C dL_law_1306 k_i0 ?_
    exact r_none
set_option maxRecDepth 100000 in
set_option maxHeartbeats 4000000 in
theorem tLc_34 {K : AC} {g : WG} {b L : Nat} {xs : Nat → Int32} (hg : p_al g = false) (htr : K.2.1.stackTraces = false) (C : Cx K g cL_law 8 RL (some .boolean) "law" 1000 601024 7293034) (CS : va_X b L xs (a_s K) (a_s K).heap ∧ b < (a_s K).heap.size ∧ ¬ p_A g b) {kc ks : Nat} (hkc : kc + 1 ≤ 601024) (hks : ks + 6 ≤ 7293034) {fin : Unit → PH → State → Prop} (o1 o2 o3 : Nat) (i4 : Int32) {rc : Int32 → PH → Option (Unit × PH)} (hr : ∀ (y : Int32) (h : PH), VX K g 8 (kc + 1) (ks + 6) fin 23 [(0, .ref b), (1, p_rf g o1), (2, p_rf g o2), (3, p_rf g o3), (4, .int y)] [] h (rc y h)) (h : PH) : VX K g 8 kc ks fin 1308 [(0, .ref b), (1, p_rf g o1), (2, p_rf g o2), (3, p_rf g o3), (4, .int i4)] [] h (fLc_34 xs L o1 o2 o3 i4 rc h) := by
  unfold fLc_34
  refine r_aload_n C dL_law_1308 1 rfl ?_
  refine r_aloadS C dL_law_1309 0 rfl ?_
  refine r_iload C dL_law_1310 4 rfl ?_
  refine r_iconst C dL_law_1312 k_i1 ?_
  refine r_iadd C dL_law_1313 ?_
  refine r_sld C CS dL_law_1314 (fun x1 => ?_)
  refine r_aloadS C dL_law_1315 0 rfl ?_
  refine r_iload C dL_law_1316 4 rfl ?_
  refine r_iconst C dL_law_1318 k_i2 ?_
  refine r_iadd C dL_law_1319 ?_
  refine r_sld C CS dL_law_1320 (fun x2 => ?_)
  refine r_cvi (As := [.int x1, .int x2]) (st := []) C wv_L_171 (tcX11_counter K.2.1 g hg o1 x1 x2 h) (Nat.le_of_ble_eq_true rfl) rfl rfl (Nat.le_of_ble_eq_true rfl) dL_law_1321 ⟨by omega, by omega⟩ (fun x3 h4 => ?_)
  refine r_aload_n C dL_law_1324 2 rfl ?_
  refine r_aloadS C dL_law_1325 0 rfl ?_
  refine r_iload C dL_law_1326 4 rfl ?_
  refine r_iconst C dL_law_1328 k_i1 ?_
  refine r_iadd C dL_law_1329 ?_
  refine r_sld C CS dL_law_1330 (fun x5 => ?_)
  refine r_aloadS C dL_law_1331 0 rfl ?_
  refine r_iload C dL_law_1332 4 rfl ?_
  refine r_iconst C dL_law_1334 k_i2 ?_
  refine r_iadd C dL_law_1335 ?_
  refine r_sld C CS dL_law_1336 (fun x6 => ?_)
  refine r_cvi (As := [.int x5, .int x6]) (st := [.int x3]) C wv_L_174 (tcX12_counter K.2.1 g hg o2 x5 x6 h4) (Nat.le_of_ble_eq_true rfl) rfl rfl (Nat.le_of_ble_eq_true rfl) dL_law_1337 ⟨by omega, by omega⟩ (fun x7 h8 => ?_)
  refine r_icmp_eq (tgt := 1624) C dL_law_1340 (by decide) ?_ ?_
  · refine r_widen (k := kc + 1) (n := ks + 6) (by omega) (by omega) ?_
    refine r_iinc (lv' := [(0, .ref b), (1, p_rf g o1), (2, p_rf g o2), (3, p_rf g o3)]) C dL_law_1624 4 rfl k_i5 (by decide) (fun _ => rfl) (fun x9 => ?_)
    refine r_goto (tgt := 23) C dL_law_1627 (by decide) ?_
    refine r_perm (lv' := [(0, .ref b), (1, p_rf g o1), (2, p_rf g o2), (3, p_rf g o3), (4, .int x9)]) [1, 2, 3, 4, 0] rfl ?_
    exact hr x9 h8
  · refine r_iconst C dL_law_1343 k_i0 ?_
    exact r_none
set_option maxRecDepth 100000 in
set_option maxHeartbeats 4000000 in
theorem tLc_35 {K : AC} {g : WG} {b L : Nat} {xs : Nat → Int32} (hg : p_al g = false) (htr : K.2.1.stackTraces = false) (C : Cx K g cL_law 8 RL (some .boolean) "law" 1000 601024 7293034) (CS : va_X b L xs (a_s K) (a_s K).heap ∧ b < (a_s K).heap.size ∧ ¬ p_A g b) {kc ks : Nat} (hkc : kc + 1 ≤ 601024) (hks : ks + 6 ≤ 7293034) {fin : Unit → PH → State → Prop} (o1 o2 o3 : Nat) (i4 : Int32) {rc : Int32 → PH → Option (Unit × PH)} (hr : ∀ (y : Int32) (h : PH), VX K g 8 (kc + 1) (ks + 6) fin 23 [(0, .ref b), (1, p_rf g o1), (2, p_rf g o2), (3, p_rf g o3), (4, .int y)] [] h (rc y h)) (h : PH) : VX K g 8 kc ks fin 1345 [(0, .ref b), (1, p_rf g o1), (2, p_rf g o2), (3, p_rf g o3), (4, .int i4)] [] h (fLc_35 xs L o1 o2 o3 i4 rc h) := by
  unfold fLc_35
  refine r_aload_n C dL_law_1345 1 rfl ?_
  refine r_aloadS C dL_law_1346 0 rfl ?_
  refine r_iload C dL_law_1347 4 rfl ?_
  refine r_iconst C dL_law_1349 k_i1 ?_
  refine r_iadd C dL_law_1350 ?_
  refine r_sld C CS dL_law_1351 (fun x1 => ?_)
  refine r_aloadS C dL_law_1352 0 rfl ?_
  refine r_iload C dL_law_1353 4 rfl ?_
  refine r_iconst C dL_law_1355 k_i2 ?_
  refine r_iadd C dL_law_1356 ?_
  refine r_sld C CS dL_law_1357 (fun x2 => ?_)
  refine r_cvi (As := [.int x1, .int x2]) (st := []) C wv_L_175 (tcX11_right K.2.1 g hg o1 x1 x2 h) (Nat.le_of_ble_eq_true rfl) rfl rfl (Nat.le_of_ble_eq_true rfl) dL_law_1358 ⟨by omega, by omega⟩ (fun x3 h4 => ?_)
  refine r_aload_n C dL_law_1361 2 rfl ?_
  refine r_aloadS C dL_law_1362 0 rfl ?_
  refine r_iload C dL_law_1363 4 rfl ?_
  refine r_iconst C dL_law_1365 k_i1 ?_
  refine r_iadd C dL_law_1366 ?_
  refine r_sld C CS dL_law_1367 (fun x5 => ?_)
  refine r_aloadS C dL_law_1368 0 rfl ?_
  refine r_iload C dL_law_1369 4 rfl ?_
  refine r_iconst C dL_law_1371 k_i2 ?_
  refine r_iadd C dL_law_1372 ?_
  refine r_sld C CS dL_law_1373 (fun x6 => ?_)
  refine r_cvi (As := [.int x5, .int x6]) (st := [.int x3]) C wv_L_178 (tcX12_right K.2.1 g hg o2 x5 x6 h4) (Nat.le_of_ble_eq_true rfl) rfl rfl (Nat.le_of_ble_eq_true rfl) dL_law_1374 ⟨by omega, by omega⟩ (fun x7 h8 => ?_)
  refine r_icmp_eq (tgt := 1624) C dL_law_1377 (by decide) ?_ ?_
  · refine r_widen (k := kc + 1) (n := ks + 6) (by omega) (by omega) ?_
    refine r_iinc (lv' := [(0, .ref b), (1, p_rf g o1), (2, p_rf g o2), (3, p_rf g o3)]) C dL_law_1624 4 rfl k_i5 (by decide) (fun _ => rfl) (fun x9 => ?_)
    refine r_goto (tgt := 23) C dL_law_1627 (by decide) ?_
    refine r_perm (lv' := [(0, .ref b), (1, p_rf g o1), (2, p_rf g o2), (3, p_rf g o3), (4, .int x9)]) [1, 2, 3, 4, 0] rfl ?_
    exact hr x9 h8
  · refine r_iconst C dL_law_1380 k_i0 ?_
    exact r_none
set_option maxRecDepth 100000 in
set_option maxHeartbeats 4000000 in
theorem tLc_36 {K : AC} {g : WG} {b L : Nat} {xs : Nat → Int32} (hg : p_al g = false) (htr : K.2.1.stackTraces = false) (C : Cx K g cL_law 8 RL (some .boolean) "law" 1000 601024 7293034) (CS : va_X b L xs (a_s K) (a_s K).heap ∧ b < (a_s K).heap.size ∧ ¬ p_A g b) {kc ks : Nat} (hkc : kc + 1 ≤ 601024) (hks : ks + 6 ≤ 7293034) {fin : Unit → PH → State → Prop} (o1 o2 o3 : Nat) (i4 : Int32) {rc : Int32 → PH → Option (Unit × PH)} (hr : ∀ (y : Int32) (h : PH), VX K g 8 (kc + 1) (ks + 6) fin 23 [(0, .ref b), (1, p_rf g o1), (2, p_rf g o2), (3, p_rf g o3), (4, .int y)] [] h (rc y h)) (h : PH) : VX K g 8 kc ks fin 1382 [(0, .ref b), (1, p_rf g o1), (2, p_rf g o2), (3, p_rf g o3), (4, .int i4)] [] h (fLc_36 xs L o1 o2 o3 i4 rc h) := by
  unfold fLc_36
  refine r_aload_n C dL_law_1382 1 rfl ?_
  refine r_aloadS C dL_law_1383 0 rfl ?_
  refine r_iload C dL_law_1384 4 rfl ?_
  refine r_iconst C dL_law_1386 k_i1 ?_
  refine r_iadd C dL_law_1387 ?_
  refine r_sld C CS dL_law_1388 (fun x1 => ?_)
  refine r_cvi (As := [.int x1]) (st := []) C wv_L_179 (tcX11_same K.2.1 g hg o1 x1 h) (Nat.le_of_ble_eq_true rfl) rfl rfl (Nat.le_of_ble_eq_true rfl) dL_law_1389 ⟨by omega, by omega⟩ (fun x2 h3 => ?_)
  refine r_aload_n C dL_law_1392 2 rfl ?_
  refine r_aloadS C dL_law_1393 0 rfl ?_
  refine r_iload C dL_law_1394 4 rfl ?_
  refine r_iconst C dL_law_1396 k_i1 ?_
  refine r_iadd C dL_law_1397 ?_
  refine r_sld C CS dL_law_1398 (fun x4 => ?_)
  refine r_cvi (As := [.int x4]) (st := [.int x2]) C wv_L_182 (tcX12_same K.2.1 g hg o2 x4 h3) (Nat.le_of_ble_eq_true rfl) rfl rfl (Nat.le_of_ble_eq_true rfl) dL_law_1399 ⟨by omega, by omega⟩ (fun x5 h6 => ?_)
  refine r_icmp_eq (tgt := 1624) C dL_law_1402 (by decide) ?_ ?_
  · refine r_widen (k := kc + 1) (n := ks + 6) (by omega) (by omega) ?_
    refine r_iinc (lv' := [(0, .ref b), (1, p_rf g o1), (2, p_rf g o2), (3, p_rf g o3)]) C dL_law_1624 4 rfl k_i5 (by decide) (fun _ => rfl) (fun x7 => ?_)
    refine r_goto (tgt := 23) C dL_law_1627 (by decide) ?_
    refine r_perm (lv' := [(0, .ref b), (1, p_rf g o1), (2, p_rf g o2), (3, p_rf g o3), (4, .int x7)]) [1, 2, 3, 4, 0] rfl ?_
    exact hr x7 h6
  · refine r_iconst C dL_law_1405 k_i0 ?_
    exact r_none
set_option maxRecDepth 100000 in
set_option maxHeartbeats 4000000 in
theorem tLc_37 {K : AC} {g : WG} {b L : Nat} {xs : Nat → Int32} (hg : p_al g = false) (htr : K.2.1.stackTraces = false) (C : Cx K g cL_law 8 RL (some .boolean) "law" 1000 601024 7293034) (CS : va_X b L xs (a_s K) (a_s K).heap ∧ b < (a_s K).heap.size ∧ ¬ p_A g b) {kc ks : Nat} (hkc : kc + 1 ≤ 601024) (hks : ks + 6 ≤ 7293034) {fin : Unit → PH → State → Prop} (o1 o2 o3 : Nat) (i4 : Int32) {rc : Int32 → PH → Option (Unit × PH)} (hr : ∀ (y : Int32) (h : PH), VX K g 8 (kc + 1) (ks + 6) fin 23 [(0, .ref b), (1, p_rf g o1), (2, p_rf g o2), (3, p_rf g o3), (4, .int y)] [] h (rc y h)) (h : PH) : VX K g 8 kc ks fin 1407 [(0, .ref b), (1, p_rf g o1), (2, p_rf g o2), (3, p_rf g o3), (4, .int i4)] [] h (fLc_37 xs L o1 o2 o3 i4 rc h) := by
  unfold fLc_37
  refine r_aload_n C dL_law_1407 1 rfl ?_
  refine r_aloadS C dL_law_1408 0 rfl ?_
  refine r_iload C dL_law_1409 4 rfl ?_
  refine r_iconst C dL_law_1411 k_i1 ?_
  refine r_iadd C dL_law_1412 ?_
  refine r_sld C CS dL_law_1413 (fun x1 => ?_)
  refine r_aloadS C dL_law_1414 0 rfl ?_
  refine r_iload C dL_law_1415 4 rfl ?_
  refine r_iconst C dL_law_1417 k_i2 ?_
  refine r_iadd C dL_law_1418 ?_
  refine r_sld C CS dL_law_1419 (fun x2 => ?_)
  refine r_cvi (As := [.int x1, .int x2]) (st := []) C wv_L_183 (tcX11_rests K.2.1 g hg o1 x1 x2 h) (Nat.le_of_ble_eq_true rfl) rfl rfl (Nat.le_of_ble_eq_true rfl) dL_law_1420 ⟨by omega, by omega⟩ (fun x3 h4 => ?_)
  refine r_aload_n C dL_law_1423 2 rfl ?_
  refine r_aloadS C dL_law_1424 0 rfl ?_
  refine r_iload C dL_law_1425 4 rfl ?_
  refine r_iconst C dL_law_1427 k_i1 ?_
  refine r_iadd C dL_law_1428 ?_
  refine r_sld C CS dL_law_1429 (fun x5 => ?_)
  refine r_aloadS C dL_law_1430 0 rfl ?_
  refine r_iload C dL_law_1431 4 rfl ?_
  refine r_iconst C dL_law_1433 k_i2 ?_
  refine r_iadd C dL_law_1434 ?_
  refine r_sld C CS dL_law_1435 (fun x6 => ?_)
  refine r_cvi (As := [.int x5, .int x6]) (st := [.int x3]) C wv_L_186 (tcX12_rests K.2.1 g hg o2 x5 x6 h4) (Nat.le_of_ble_eq_true rfl) rfl rfl (Nat.le_of_ble_eq_true rfl) dL_law_1436 ⟨by omega, by omega⟩ (fun x7 h8 => ?_)
  refine r_icmp_eq (tgt := 1624) C dL_law_1439 (by decide) ?_ ?_
  · refine r_widen (k := kc + 1) (n := ks + 6) (by omega) (by omega) ?_
    refine r_iinc (lv' := [(0, .ref b), (1, p_rf g o1), (2, p_rf g o2), (3, p_rf g o3)]) C dL_law_1624 4 rfl k_i5 (by decide) (fun _ => rfl) (fun x9 => ?_)
    refine r_goto (tgt := 23) C dL_law_1627 (by decide) ?_
    refine r_perm (lv' := [(0, .ref b), (1, p_rf g o1), (2, p_rf g o2), (3, p_rf g o3), (4, .int x9)]) [1, 2, 3, 4, 0] rfl ?_
    exact hr x9 h8
  · refine r_iconst C dL_law_1442 k_i0 ?_
    exact r_none
set_option maxRecDepth 100000 in
set_option maxHeartbeats 4000000 in
theorem tLc_38 {K : AC} {g : WG} {b L : Nat} {xs : Nat → Int32} (hg : p_al g = false) (htr : K.2.1.stackTraces = false) (C : Cx K g cL_law 8 RL (some .boolean) "law" 1000 601024 7293034) (CS : va_X b L xs (a_s K) (a_s K).heap ∧ b < (a_s K).heap.size ∧ ¬ p_A g b) {kc ks : Nat} (hkc : kc + 1 ≤ 601024) (hks : ks + 6 ≤ 7293034) {fin : Unit → PH → State → Prop} (o1 o2 o3 : Nat) (i4 : Int32) {rc : Int32 → PH → Option (Unit × PH)} (hr : ∀ (y : Int32) (h : PH), VX K g 8 (kc + 1) (ks + 6) fin 23 [(0, .ref b), (1, p_rf g o1), (2, p_rf g o2), (3, p_rf g o3), (4, .int y)] [] h (rc y h)) (h : PH) : VX K g 8 kc ks fin 1444 [(0, .ref b), (1, p_rf g o1), (2, p_rf g o2), (3, p_rf g o3), (4, .int i4)] [] h (fLc_38 xs L o1 o2 o3 i4 rc h) := by
  unfold fLc_38
  refine r_aload_n C dL_law_1444 1 rfl ?_
  refine r_cvi (As := []) (st := []) C wv_L_187 (tcX11_law K.2.1 g hg o1 h) (Nat.le_of_ble_eq_true rfl) rfl rfl (Nat.le_of_ble_eq_true rfl) dL_law_1445 ⟨by omega, by omega⟩ (fun x1 h2 => ?_)
  refine r_aload_n C dL_law_1448 2 rfl ?_
  refine r_cvi (As := []) (st := [.int x1]) C wv_L_190 (tcX12_law K.2.1 g hg o2 h2) (Nat.le_of_ble_eq_true rfl) rfl rfl (Nat.le_of_ble_eq_true rfl) dL_law_1449 ⟨by omega, by omega⟩ (fun x3 h4 => ?_)
  refine r_icmp_eq (tgt := 1624) C dL_law_1452 (by decide) ?_ ?_
  · refine r_widen (k := kc + 1) (n := ks + 6) (by omega) (by omega) ?_
    refine r_iinc (lv' := [(0, .ref b), (1, p_rf g o1), (2, p_rf g o2), (3, p_rf g o3)]) C dL_law_1624 4 rfl k_i5 (by decide) (fun _ => rfl) (fun x5 => ?_)
    refine r_goto (tgt := 23) C dL_law_1627 (by decide) ?_
    refine r_perm (lv' := [(0, .ref b), (1, p_rf g o1), (2, p_rf g o2), (3, p_rf g o3), (4, .int x5)]) [1, 2, 3, 4, 0] rfl ?_
    exact hr x5 h4
  · refine r_iconst C dL_law_1455 k_i0 ?_
    exact r_none
set_option maxRecDepth 100000 in
set_option maxHeartbeats 4000000 in
theorem tLc_39 {K : AC} {g : WG} {b L : Nat} {xs : Nat → Int32} (hg : p_al g = false) (htr : K.2.1.stackTraces = false) (C : Cx K g cL_law 8 RL (some .boolean) "law" 1000 601024 7293034) (CS : va_X b L xs (a_s K) (a_s K).heap ∧ b < (a_s K).heap.size ∧ ¬ p_A g b) {kc ks : Nat} (hkc : kc + 1 ≤ 601024) (hks : ks + 6 ≤ 7293034) {fin : Unit → PH → State → Prop} (o1 o2 o3 : Nat) (i4 : Int32) {rc : Int32 → PH → Option (Unit × PH)} (hr : ∀ (y : Int32) (h : PH), VX K g 8 (kc + 1) (ks + 6) fin 23 [(0, .ref b), (1, p_rf g o1), (2, p_rf g o2), (3, p_rf g o3), (4, .int y)] [] h (rc y h)) (h : PH) : VX K g 8 kc ks fin 1457 [(0, .ref b), (1, p_rf g o1), (2, p_rf g o2), (3, p_rf g o3), (4, .int i4)] [] h (fLc_39 xs L o1 o2 o3 i4 rc h) := by
  unfold fLc_39
  refine r_aload_n C dL_law_1457 1 rfl ?_
  refine r_aloadS C dL_law_1458 0 rfl ?_
  refine r_iload C dL_law_1459 4 rfl ?_
  refine r_iconst C dL_law_1461 k_i1 ?_
  refine r_iadd C dL_law_1462 ?_
  refine r_sld C CS dL_law_1463 (fun x1 => ?_)
  refine r_aloadS C dL_law_1464 0 rfl ?_
  refine r_iload C dL_law_1465 4 rfl ?_
  refine r_iconst C dL_law_1467 k_i2 ?_
  refine r_iadd C dL_law_1468 ?_
  refine r_sld C CS dL_law_1469 (fun x2 => ?_)
  refine r_cvi (As := [.int x1, .int x2]) (st := []) C wv_L_191 (tcX11_years K.2.1 g hg o1 x1 x2 h) (Nat.le_of_ble_eq_true rfl) rfl rfl (Nat.le_of_ble_eq_true rfl) dL_law_1470 ⟨by omega, by omega⟩ (fun x3 h4 => ?_)
  refine r_aload_n C dL_law_1473 2 rfl ?_
  refine r_aloadS C dL_law_1474 0 rfl ?_
  refine r_iload C dL_law_1475 4 rfl ?_
  refine r_iconst C dL_law_1477 k_i1 ?_
  refine r_iadd C dL_law_1478 ?_
  refine r_sld C CS dL_law_1479 (fun x5 => ?_)
  refine r_aloadS C dL_law_1480 0 rfl ?_
  refine r_iload C dL_law_1481 4 rfl ?_
  refine r_iconst C dL_law_1483 k_i2 ?_
  refine r_iadd C dL_law_1484 ?_
  refine r_sld C CS dL_law_1485 (fun x6 => ?_)
  refine r_cvi (As := [.int x5, .int x6]) (st := [.int x3]) C wv_L_194 (tcX12_years K.2.1 g hg o2 x5 x6 h4) (Nat.le_of_ble_eq_true rfl) rfl rfl (Nat.le_of_ble_eq_true rfl) dL_law_1486 ⟨by omega, by omega⟩ (fun x7 h8 => ?_)
  refine r_icmp_eq (tgt := 1624) C dL_law_1489 (by decide) ?_ ?_
  · refine r_widen (k := kc + 1) (n := ks + 6) (by omega) (by omega) ?_
    refine r_iinc (lv' := [(0, .ref b), (1, p_rf g o1), (2, p_rf g o2), (3, p_rf g o3)]) C dL_law_1624 4 rfl k_i5 (by decide) (fun _ => rfl) (fun x9 => ?_)
    refine r_goto (tgt := 23) C dL_law_1627 (by decide) ?_
    refine r_perm (lv' := [(0, .ref b), (1, p_rf g o1), (2, p_rf g o2), (3, p_rf g o3), (4, .int x9)]) [1, 2, 3, 4, 0] rfl ?_
    exact hr x9 h8
  · refine r_iconst C dL_law_1492 k_i0 ?_
    exact r_none
set_option maxRecDepth 100000 in
set_option maxHeartbeats 4000000 in
theorem tLc_40 {K : AC} {g : WG} {b L : Nat} {xs : Nat → Int32} (hg : p_al g = false) (htr : K.2.1.stackTraces = false) (C : Cx K g cL_law 8 RL (some .boolean) "law" 1000 601024 7293034) (CS : va_X b L xs (a_s K) (a_s K).heap ∧ b < (a_s K).heap.size ∧ ¬ p_A g b) {kc ks : Nat} (hkc : kc + 1 ≤ 601024) (hks : ks + 6 ≤ 7293034) {fin : Unit → PH → State → Prop} (o1 o2 o3 : Nat) (i4 : Int32) {rc : Int32 → PH → Option (Unit × PH)} (hr : ∀ (y : Int32) (h : PH), VX K g 8 (kc + 1) (ks + 6) fin 23 [(0, .ref b), (1, p_rf g o1), (2, p_rf g o2), (3, p_rf g o3), (4, .int y)] [] h (rc y h)) (h : PH) : VX K g 8 kc ks fin 1494 [(0, .ref b), (1, p_rf g o1), (2, p_rf g o2), (3, p_rf g o3), (4, .int i4)] [] h (fLc_40 xs L o1 o2 o3 i4 rc h) := by
  unfold fLc_40
  refine r_aload_n C dL_law_1494 1 rfl ?_
  refine r_aloadS C dL_law_1495 0 rfl ?_
  refine r_iload C dL_law_1496 4 rfl ?_
  refine r_iconst C dL_law_1498 k_i1 ?_
  refine r_iadd C dL_law_1499 ?_
  refine r_sld C CS dL_law_1500 (fun x1 => ?_)
  refine r_cvi (As := [.int x1]) (st := []) C wv_L_195 (tcX11_keep K.2.1 g hg o1 x1 h) (Nat.le_of_ble_eq_true rfl) rfl rfl (Nat.le_of_ble_eq_true rfl) dL_law_1501 ⟨by omega, by omega⟩ (fun x2 h3 => ?_)
  refine r_aload_n C dL_law_1504 2 rfl ?_
  refine r_aloadS C dL_law_1505 0 rfl ?_
  refine r_iload C dL_law_1506 4 rfl ?_
  refine r_iconst C dL_law_1508 k_i1 ?_
  refine r_iadd C dL_law_1509 ?_
  refine r_sld C CS dL_law_1510 (fun x4 => ?_)
  refine r_cvi (As := [.int x4]) (st := [.int x2]) C wv_L_198 (tcX12_keep K.2.1 g hg o2 x4 h3) (Nat.le_of_ble_eq_true rfl) rfl rfl (Nat.le_of_ble_eq_true rfl) dL_law_1511 ⟨by omega, by omega⟩ (fun x5 h6 => ?_)
  refine r_icmp_eq (tgt := 1624) C dL_law_1514 (by decide) ?_ ?_
  · refine r_widen (k := kc + 1) (n := ks + 6) (by omega) (by omega) ?_
    refine r_iinc (lv' := [(0, .ref b), (1, p_rf g o1), (2, p_rf g o2), (3, p_rf g o3)]) C dL_law_1624 4 rfl k_i5 (by decide) (fun _ => rfl) (fun x7 => ?_)
    refine r_goto (tgt := 23) C dL_law_1627 (by decide) ?_
    refine r_perm (lv' := [(0, .ref b), (1, p_rf g o1), (2, p_rf g o2), (3, p_rf g o3), (4, .int x7)]) [1, 2, 3, 4, 0] rfl ?_
    exact hr x7 h6
  · refine r_iconst C dL_law_1517 k_i0 ?_
    exact r_none
set_option maxRecDepth 100000 in
set_option maxHeartbeats 4000000 in
theorem tLc_41 {K : AC} {g : WG} {b L : Nat} {xs : Nat → Int32} (hg : p_al g = false) (htr : K.2.1.stackTraces = false) (C : Cx K g cL_law 8 RL (some .boolean) "law" 1000 601024 7293034) (CS : va_X b L xs (a_s K) (a_s K).heap ∧ b < (a_s K).heap.size ∧ ¬ p_A g b) {kc ks : Nat} (hkc : kc + 1 ≤ 601024) (hks : ks + 6 ≤ 7293034) {fin : Unit → PH → State → Prop} (o1 o2 o3 : Nat) (i4 : Int32) {rc : Int32 → PH → Option (Unit × PH)} (hr : ∀ (y : Int32) (h : PH), VX K g 8 (kc + 1) (ks + 6) fin 23 [(0, .ref b), (1, p_rf g o1), (2, p_rf g o2), (3, p_rf g o3), (4, .int y)] [] h (rc y h)) (h : PH) : VX K g 8 kc ks fin 1519 [(0, .ref b), (1, p_rf g o1), (2, p_rf g o2), (3, p_rf g o3), (4, .int i4)] [] h (fLc_41 xs L o1 o2 o3 i4 rc h) := by
  unfold fLc_41
  refine r_aload_n C dL_law_1519 1 rfl ?_
  refine r_aloadS C dL_law_1520 0 rfl ?_
  refine r_iload C dL_law_1521 4 rfl ?_
  refine r_iconst C dL_law_1523 k_i1 ?_
  refine r_iadd C dL_law_1524 ?_
  refine r_sld C CS dL_law_1525 (fun x1 => ?_)
  refine r_cvi (As := [.int x1]) (st := []) C wv_L_199 (tcX11_again K.2.1 g hg o1 x1 h) (Nat.le_of_ble_eq_true rfl) rfl rfl (Nat.le_of_ble_eq_true rfl) dL_law_1526 ⟨by omega, by omega⟩ (fun x2 h3 => ?_)
  refine r_aload_n C dL_law_1529 2 rfl ?_
  refine r_aloadS C dL_law_1530 0 rfl ?_
  refine r_iload C dL_law_1531 4 rfl ?_
  refine r_iconst C dL_law_1533 k_i1 ?_
  refine r_iadd C dL_law_1534 ?_
  refine r_sld C CS dL_law_1535 (fun x4 => ?_)
  refine r_cvi (As := [.int x4]) (st := [.int x2]) C wv_L_202 (tcX12_again K.2.1 g hg o2 x4 h3) (Nat.le_of_ble_eq_true rfl) rfl rfl (Nat.le_of_ble_eq_true rfl) dL_law_1536 ⟨by omega, by omega⟩ (fun x5 h6 => ?_)
  refine r_icmp_eq (tgt := 1624) C dL_law_1539 (by decide) ?_ ?_
  · refine r_widen (k := kc + 1) (n := ks + 6) (by omega) (by omega) ?_
    refine r_iinc (lv' := [(0, .ref b), (1, p_rf g o1), (2, p_rf g o2), (3, p_rf g o3)]) C dL_law_1624 4 rfl k_i5 (by decide) (fun _ => rfl) (fun x7 => ?_)
    refine r_goto (tgt := 23) C dL_law_1627 (by decide) ?_
    refine r_perm (lv' := [(0, .ref b), (1, p_rf g o1), (2, p_rf g o2), (3, p_rf g o3), (4, .int x7)]) [1, 2, 3, 4, 0] rfl ?_
    exact hr x7 h6
  · refine r_iconst C dL_law_1542 k_i0 ?_
    exact r_none
set_option maxRecDepth 100000 in
set_option maxHeartbeats 4000000 in
theorem tLc_42 {K : AC} {g : WG} {b L : Nat} {xs : Nat → Int32} (hg : p_al g = false) (htr : K.2.1.stackTraces = false) (C : Cx K g cL_law 8 RL (some .boolean) "law" 1000 601024 7293034) (CS : va_X b L xs (a_s K) (a_s K).heap ∧ b < (a_s K).heap.size ∧ ¬ p_A g b) {kc ks : Nat} (hkc : kc + 1 ≤ 601024) (hks : ks + 6 ≤ 7293034) {fin : Unit → PH → State → Prop} (o1 o2 o3 : Nat) (i4 : Int32) {rc : Int32 → PH → Option (Unit × PH)} (hr : ∀ (y : Int32) (h : PH), VX K g 8 (kc + 1) (ks + 6) fin 23 [(0, .ref b), (1, p_rf g o1), (2, p_rf g o2), (3, p_rf g o3), (4, .int y)] [] h (rc y h)) (h : PH) : VX K g 8 kc ks fin 1544 [(0, .ref b), (1, p_rf g o1), (2, p_rf g o2), (3, p_rf g o3), (4, .int i4)] [] h (fLc_42 xs L o1 o2 o3 i4 rc h) := by
  unfold fLc_42
  refine r_aload_n C dL_law_1544 1 rfl ?_
  refine r_aloadS C dL_law_1545 0 rfl ?_
  refine r_iload C dL_law_1546 4 rfl ?_
  refine r_iconst C dL_law_1548 k_i1 ?_
  refine r_iadd C dL_law_1549 ?_
  refine r_sld C CS dL_law_1550 (fun x1 => ?_)
  refine r_cvi (As := [.int x1]) (st := []) C wv_L_203 (tcX11_count K.2.1 g hg o1 x1 h) (Nat.le_of_ble_eq_true rfl) rfl rfl (Nat.le_of_ble_eq_true rfl) dL_law_1551 ⟨by omega, by omega⟩ (fun x2 h3 => ?_)
  refine r_aload_n C dL_law_1554 2 rfl ?_
  refine r_aloadS C dL_law_1555 0 rfl ?_
  refine r_iload C dL_law_1556 4 rfl ?_
  refine r_iconst C dL_law_1558 k_i1 ?_
  refine r_iadd C dL_law_1559 ?_
  refine r_sld C CS dL_law_1560 (fun x4 => ?_)
  refine r_cvi (As := [.int x4]) (st := [.int x2]) C wv_L_206 (tcX12_count K.2.1 g hg o2 x4 h3) (Nat.le_of_ble_eq_true rfl) rfl rfl (Nat.le_of_ble_eq_true rfl) dL_law_1561 ⟨by omega, by omega⟩ (fun x5 h6 => ?_)
  refine r_icmp_eq (tgt := 1624) C dL_law_1564 (by decide) ?_ ?_
  · refine r_widen (k := kc + 1) (n := ks + 6) (by omega) (by omega) ?_
    refine r_iinc (lv' := [(0, .ref b), (1, p_rf g o1), (2, p_rf g o2), (3, p_rf g o3)]) C dL_law_1624 4 rfl k_i5 (by decide) (fun _ => rfl) (fun x7 => ?_)
    refine r_goto (tgt := 23) C dL_law_1627 (by decide) ?_
    refine r_perm (lv' := [(0, .ref b), (1, p_rf g o1), (2, p_rf g o2), (3, p_rf g o3), (4, .int x7)]) [1, 2, 3, 4, 0] rfl ?_
    exact hr x7 h6
  · refine r_iconst C dL_law_1567 k_i0 ?_
    exact r_none
set_option maxRecDepth 100000 in
set_option maxHeartbeats 4000000 in
theorem tLc_43 {K : AC} {g : WG} {b L : Nat} {xs : Nat → Int32} (hg : p_al g = false) (htr : K.2.1.stackTraces = false) (C : Cx K g cL_law 8 RL (some .boolean) "law" 1000 601024 7293034) (CS : va_X b L xs (a_s K) (a_s K).heap ∧ b < (a_s K).heap.size ∧ ¬ p_A g b) {kc ks : Nat} (hkc : kc + 1 ≤ 601024) (hks : ks + 6 ≤ 7293034) {fin : Unit → PH → State → Prop} (o1 o2 o3 : Nat) (i4 : Int32) {rc : Int32 → PH → Option (Unit × PH)} (hr : ∀ (y : Int32) (h : PH), VX K g 8 (kc + 1) (ks + 6) fin 23 [(0, .ref b), (1, p_rf g o1), (2, p_rf g o2), (3, p_rf g o3), (4, .int y)] [] h (rc y h)) (h : PH) : VX K g 8 kc ks fin 1569 [(0, .ref b), (1, p_rf g o1), (2, p_rf g o2), (3, p_rf g o3), (4, .int i4)] [] h (fLc_43 xs L o1 o2 o3 i4 rc h) := by
  unfold fLc_43
  refine r_aload_n C dL_law_1569 1 rfl ?_
  refine r_aloadS C dL_law_1570 0 rfl ?_
  refine r_iload C dL_law_1571 4 rfl ?_
  refine r_iconst C dL_law_1573 k_i1 ?_
  refine r_iadd C dL_law_1574 ?_
  refine r_sld C CS dL_law_1575 (fun x1 => ?_)
  refine r_aload_n C dL_law_1576 3 rfl ?_
  refine r_csW (As := [p_rf g o1, .int x1, p_rf g o3]) (st := []) C wx_L_207 (tcL_row K.2.1 g hg htr o1 x1 o3 h) (Nat.le_of_ble_eq_true rfl) rfl rfl (Nat.le_of_ble_eq_true rfl) dL_law_1577 ⟨by omega, by omega⟩ (fun x2 h3 => ?_)
  refine r_istore (lv9 := [(5, .int x2), (0, .ref b), (1, p_rf g o1), (2, p_rf g o2), (3, p_rf g o3), (4, .int i4)]) C dL_law_1580 (by decide) rfl ?_
  refine r_aload_n C dL_law_1582 3 rfl ?_
  refine r_aloadS C dL_law_1583 1 rfl ?_
  refine r_iload C dL_law_1584 5 rfl ?_
  refine r_iconst C dL_law_1586 k_i1 ?_
  refine r_iadd C dL_law_1587 ?_
  refine r_sld C CS dL_law_1588 (fun x4 => ?_)
  refine r_cvl (As := [.int x4]) (st := []) C wv_L_210 (tcX12_row K.2.1 g hg o2 x4 h3) (Nat.le_of_ble_eq_true rfl) rfl rfl (Nat.le_of_ble_eq_true rfl) dL_law_1589 ⟨by omega, by omega⟩ (fun y5 h6 => ?_)
  refine r_lstore (lv9 := [(6, .long y5), (5, .int x2), (0, .ref b), (1, p_rf g o1), (2, p_rf g o2), (3, p_rf g o3), (4, .int i4)]) C dL_law_1592 (by decide) rfl ?_
  refine r_aload_n C dL_law_1594 4 rfl ?_
  refine r_cvi (As := []) (st := []) C wv_L_59 (tcX12_thrown K.2.1 g hg o2 h6) (Nat.le_of_ble_eq_true rfl) rfl rfl (Nat.le_of_ble_eq_true rfl) dL_law_1595 ⟨by omega, by omega⟩ (fun x7 h8 => ?_)
  refine r_iload C dL_law_1598 1 rfl ?_
  refine r_icmp_eq (tgt := 1605) C dL_law_1600 (by decide) ?_ ?_
  · refine r_iload C dL_law_1605 1 rfl ?_
    refine r_if_ne (tgt := 1621) C dL_law_1607 (by decide) ?_ ?_
    · refine r_goto (tgt := 1624) C dL_law_1621 (by decide) ?_
      refine r_widen (k := kc + 1) (n := ks + 6) (by omega) (by omega) ?_
      refine r_iinc (lv' := [(6, .long y5), (5, .int x2), (0, .ref b), (1, p_rf g o1), (2, p_rf g o2), (3, p_rf g o3)]) C dL_law_1624 6 rfl k_i5 (by decide) (fun _ => rfl) (fun x9 => ?_)
      refine r_goto (tgt := 23) C dL_law_1627 (by decide) ?_
      refine r_perm (lv' := [(0, .ref b), (1, p_rf g o1), (2, p_rf g o2), (3, p_rf g o3), (4, .int x9)]) [3, 4, 5, 6, 0] rfl ?_
      exact hr x9 h8
    · refine r_aload_n C dL_law_1610 5 rfl ?_
      refine r_iconst C dL_law_1611 k_i0 ?_
      refine r_lald C dL_law_1612 (fun y10 => ?_)
      refine r_lload C dL_law_1613 0 rfl ?_
      refine r_lcmp C dL_law_1615 ?_
      refine r_if_eq (tgt := 1621) C dL_law_1616 (by decide) ?_ ?_
      · refine r_goto (tgt := 1624) C dL_law_1621 (by decide) ?_
        refine r_widen (k := kc + 1) (n := ks + 6) (by omega) (by omega) ?_
        refine r_iinc (lv' := [(6, .long y5), (5, .int x2), (0, .ref b), (1, p_rf g o1), (2, p_rf g o2), (3, p_rf g o3)]) C dL_law_1624 6 rfl k_i5 (by decide) (fun _ => rfl) (fun x11 => ?_)
        refine r_goto (tgt := 23) C dL_law_1627 (by decide) ?_
        refine r_perm (lv' := [(0, .ref b), (1, p_rf g o1), (2, p_rf g o2), (3, p_rf g o3), (4, .int x11)]) [3, 4, 5, 6, 0] rfl ?_
        exact hr x11 h8
      · refine r_iconst C dL_law_1619 k_i0 ?_
        exact r_none
  · refine r_iconst C dL_law_1603 k_i0 ?_
    exact r_none
def fLsw (xs : Nat → Int32) (L o1 o2 o3 : Nat) (i4 : Int32) (rc : Int32 → PH → Option (Unit × PH)) (x : Int32) (h : PH) : Option (Unit × PH) := if x = (0 : Int32) then (fLc_0 xs L o1 o2 o3 i4 rc h) else if x = (1 : Int32) then (fLc_1 xs L o1 o2 o3 i4 rc h) else if x = (2 : Int32) then (fLc_2 xs L o1 o2 o3 i4 rc h) else if x = (3 : Int32) then (fLc_3 xs L o1 o2 o3 i4 rc h) else if x = (4 : Int32) then (fLc_4 xs L o1 o2 o3 i4 rc h) else if x = (5 : Int32) then (fLc_5 xs L o1 o2 o3 i4 rc h) else if x = (6 : Int32) then (fLc_6 xs L o1 o2 o3 i4 rc h) else if x = (7 : Int32) then (fLc_7 xs L o1 o2 o3 i4 rc h) else if x = (8 : Int32) then (fLc_8 xs L o1 o2 o3 i4 rc h) else if x = (9 : Int32) then (fLc_9 xs L o1 o2 o3 i4 rc h) else if x = (10 : Int32) then (fLc_10 xs L o1 o2 o3 i4 rc h) else if x = (11 : Int32) then (fLc_11 xs L o1 o2 o3 i4 rc h) else if x = (12 : Int32) then (fLc_12 xs L o1 o2 o3 i4 rc h) else if x = (13 : Int32) then (fLc_13 xs L o1 o2 o3 i4 rc h) else if x = (14 : Int32) then (fLc_14 xs L o1 o2 o3 i4 rc h) else if x = (15 : Int32) then (fLc_15 xs L o1 o2 o3 i4 rc h) else if x = (16 : Int32) then (fLc_16 xs L o1 o2 o3 i4 rc h) else if x = (17 : Int32) then (fLc_17 xs L o1 o2 o3 i4 rc h) else if x = (18 : Int32) then (fLc_18 xs L o1 o2 o3 i4 rc h) else if x = (19 : Int32) then (fLc_19 xs L o1 o2 o3 i4 rc h) else if x = (20 : Int32) then (fLc_20 xs L o1 o2 o3 i4 rc h) else if x = (21 : Int32) then (fLc_21 xs L o1 o2 o3 i4 rc h) else if x = (22 : Int32) then (fLc_22 xs L o1 o2 o3 i4 rc h) else if x = (23 : Int32) then (fLc_23 xs L o1 o2 o3 i4 rc h) else if x = (24 : Int32) then (fLc_24 xs L o1 o2 o3 i4 rc h) else if x = (25 : Int32) then (fLc_25 xs L o1 o2 o3 i4 rc h) else if x = (26 : Int32) then (fLc_26 xs L o1 o2 o3 i4 rc h) else if x = (27 : Int32) then (fLc_27 xs L o1 o2 o3 i4 rc h) else if x = (28 : Int32) then (fLc_28 xs L o1 o2 o3 i4 rc h) else if x = (29 : Int32) then (fLc_29 xs L o1 o2 o3 i4 rc h) else if x = (30 : Int32) then (fLc_30 xs L o1 o2 o3 i4 rc h) else if x = (31 : Int32) then (fLc_31 xs L o1 o2 o3 i4 rc h) else if x = (32 : Int32) then (fLc_32 xs L o1 o2 o3 i4 rc h) else if x = (33 : Int32) then (fLc_33 xs L o1 o2 o3 i4 rc h) else if x = (34 : Int32) then (fLc_34 xs L o1 o2 o3 i4 rc h) else if x = (35 : Int32) then (fLc_35 xs L o1 o2 o3 i4 rc h) else if x = (36 : Int32) then (fLc_36 xs L o1 o2 o3 i4 rc h) else if x = (37 : Int32) then (fLc_37 xs L o1 o2 o3 i4 rc h) else if x = (38 : Int32) then (fLc_38 xs L o1 o2 o3 i4 rc h) else if x = (39 : Int32) then (fLc_39 xs L o1 o2 o3 i4 rc h) else if x = (40 : Int32) then (fLc_40 xs L o1 o2 o3 i4 rc h) else if x = (41 : Int32) then (fLc_41 xs L o1 o2 o3 i4 rc h) else if x = (42 : Int32) then (fLc_42 xs L o1 o2 o3 i4 rc h) else if x = (43 : Int32) then (fLc_43 xs L o1 o2 o3 i4 rc h) else (letE (i4 + (5 : Int32)) fun y => rc y h)
set_option maxRecDepth 100000 in
set_option maxHeartbeats 4000000 in
theorem tLsw {K : AC} {g : WG} {b L : Nat} {xs : Nat → Int32} (hg : p_al g = false) (htr : K.2.1.stackTraces = false) (C : Cx K g cL_law 8 RL (some .boolean) "law" 1000 601024 7293034) (CS : va_X b L xs (a_s K) (a_s K).heap ∧ b < (a_s K).heap.size ∧ ¬ p_A g b) {kc ks : Nat} (hkc : kc + 1 ≤ 601024) (hks : ks + 6 ≤ 7293034) {fin : Unit → PH → State → Prop} (o1 o2 o3 : Nat) (i4 : Int32) {rc : Int32 → PH → Option (Unit × PH)} (hr : ∀ (y : Int32) (h : PH), VX K g 8 (kc + 1) (ks + 6) fin 23 [(0, .ref b), (1, p_rf g o1), (2, p_rf g o2), (3, p_rf g o3), (4, .int y)] [] h (rc y h)) (x : Int32) (h : PH) : VX K g 8 kc ks fin 39 [(0, .ref b), (1, p_rf g o1), (2, p_rf g o2), (3, p_rf g o3), (4, .int i4)] [.int x] h (fLsw xs L o1 o2 o3 i4 rc x h) := by
  unfold fLsw
  refine r_ite (fun e => ?_) (fun q0 => ?_)
  · subst e
    refine r_tin (off := 189) (tgt := 228) C dL_law_39 (by decide) (by decide) rfl (by decide) ?_
    exact tLc_0 hg htr C CS hkc hks o1 o2 o3 i4 hr h
  refine r_ite (fun e => ?_) (fun q1 => ?_)
  · subst e
    refine r_tin (off := 214) (tgt := 253) C dL_law_39 (by decide) (by decide) rfl (by decide) ?_
    exact tLc_1 hg htr C CS hkc hks o1 o2 o3 i4 hr h
  refine r_ite (fun e => ?_) (fun q2 => ?_)
  · subst e
    refine r_tin (off := 239) (tgt := 278) C dL_law_39 (by decide) (by decide) rfl (by decide) ?_
    exact tLc_2 hg htr C CS hkc hks o1 o2 o3 i4 hr h
  refine r_ite (fun e => ?_) (fun q3 => ?_)
  · subst e
    refine r_tin (off := 252) (tgt := 291) C dL_law_39 (by decide) (by decide) rfl (by decide) ?_
    exact tLc_3 hg htr C CS hkc hks o1 o2 o3 i4 hr h
  refine r_ite (fun e => ?_) (fun q4 => ?_)
  · subst e
    refine r_tin (off := 265) (tgt := 304) C dL_law_39 (by decide) (by decide) rfl (by decide) ?_
    exact tLc_4 hg htr C CS hkc hks o1 o2 o3 i4 hr h
  refine r_ite (fun e => ?_) (fun q5 => ?_)
  · subst e
    refine r_tin (off := 278) (tgt := 317) C dL_law_39 (by decide) (by decide) rfl (by decide) ?_
    exact tLc_5 hg htr C CS hkc hks o1 o2 o3 i4 hr h
  refine r_ite (fun e => ?_) (fun q6 => ?_)
  · subst e
    refine r_tin (off := 291) (tgt := 330) C dL_law_39 (by decide) (by decide) rfl (by decide) ?_
    exact tLc_6 hg htr C CS hkc hks o1 o2 o3 i4 hr h
  refine r_ite (fun e => ?_) (fun q7 => ?_)
  · subst e
    refine r_tin (off := 359) (tgt := 398) C dL_law_39 (by decide) (by decide) rfl (by decide) ?_
    exact tLc_7 hg htr C CS hkc hks o1 o2 o3 i4 hr h
  refine r_ite (fun e => ?_) (fun q8 => ?_)
  · subst e
    refine r_tin (off := 427) (tgt := 466) C dL_law_39 (by decide) (by decide) rfl (by decide) ?_
    exact tLc_8 hg htr C CS hkc hks o1 o2 o3 i4 hr h
  refine r_ite (fun e => ?_) (fun q9 => ?_)
  · subst e
    refine r_tin (off := 464) (tgt := 503) C dL_law_39 (by decide) (by decide) rfl (by decide) ?_
    exact tLc_9 hg htr C CS hkc hks o1 o2 o3 i4 hr h
  refine r_ite (fun e => ?_) (fun q10 => ?_)
  · subst e
    refine r_tin (off := 525) (tgt := 564) C dL_law_39 (by decide) (by decide) rfl (by decide) ?_
    exact tLc_10 hg htr C CS hkc hks o1 o2 o3 i4 hr h
  refine r_ite (fun e => ?_) (fun q11 => ?_)
  · subst e
    refine r_tin (off := 562) (tgt := 601) C dL_law_39 (by decide) (by decide) rfl (by decide) ?_
    exact tLc_11 hg htr C CS hkc hks o1 o2 o3 i4 hr h
  refine r_ite (fun e => ?_) (fun q12 => ?_)
  · subst e
    refine r_tin (off := 599) (tgt := 638) C dL_law_39 (by decide) (by decide) rfl (by decide) ?_
    exact tLc_12 hg htr C CS hkc hks o1 o2 o3 i4 hr h
  refine r_ite (fun e => ?_) (fun q13 => ?_)
  · subst e
    refine r_tin (off := 636) (tgt := 675) C dL_law_39 (by decide) (by decide) rfl (by decide) ?_
    exact tLc_13 hg htr C CS hkc hks o1 o2 o3 i4 hr h
  refine r_ite (fun e => ?_) (fun q14 => ?_)
  · subst e
    refine r_tin (off := 661) (tgt := 700) C dL_law_39 (by decide) (by decide) rfl (by decide) ?_
    exact tLc_14 hg htr C CS hkc hks o1 o2 o3 i4 hr h
  refine r_ite (fun e => ?_) (fun q15 => ?_)
  · subst e
    refine r_tin (off := 674) (tgt := 713) C dL_law_39 (by decide) (by decide) rfl (by decide) ?_
    exact tLc_15 hg htr C CS hkc hks o1 o2 o3 i4 hr h
  refine r_ite (fun e => ?_) (fun q16 => ?_)
  · subst e
    refine r_tin (off := 687) (tgt := 726) C dL_law_39 (by decide) (by decide) rfl (by decide) ?_
    exact tLc_16 hg htr C CS hkc hks o1 o2 o3 i4 hr h
  refine r_ite (fun e => ?_) (fun q17 => ?_)
  · subst e
    refine r_tin (off := 736) (tgt := 775) C dL_law_39 (by decide) (by decide) rfl (by decide) ?_
    exact tLc_17 hg htr C CS hkc hks o1 o2 o3 i4 hr h
  refine r_ite (fun e => ?_) (fun q18 => ?_)
  · subst e
    refine r_tin (off := 761) (tgt := 800) C dL_law_39 (by decide) (by decide) rfl (by decide) ?_
    exact tLc_18 hg htr C CS hkc hks o1 o2 o3 i4 hr h
  refine r_ite (fun e => ?_) (fun q19 => ?_)
  · subst e
    refine r_tin (off := 798) (tgt := 837) C dL_law_39 (by decide) (by decide) rfl (by decide) ?_
    exact tLc_19 hg htr C CS hkc hks o1 o2 o3 i4 hr h
  refine r_ite (fun e => ?_) (fun q20 => ?_)
  · subst e
    refine r_tin (off := 835) (tgt := 874) C dL_law_39 (by decide) (by decide) rfl (by decide) ?_
    exact tLc_20 hg htr C CS hkc hks o1 o2 o3 i4 hr h
  refine r_ite (fun e => ?_) (fun q21 => ?_)
  · subst e
    refine r_tin (off := 848) (tgt := 887) C dL_law_39 (by decide) (by decide) rfl (by decide) ?_
    exact tLc_21 hg htr C CS hkc hks o1 o2 o3 i4 hr h
  refine r_ite (fun e => ?_) (fun q22 => ?_)
  · subst e
    refine r_tin (off := 897) (tgt := 936) C dL_law_39 (by decide) (by decide) rfl (by decide) ?_
    exact tLc_22 hg htr C CS hkc hks o1 o2 o3 i4 hr h
  refine r_ite (fun e => ?_) (fun q23 => ?_)
  · subst e
    refine r_tin (off := 946) (tgt := 985) C dL_law_39 (by decide) (by decide) rfl (by decide) ?_
    exact tLc_23 hg htr C CS hkc hks o1 o2 o3 i4 hr h
  refine r_ite (fun e => ?_) (fun q24 => ?_)
  · subst e
    refine r_tin (off := 983) (tgt := 1022) C dL_law_39 (by decide) (by decide) rfl (by decide) ?_
    exact tLc_24 hg htr C CS hkc hks o1 o2 o3 i4 hr h
  refine r_ite (fun e => ?_) (fun q25 => ?_)
  · subst e
    refine r_tin (off := 1020) (tgt := 1059) C dL_law_39 (by decide) (by decide) rfl (by decide) ?_
    exact tLc_25 hg htr C CS hkc hks o1 o2 o3 i4 hr h
  refine r_ite (fun e => ?_) (fun q26 => ?_)
  · subst e
    refine r_tin (off := 1045) (tgt := 1084) C dL_law_39 (by decide) (by decide) rfl (by decide) ?_
    exact tLc_26 hg htr C CS hkc hks o1 o2 o3 i4 hr h
  refine r_ite (fun e => ?_) (fun q27 => ?_)
  · subst e
    refine r_tin (off := 1070) (tgt := 1109) C dL_law_39 (by decide) (by decide) rfl (by decide) ?_
    exact tLc_27 hg htr C CS hkc hks o1 o2 o3 i4 hr h
  refine r_ite (fun e => ?_) (fun q28 => ?_)
  · subst e
    refine r_tin (off := 1095) (tgt := 1134) C dL_law_39 (by decide) (by decide) rfl (by decide) ?_
    exact tLc_28 hg htr C CS hkc hks o1 o2 o3 i4 hr h
  refine r_ite (fun e => ?_) (fun q29 => ?_)
  · subst e
    refine r_tin (off := 1144) (tgt := 1183) C dL_law_39 (by decide) (by decide) rfl (by decide) ?_
    exact tLc_29 hg htr C CS hkc hks o1 o2 o3 i4 hr h
  refine r_ite (fun e => ?_) (fun q30 => ?_)
  · subst e
    refine r_tin (off := 1157) (tgt := 1196) C dL_law_39 (by decide) (by decide) rfl (by decide) ?_
    exact tLc_30 hg htr C CS hkc hks o1 o2 o3 i4 hr h
  refine r_ite (fun e => ?_) (fun q31 => ?_)
  · subst e
    refine r_tin (off := 1182) (tgt := 1221) C dL_law_39 (by decide) (by decide) rfl (by decide) ?_
    exact tLc_31 hg htr C CS hkc hks o1 o2 o3 i4 hr h
  refine r_ite (fun e => ?_) (fun q32 => ?_)
  · subst e
    refine r_tin (off := 1219) (tgt := 1258) C dL_law_39 (by decide) (by decide) rfl (by decide) ?_
    exact tLc_32 hg htr C CS hkc hks o1 o2 o3 i4 hr h
  refine r_ite (fun e => ?_) (fun q33 => ?_)
  · subst e
    refine r_tin (off := 1244) (tgt := 1283) C dL_law_39 (by decide) (by decide) rfl (by decide) ?_
    exact tLc_33 hg htr C CS hkc hks o1 o2 o3 i4 hr h
  refine r_ite (fun e => ?_) (fun q34 => ?_)
  · subst e
    refine r_tin (off := 1269) (tgt := 1308) C dL_law_39 (by decide) (by decide) rfl (by decide) ?_
    exact tLc_34 hg htr C CS hkc hks o1 o2 o3 i4 hr h
  refine r_ite (fun e => ?_) (fun q35 => ?_)
  · subst e
    refine r_tin (off := 1306) (tgt := 1345) C dL_law_39 (by decide) (by decide) rfl (by decide) ?_
    exact tLc_35 hg htr C CS hkc hks o1 o2 o3 i4 hr h
  refine r_ite (fun e => ?_) (fun q36 => ?_)
  · subst e
    refine r_tin (off := 1343) (tgt := 1382) C dL_law_39 (by decide) (by decide) rfl (by decide) ?_
    exact tLc_36 hg htr C CS hkc hks o1 o2 o3 i4 hr h
  refine r_ite (fun e => ?_) (fun q37 => ?_)
  · subst e
    refine r_tin (off := 1368) (tgt := 1407) C dL_law_39 (by decide) (by decide) rfl (by decide) ?_
    exact tLc_37 hg htr C CS hkc hks o1 o2 o3 i4 hr h
  refine r_ite (fun e => ?_) (fun q38 => ?_)
  · subst e
    refine r_tin (off := 1405) (tgt := 1444) C dL_law_39 (by decide) (by decide) rfl (by decide) ?_
    exact tLc_38 hg htr C CS hkc hks o1 o2 o3 i4 hr h
  refine r_ite (fun e => ?_) (fun q39 => ?_)
  · subst e
    refine r_tin (off := 1418) (tgt := 1457) C dL_law_39 (by decide) (by decide) rfl (by decide) ?_
    exact tLc_39 hg htr C CS hkc hks o1 o2 o3 i4 hr h
  refine r_ite (fun e => ?_) (fun q40 => ?_)
  · subst e
    refine r_tin (off := 1455) (tgt := 1494) C dL_law_39 (by decide) (by decide) rfl (by decide) ?_
    exact tLc_40 hg htr C CS hkc hks o1 o2 o3 i4 hr h
  refine r_ite (fun e => ?_) (fun q41 => ?_)
  · subst e
    refine r_tin (off := 1480) (tgt := 1519) C dL_law_39 (by decide) (by decide) rfl (by decide) ?_
    exact tLc_41 hg htr C CS hkc hks o1 o2 o3 i4 hr h
  refine r_ite (fun e => ?_) (fun q42 => ?_)
  · subst e
    refine r_tin (off := 1505) (tgt := 1544) C dL_law_39 (by decide) (by decide) rfl (by decide) ?_
    exact tLc_42 hg htr C CS hkc hks o1 o2 o3 i4 hr h
  refine r_ite (fun e => ?_) (fun q43 => ?_)
  · subst e
    refine r_tin (off := 1530) (tgt := 1569) C dL_law_39 (by decide) (by decide) rfl (by decide) ?_
    exact tLc_43 hg htr C CS hkc hks o1 o2 o3 i4 hr h
  refine r_tout (tgt := 1624) C dL_law_39 (by have w0 := lk_ne9 (k := (0)) (by decide) q0; have w1 := lk_ne9 (k := (1)) (by decide) q1; have w2 := lk_ne9 (k := (2)) (by decide) q2; have w3 := lk_ne9 (k := (3)) (by decide) q3; have w4 := lk_ne9 (k := (4)) (by decide) q4; have w5 := lk_ne9 (k := (5)) (by decide) q5; have w6 := lk_ne9 (k := (6)) (by decide) q6; have w7 := lk_ne9 (k := (7)) (by decide) q7; have w8 := lk_ne9 (k := (8)) (by decide) q8; have w9 := lk_ne9 (k := (9)) (by decide) q9; have w10 := lk_ne9 (k := (10)) (by decide) q10; have w11 := lk_ne9 (k := (11)) (by decide) q11; have w12 := lk_ne9 (k := (12)) (by decide) q12; have w13 := lk_ne9 (k := (13)) (by decide) q13; have w14 := lk_ne9 (k := (14)) (by decide) q14; have w15 := lk_ne9 (k := (15)) (by decide) q15; have w16 := lk_ne9 (k := (16)) (by decide) q16; have w17 := lk_ne9 (k := (17)) (by decide) q17; have w18 := lk_ne9 (k := (18)) (by decide) q18; have w19 := lk_ne9 (k := (19)) (by decide) q19; have w20 := lk_ne9 (k := (20)) (by decide) q20; have w21 := lk_ne9 (k := (21)) (by decide) q21; have w22 := lk_ne9 (k := (22)) (by decide) q22; have w23 := lk_ne9 (k := (23)) (by decide) q23; have w24 := lk_ne9 (k := (24)) (by decide) q24; have w25 := lk_ne9 (k := (25)) (by decide) q25; have w26 := lk_ne9 (k := (26)) (by decide) q26; have w27 := lk_ne9 (k := (27)) (by decide) q27; have w28 := lk_ne9 (k := (28)) (by decide) q28; have w29 := lk_ne9 (k := (29)) (by decide) q29; have w30 := lk_ne9 (k := (30)) (by decide) q30; have w31 := lk_ne9 (k := (31)) (by decide) q31; have w32 := lk_ne9 (k := (32)) (by decide) q32; have w33 := lk_ne9 (k := (33)) (by decide) q33; have w34 := lk_ne9 (k := (34)) (by decide) q34; have w35 := lk_ne9 (k := (35)) (by decide) q35; have w36 := lk_ne9 (k := (36)) (by decide) q36; have w37 := lk_ne9 (k := (37)) (by decide) q37; have w38 := lk_ne9 (k := (38)) (by decide) q38; have w39 := lk_ne9 (k := (39)) (by decide) q39; have w40 := lk_ne9 (k := (40)) (by decide) q40; have w41 := lk_ne9 (k := (41)) (by decide) q41; have w42 := lk_ne9 (k := (42)) (by decide) q42; have w43 := lk_ne9 (k := (43)) (by decide) q43; omega) (by decide) ?_
  refine r_widen (k := kc + 1) (n := ks + 6) (by omega) (by omega) ?_
  refine r_iinc (lv' := [(0, .ref b), (1, p_rf g o1), (2, p_rf g o2), (3, p_rf g o3)]) C dL_law_1624 4 rfl k_i5 (by decide) (fun _ => rfl) (fun y => ?_)
  refine r_goto (tgt := 23) C dL_law_1627 (by decide) ?_
  refine r_perm (lv' := [(0, .ref b), (1, p_rf g o1), (2, p_rf g o2), (3, p_rf g o3), (4, .int y)]) [1, 2, 3, 4, 0] rfl ?_
  exact hr y h
def fL_law_L23 (xs : Nat → Int32) (L o1 o2 o3 : Nat) (kx : PH → Option (Unit × PH)) : Nat → Int32 → PH → Option (Unit × PH)
  | 0, _, _ => none
  | n + 1, i4, h => if (Int32.ofNat L - (5 : Int32)) < i4 then (kx h) else (s_rd xs L i4 fun x => fLsw xs L o1 o2 o3 i4 (fL_law_L23 xs L o1 o2 o3 kx n) (x &&& (63 : Int32)) h)
set_option maxRecDepth 100000 in
set_option maxHeartbeats 4000000 in
theorem tL_law_L23 {K : AC} {g : WG} {b L : Nat} {xs : Nat → Int32} (hg : p_al g = false) (htr : K.2.1.stackTraces = false) (C : Cx K g cL_law 8 RL (some .boolean) "law" 1000 601024 7293034) (CS : va_X b L xs (a_s K) (a_s K).heap ∧ b < (a_s K).heap.size ∧ ¬ p_A g b) {fin : Unit → PH → State → Prop} (o1 o2 o3 : Nat) {kx : PH → Option (Unit × PH)} (hk : ∀ (kc ks : Nat) (lv : List (Nat × Value)) (h : PH), kc ≤ 601024 → ks ≤ 7293034 → VX K g 8 kc ks fin 1630 lv [] h (kx h)) : ∀ (n : Nat) (i4 : Int32) (h : PH) (kc ks : Nat), kc + n ≤ 601024 → ks + 6 * n ≤ 7293034 → VX K g 8 kc ks fin 23 [(0, .ref b), (1, p_rf g o1), (2, p_rf g o2), (3, p_rf g o3), (4, .int i4)] [] h (fL_law_L23 xs L o1 o2 o3 kx n i4 h) := by
  intro n
  induction n with
  | zero =>
    intros
    exact r_none
  | succ n ih =>
    intro i4 h kc ks hkc hks
    rw [fL_law_L23]
    refine r_iload C dL_law_23 4 rfl ?_
    refine r_aloadS C dL_law_25 0 rfl ?_
    refine r_slen C CS dL_law_26 ?_
    refine r_iconst C dL_law_27 k_i5 ?_
    refine r_isub C dL_law_28 ?_
    refine r_icmp_gt (tgt := 1630) C dL_law_29 (by decide) ?_ ?_
    · exact hk kc ks _ h (by omega) (by omega)
    · refine r_aloadS C dL_law_32 0 rfl ?_
      refine r_iload C dL_law_33 4 rfl ?_
      refine r_sld C CS dL_law_35 (fun x => ?_)
      refine r_bipush C dL_law_36 k_b63 ?_
      refine r_iand C dL_law_38 ?_
      exact tLsw hg htr C CS (by omega) (by omega) o1 o2 o3 i4 (fun y h => ih y h (kc + 1) (ks + 6) (by omega) (by omega)) _ h
