theorem p_mt0 {w : Cond} {i : Nat} (h : (k2_sels lw_privs)[i]? = some w) (hw : p_okw w = true) : w ∈ WL := p_mem (List.mem_append_left _ (List.mem_of_getElem? h)) hw
theorem p_mt1 {w : Cond} {i : Nat} (h : tables_1_1[i]? = some w) (hw : p_okw w = true) : w ∈ WL := p_mem (List.mem_append_right _ (List.mem_append_left _ (List.mem_of_getElem? h))) hw
theorem p_mt2 {w : Cond} {i : Nat} (h : tables_1_2[i]? = some w) (hw : p_okw w = true) : w ∈ WL := p_mem (List.mem_append_right _ (List.mem_append_right _ (List.mem_append_left _ (List.mem_of_getElem? h)))) hw
theorem p_mt3 {w : Cond} {i : Nat} (h : tables_1_3[i]? = some w) (hw : p_okw w = true) : w ∈ WL := p_mem (List.mem_append_right _ (List.mem_append_right _ (List.mem_append_right _ (List.mem_append_left _ (List.mem_of_getElem? h))))) hw
theorem p_mt4 {w : Cond} {i : Nat} (h : tables_1_4[i]? = some w) (hw : p_okw w = true) : w ∈ WL := p_mem (List.mem_append_right _ (List.mem_append_right _ (List.mem_append_right _ (List.mem_append_right _ (List.mem_append_left _ (List.mem_of_getElem? h)))))) hw
theorem p_mt5 {w : Cond} {i : Nat} (h : tables_1_5[i]? = some w) (hw : p_okw w = true) : w ∈ WL := p_mem (List.mem_append_right _ (List.mem_append_right _ (List.mem_append_right _ (List.mem_append_right _ (List.mem_append_right _ (List.mem_append_left _ (List.mem_of_getElem? h))))))) hw
theorem p_mt6 {w : Cond} {i : Nat} (h : tables_1_6[i]? = some w) (hw : p_okw w = true) : w ∈ WL := p_mem (List.mem_append_right _ (List.mem_append_right _ (List.mem_append_right _ (List.mem_append_right _ (List.mem_append_right _ (List.mem_append_right _ (List.mem_append_left _ (List.mem_of_getElem? h)))))))) hw
theorem p_mt7 {w : Cond} {i : Nat} (h : tables_1_7[i]? = some w) (hw : p_okw w = true) : w ∈ WL := p_mem (List.mem_append_right _ (List.mem_append_right _ (List.mem_append_right _ (List.mem_append_right _ (List.mem_append_right _ (List.mem_append_right _ (List.mem_append_right _ (List.mem_append_left _ (List.mem_of_getElem? h))))))))) hw
theorem p_mt8 {w : Cond} {i : Nat} (h : tables_1_8[i]? = some w) (hw : p_okw w = true) : w ∈ WL := p_mem (List.mem_append_right _ (List.mem_append_right _ (List.mem_append_right _ (List.mem_append_right _ (List.mem_append_right _ (List.mem_append_right _ (List.mem_append_right _ (List.mem_append_right _ (List.mem_append_left _ (List.mem_of_getElem? h)))))))))) hw
theorem p_mt9 {w : Cond} {i : Nat} (h : tables_1_9[i]? = some w) (hw : p_okw w = true) : w ∈ WL := p_mem (List.mem_append_right _ (List.mem_append_right _ (List.mem_append_right _ (List.mem_append_right _ (List.mem_append_right _ (List.mem_append_right _ (List.mem_append_right _ (List.mem_append_right _ (List.mem_append_right _ (List.mem_of_getElem? h)))))))))) hw
theorem k_b40 : (Int8.ofInt (40)).toInt32 = (40 : Int32) := by decide
theorem k_b8 : (Int8.ofInt (8)).toInt32 = (8 : Int32) := by decide
theorem k_b32 : (Int8.ofInt (32)).toInt32 = (32 : Int32) := by decide
theorem k_b6 : (Int8.ofInt (6)).toInt32 = (6 : Int32) := by decide
theorem k_b18 : (Int8.ofInt (18)).toInt32 = (18 : Int32) := by decide
theorem k_i0 : Int32.ofInt (0) = (0 : Int32) := by decide
theorem k_i1 : Int32.ofInt (1) = (1 : Int32) := by decide
theorem k_im1 : Int32.ofInt (-1) = (-1 : Int32) := by decide
theorem k_b48 : (Int8.ofInt (48)).toInt32 = (48 : Int32) := by decide
theorem k_i4 : Int32.ofInt (4) = (4 : Int32) := by decide
theorem k_i2 : Int32.ofInt (2) = (2 : Int32) := by decide
theorem k_b45 : (Int8.ofInt (45)).toInt32 = (45 : Int32) := by decide
theorem k_i3 : Int32.ofInt (3) = (3 : Int32) := by decide
theorem k_b97 : (Int8.ofInt (97)).toInt32 = (97 : Int32) := by decide
theorem k_b100 : (Int8.ofInt (100)).toInt32 = (100 : Int32) := by decide
theorem k_b60 : (Int8.ofInt (60)).toInt32 = (60 : Int32) := by decide
theorem k_b57 : (Int8.ofInt (57)).toInt32 = (57 : Int32) := by decide
theorem k_b59 : (Int8.ofInt (59)).toInt32 = (59 : Int32) := by decide
theorem k_b62 : (Int8.ofInt (62)).toInt32 = (62 : Int32) := by decide
theorem k_b103 : (Int8.ofInt (103)).toInt32 = (103 : Int32) := by decide
theorem k_b116 : (Int8.ofInt (116)).toInt32 = (116 : Int32) := by decide
theorem k_b109 : (Int8.ofInt (109)).toInt32 = (109 : Int32) := by decide
theorem k_s1000 : (Int16.ofInt (1000)).toInt32 = (1000 : Int32) := by decide
theorem k_s256 : (Int16.ofInt (256)).toInt32 = (256 : Int32) := by decide
theorem k_b10 : (Int8.ofInt (10)).toInt32 = (10 : Int32) := by decide
theorem k_b41 : (Int8.ofInt (41)).toInt32 = (41 : Int32) := by decide
theorem k_b12 : (Int8.ofInt (12)).toInt32 = (12 : Int32) := by decide
theorem k_b64 : (Int8.ofInt (64)).toInt32 = (64 : Int32) := by decide
theorem k_b82 : (Int8.ofInt (82)).toInt32 = (82 : Int32) := by decide
theorem k_b16 : (Int8.ofInt (16)).toInt32 = (16 : Int32) := by decide
theorem k_b63 : (Int8.ofInt (63)).toInt32 = (63 : Int32) := by decide
theorem k_b7 : (Int8.ofInt (7)).toInt32 = (7 : Int32) := by decide
theorem k_sm256 : (Int16.ofInt (-256)).toInt32 = (-256 : Int32) := by decide
theorem k_bm99 : (Int8.ofInt (-99)).toInt32 = (-99 : Int32) := by decide
theorem k_b99 : (Int8.ofInt (99)).toInt32 = (99 : Int32) := by decide
theorem k_i5 : Int32.ofInt (5) = (5 : Int32) := by decide
theorem k_b80 : (Int8.ofInt (80)).toInt32 = (80 : Int32) := by decide
theorem k_b9 : (Int8.ofInt (9)).toInt32 = (9 : Int32) := by decide
theorem k_bm2 : (Int8.ofInt (-2)).toInt32 = (-2 : Int32) := by decide
theorem k_s1148 : (Int16.ofInt (1148)).toInt32 = (1148 : Int32) := by decide
theorem k_b24 : (Int8.ofInt (24)).toInt32 = (24 : Int32) := by decide
theorem k_s255 : (Int16.ofInt (255)).toInt32 = (255 : Int32) := by decide
theorem k_im8 : Int32.ofInt (-8) = (-8 : Int32) := by decide
theorem k_b81 : (Int8.ofInt (81)).toInt32 = (81 : Int32) := by decide
theorem k_s9999 : (Int16.ofInt (9999)).toInt32 = (9999 : Int32) := by decide
theorem k_bm3 : (Int8.ofInt (-3)).toInt32 = (-3 : Int32) := by decide
theorem k_b55 : (Int8.ofInt (55)).toInt32 = (55 : Int32) := by decide
theorem k_b35 : (Int8.ofInt (35)).toInt32 = (35 : Int32) := by decide
theorem k_b20 : (Int8.ofInt (20)).toInt32 = (20 : Int32) := by decide
theorem k_b30 : (Int8.ofInt (30)).toInt32 = (30 : Int32) := by decide
theorem k_sm10000 : (Int16.ofInt (-10000)).toInt32 = (-10000 : Int32) := by decide
theorem k_s12345 : (Int16.ofInt (12345)).toInt32 = (12345 : Int32) := by decide
theorem k_b88 : (Int8.ofInt (88)).toInt32 = (88 : Int32) := by decide
theorem k_b54 : (Int8.ofInt (54)).toInt32 = (54 : Int32) := by decide
theorem k_s1056 : (Int16.ofInt (1056)).toInt32 = (1056 : Int32) := by decide
theorem k_s240 : (Int16.ofInt (240)).toInt32 = (240 : Int32) := by decide
theorem k_s10000 : (Int16.ofInt (10000)).toInt32 = (10000 : Int32) := by decide
theorem k_s176 : (Int16.ofInt (176)).toInt32 = (176 : Int32) := by decide
theorem k_b49 : (Int8.ofInt (49)).toInt32 = (49 : Int32) := by decide
theorem k_b38 : (Int8.ofInt (38)).toInt32 = (38 : Int32) := by decide
theorem k_b61 : (Int8.ofInt (61)).toInt32 = (61 : Int32) := by decide
theorem k_b118 : (Int8.ofInt (118)).toInt32 = (118 : Int32) := by decide
theorem k_b101 : (Int8.ofInt (101)).toInt32 = (101 : Int32) := by decide
theorem k_b115 : (Int8.ofInt (115)).toInt32 = (115 : Int32) := by decide
theorem k_b110 : (Int8.ofInt (110)).toInt32 = (110 : Int32) := by decide
theorem k_b42 : (Int8.ofInt (42)).toInt32 = (42 : Int32) := by decide
theorem k_b47 : (Int8.ofInt (47)).toInt32 = (47 : Int32) := by decide
theorem k_b43 : (Int8.ofInt (43)).toInt32 = (43 : Int32) := by decide
theorem k_b86 : (Int8.ofInt (86)).toInt32 = (86 : Int32) := by decide
theorem k_s968 : (Int16.ofInt (968)).toInt32 = (968 : Int32) := by decide
theorem k_b87 : (Int8.ofInt (87)).toInt32 = (87 : Int32) := by decide
set_option maxRecDepth 100000 in
theorem m_154 : Cond.methodLink RX1 3 objectInit ∈ WL := p_mt1 (i := 57) rfl rfl
set_option maxRecDepth 100000 in
theorem m_130 : Cond.instanceMethod objectInit ∈ WL := p_mt1 (i := 33) rfl rfl
set_option maxRecDepth 100000 in
theorem m_131 : Cond.code objectInit ⟨#[0xb1]⟩ 1 none ∈ WL := p_mt1 (i := 34) rfl rfl
set_option maxRecDepth 100000 in
theorem wo_X1_3 : MO RX1 3 := ⟨m_154, m_130, m_131⟩
set_option maxRecDepth 100000 in
theorem m_160 : Cond.fieldLink RX1 9 (TX6 0).1 (TX6 0).2.1 (TX6 0).2.2.1 ∈ WL := p_mt1 (i := 63) rfl rfl
set_option maxRecDepth 100000 in
theorem inW_X6 : ∀ w ∈ u_ws RX6 TX6 10, w ∈ WL := fun w hw => p_mem (of_decide_eq_true (List.all_eq_true.mp (show (u_ws RX6 TX6 10).all (fun w => decide (w ∈ lw_tbl)) = true by decide +kernel) w hw)) (List.all_eq_true.mp (show (u_ws RX6 TX6 10).all p_okw = true by decide +kernel) w hw)
set_option maxRecDepth 100000 in
theorem wf_X1_9_5 : FL RX1 9 5 0 .int true := ⟨RX6, TX6, 10, tyX6, rfl, inW_X6, by decide, m_160, nmX6, tyX6_ok, by decide +kernel, rfl, fun h => by first | rfl | cases h⟩
set_option maxRecDepth 100000 in
theorem m_227 : Cond.arrayClass .int ∈ WL := p_mt1 (i := 130) rfl rfl
set_option maxRecDepth 100000 in
theorem m_254 : Cond.fieldLink RX6 11 (TX6 1).1 (TX6 1).2.1 (TX6 1).2.2.1 ∈ WL := p_mt1 (i := 157) rfl rfl
set_option maxRecDepth 100000 in
theorem wf_X6_11_5 : FL RX6 11 5 1 (.array .int) true := ⟨RX6, TX6, 10, tyX6, rfl, inW_X6, by decide, m_254, nmX6, tyX6_ok, by decide +kernel, rfl, fun h => by first | rfl | cases h⟩
set_option maxRecDepth 100000 in
theorem m_255 : Cond.fieldLink RX6 15 (TX6 2).1 (TX6 2).2.1 (TX6 2).2.2.1 ∈ WL := p_mt1 (i := 158) rfl rfl
set_option maxRecDepth 100000 in
theorem wf_X6_15_5 : FL RX6 15 5 2 (.array .int) true := ⟨RX6, TX6, 10, tyX6, rfl, inW_X6, by decide, m_255, nmX6, tyX6_ok, by decide +kernel, rfl, fun h => by first | rfl | cases h⟩
set_option maxRecDepth 100000 in
theorem m_256 : Cond.fieldLink RX6 18 (TX6 3).1 (TX6 3).2.1 (TX6 3).2.2.1 ∈ WL := p_mt1 (i := 159) rfl rfl
set_option maxRecDepth 100000 in
theorem wf_X6_18_5 : FL RX6 18 5 3 (.array .int) true := ⟨RX6, TX6, 10, tyX6, rfl, inW_X6, by decide, m_256, nmX6, tyX6_ok, by decide +kernel, rfl, fun h => by first | rfl | cases h⟩
set_option maxRecDepth 100000 in
theorem m_253 : Cond.methodLink RX6 5 yX1_init ∈ WL := p_mt1 (i := 156) rfl rfl
set_option maxRecDepth 100000 in
theorem m_152 : Cond.instanceMethod yX1_init ∈ WL := p_mt1 (i := 55) rfl rfl
set_option maxRecDepth 100000 in
theorem m_100 : Cond.initialized RX1 ∈ WL := p_mt1 (i := 3) rfl rfl
set_option maxRecDepth 100000 in
theorem m_153 : Cond.code yX1_init cX1_init 2 none ∈ WL := p_mt1 (i := 56) rfl rfl
set_option maxRecDepth 100000 in
theorem wi_X6_5 : MI RX6 5 yX1_init cX1_init 2 1 := ⟨rfl, m_253, m_152, m_100, m_153, by decide +kernel, by decide +kernel, by decide⟩
set_option maxRecDepth 100000 in
theorem m_247 : Cond.methodLink RX0 3 objectInit ∈ WL := p_mt1 (i := 150) rfl rfl
set_option maxRecDepth 100000 in
theorem wo_X0_3 : MO RX0 3 := ⟨m_247, m_130, m_131⟩
set_option maxRecDepth 100000 in
theorem m_283 : Cond.fieldLink RX0 9 (TX0 0).1 (TX0 0).2.1 (TX0 0).2.2.1 ∈ WL := p_mt1 (i := 186) rfl rfl
set_option maxRecDepth 100000 in
theorem inW_X0 : ∀ w ∈ u_ws RX0 TX0 12, w ∈ WL := fun w hw => p_mem (of_decide_eq_true (List.all_eq_true.mp (show (u_ws RX0 TX0 12).all (fun w => decide (w ∈ lw_tbl)) = true by decide +kernel) w hw)) (List.all_eq_true.mp (show (u_ws RX0 TX0 12).all p_okw = true by decide +kernel) w hw)
set_option maxRecDepth 100000 in
theorem wf_X0_9_0 : FL RX0 9 0 0 (.array .int) true := ⟨RX0, TX0, 12, tyX0, rfl, inW_X0, by decide, m_283, nmX0, tyX0_ok, by decide +kernel, rfl, fun h => by first | rfl | cases h⟩
set_option maxRecDepth 100000 in
theorem m_284 : Cond.fieldLink RX0 15 (TX0 1).1 (TX0 1).2.1 (TX0 1).2.2.1 ∈ WL := p_mt1 (i := 187) rfl rfl
set_option maxRecDepth 100000 in
theorem wf_X0_15_0 : FL RX0 15 0 1 (.array .int) true := ⟨RX0, TX0, 12, tyX0, rfl, inW_X0, by decide, m_284, nmX0, tyX0_ok, by decide +kernel, rfl, fun h => by first | rfl | cases h⟩
set_option maxRecDepth 100000 in
theorem m_285 : Cond.fieldLink RX0 18 (TX0 2).1 (TX0 2).2.1 (TX0 2).2.2.1 ∈ WL := p_mt1 (i := 188) rfl rfl
set_option maxRecDepth 100000 in
theorem wf_X0_18_0 : FL RX0 18 0 2 (.array .int) true := ⟨RX0, TX0, 12, tyX0, rfl, inW_X0, by decide, m_285, nmX0, tyX0_ok, by decide +kernel, rfl, fun h => by first | rfl | cases h⟩
set_option maxRecDepth 100000 in
theorem m_286 : Cond.fieldLink RX0 21 (TX0 3).1 (TX0 3).2.1 (TX0 3).2.2.1 ∈ WL := p_mt1 (i := 189) rfl rfl
set_option maxRecDepth 100000 in
theorem wf_X0_21_0 : FL RX0 21 0 3 (.array .int) true := ⟨RX0, TX0, 12, tyX0, rfl, inW_X0, by decide, m_286, nmX0, tyX0_ok, by decide +kernel, rfl, fun h => by first | rfl | cases h⟩
set_option maxRecDepth 100000 in
theorem m_287 : Cond.fieldLink RX0 24 (TX0 4).1 (TX0 4).2.1 (TX0 4).2.2.1 ∈ WL := p_mt1 (i := 190) rfl rfl
set_option maxRecDepth 100000 in
theorem wf_X0_24_0 : FL RX0 24 0 4 (.array .int) true := ⟨RX0, TX0, 12, tyX0, rfl, inW_X0, by decide, m_287, nmX0, tyX0_ok, by decide +kernel, rfl, fun h => by first | rfl | cases h⟩
set_option maxRecDepth 100000 in
theorem m_288 : Cond.fieldLink RX0 27 (TX0 5).1 (TX0 5).2.1 (TX0 5).2.2.1 ∈ WL := p_mt1 (i := 191) rfl rfl
set_option maxRecDepth 100000 in
theorem wf_X0_27_0 : FL RX0 27 0 5 (.array .int) true := ⟨RX0, TX0, 12, tyX0, rfl, inW_X0, by decide, m_288, nmX0, tyX0_ok, by decide +kernel, rfl, fun h => by first | rfl | cases h⟩
set_option maxRecDepth 100000 in
theorem m_289 : Cond.fieldLink RX0 30 (TX0 6).1 (TX0 6).2.1 (TX0 6).2.2.1 ∈ WL := p_mt1 (i := 192) rfl rfl
set_option maxRecDepth 100000 in
theorem wf_X0_30_0 : FL RX0 30 0 6 (.array .int) true := ⟨RX0, TX0, 12, tyX0, rfl, inW_X0, by decide, m_289, nmX0, tyX0_ok, by decide +kernel, rfl, fun h => by first | rfl | cases h⟩
set_option maxRecDepth 100000 in
theorem m_248 : Cond.classLink RX0 33 RX6 ∈ WL := p_mt1 (i := 151) rfl rfl
set_option maxRecDepth 100000 in
theorem m_249 : Cond.instantiable RX6 10 ∈ WL := p_mt1 (i := 152) rfl rfl
set_option maxRecDepth 100000 in
theorem m_107 : Cond.initialized RX6 ∈ WL := p_mt1 (i := 10) rfl rfl
set_option maxRecDepth 100000 in
theorem ww_X0_33 : MW RX0 33 5 10 [.int 0, .null, .null, .null, .int 0, .int 0, .int 0, .int 0, .int 0, .int 0] := ⟨RX6, TX6, tyX6, rfl, inW_X6, tyX6_ok, m_248, m_249, m_107, by decide +kernel, fun v hv a e => by rw [e] at hv; simp at hv⟩
set_option maxRecDepth 100000 in
theorem m_290 : Cond.fieldLink RX0 36 (TX0 7).1 (TX0 7).2.1 (TX0 7).2.2.1 ∈ WL := p_mt1 (i := 193) rfl rfl
set_option maxRecDepth 100000 in
theorem wf_X0_36_0 : FL RX0 36 0 7 (.object "ReasonsSupplied$Rule") false := ⟨RX0, TX0, 12, tyX0, rfl, inW_X0, by decide, m_290, nmX0, tyX0_ok, by decide +kernel, rfl, fun h => by first | rfl | cases h⟩
set_option maxRecDepth 100000 in
theorem m_291 : Cond.fieldLink RX0 40 (TX0 8).1 (TX0 8).2.1 (TX0 8).2.2.1 ∈ WL := p_mt1 (i := 194) rfl rfl
set_option maxRecDepth 100000 in
theorem wf_X0_40_0 : FL RX0 40 0 8 (.object "ReasonsSupplied$Rule") false := ⟨RX0, TX0, 12, tyX0, rfl, inW_X0, by decide, m_291, nmX0, tyX0_ok, by decide +kernel, rfl, fun h => by first | rfl | cases h⟩
set_option maxRecDepth 100000 in
theorem m_250 : Cond.methodLink RX0 35 yX6_init ∈ WL := p_mt1 (i := 153) rfl rfl
set_option maxRecDepth 100000 in
theorem m_251 : Cond.instanceMethod yX6_init ∈ WL := p_mt1 (i := 154) rfl rfl
set_option maxRecDepth 100000 in
theorem m_252 : Cond.code yX6_init cX6_init 1 none ∈ WL := p_mt1 (i := 155) rfl rfl
set_option maxRecDepth 100000 in
theorem wi_X0_35 : MI RX0 35 yX6_init cX6_init 1 0 := ⟨rfl, m_250, m_251, m_107, m_252, by decide +kernel, by decide +kernel, by decide⟩
set_option maxRecDepth 100000 in
theorem m_292 : Cond.fieldLink RX0 43 (TX0 9).1 (TX0 9).2.1 (TX0 9).2.2.1 ∈ WL := p_mt1 (i := 195) rfl rfl
set_option maxRecDepth 100000 in
theorem wf_X0_43_0 : FL RX0 43 0 9 .int false := ⟨RX0, TX0, 12, tyX0, rfl, inW_X0, by decide, m_292, nmX0, tyX0_ok, by decide +kernel, rfl, fun h => by first | rfl | cases h⟩
set_option maxRecDepth 100000 in
theorem m_293 : Cond.fieldLink RX0 47 (TX0 10).1 (TX0 10).2.1 (TX0 10).2.2.1 ∈ WL := p_mt1 (i := 196) rfl rfl
set_option maxRecDepth 100000 in
theorem wf_X0_47_0 : FL RX0 47 0 10 .int false := ⟨RX0, TX0, 12, tyX0, rfl, inW_X0, by decide, m_293, nmX0, tyX0_ok, by decide +kernel, rfl, fun h => by first | rfl | cases h⟩
set_option maxRecDepth 100000 in
theorem m_294 : Cond.fieldLink RX0 50 (TX0 11).1 (TX0 11).2.1 (TX0 11).2.2.1 ∈ WL := p_mt1 (i := 197) rfl rfl
set_option maxRecDepth 100000 in
theorem wf_X0_50_0 : FL RX0 50 0 11 .int false := ⟨RX0, TX0, 12, tyX0, rfl, inW_X0, by decide, m_294, nmX0, tyX0_ok, by decide +kernel, rfl, fun h => by first | rfl | cases h⟩
set_option maxRecDepth 100000 in
theorem m_139 : Cond.fieldLink RX7 15 (TX7 1).1 (TX7 1).2.1 (TX7 1).2.2.1 ∈ WL := p_mt1 (i := 42) rfl rfl
set_option maxRecDepth 100000 in
theorem inW_X7 : ∀ w ∈ u_ws RX7 TX7 2, w ∈ WL := fun w hw => p_mem (of_decide_eq_true (List.all_eq_true.mp (show (u_ws RX7 TX7 2).all (fun w => decide (w ∈ lw_tbl)) = true by decide +kernel) w hw)) (List.all_eq_true.mp (show (u_ws RX7 TX7 2).all p_okw = true by decide +kernel) w hw)
set_option maxRecDepth 100000 in
theorem wf_X7_15_6 : FL RX7 15 6 1 .int false := ⟨RX7, TX7, 2, tyX7, rfl, inW_X7, by decide, m_139, nmX7, tyX7_ok, by decide +kernel, rfl, fun h => by first | rfl | cases h⟩
set_option maxRecDepth 100000 in
theorem m_138 : Cond.fieldLink RX7 9 (TX7 0).1 (TX7 0).2.1 (TX7 0).2.2.1 ∈ WL := p_mt1 (i := 41) rfl rfl
set_option maxRecDepth 100000 in
theorem wf_X7_9_6 : FL RX7 9 6 0 (.array .char) true := ⟨RX7, TX7, 2, tyX7, rfl, inW_X7, by decide, m_138, nmX7, tyX7_ok, by decide +kernel, rfl, fun h => by first | rfl | cases h⟩
set_option maxRecDepth 100000 in
theorem m_442 : Cond.methodLinkNest RX7 19 yX11_within RX11 ∈ WL := p_mt2 (i := 105) rfl rfl
set_option maxRecDepth 100000 in
theorem m_443 : Cond.static yX11_within ∈ WL := p_mt2 (i := 106) rfl rfl
set_option maxRecDepth 100000 in
theorem m_98 : Cond.initialized RX11 ∈ WL := p_mt1 (i := 1) rfl rfl
set_option maxRecDepth 100000 in
theorem m_444 : Cond.code yX11_within cX11_within 3 (some .boolean) ∈ WL := p_mt2 (i := 107) rfl rfl
set_option maxRecDepth 100000 in
theorem wn_X7_19 : MN RX7 19 RX11 yX11_within cX11_within 3 (some .boolean) 3 := ⟨m_442, m_443, m_98, m_444, by decide +kernel, by decide +kernel, by decide⟩
set_option maxRecDepth 100000 in
theorem m_658 : Cond.methodLink RX7 23 yX7_at ∈ WL := p_mt3 (i := 81) rfl rfl
set_option maxRecDepth 100000 in
theorem m_480 : Cond.instanceMethod yX7_at ∈ WL := p_mt2 (i := 143) rfl rfl
set_option maxRecDepth 100000 in
theorem m_481 : Cond.selects RX7 yX7_at yX7_at ∈ WL := p_mt2 (i := 144) rfl rfl
set_option maxRecDepth 100000 in
theorem m_99 : Cond.initialized RX7 ∈ WL := p_mt1 (i := 2) rfl rfl
set_option maxRecDepth 100000 in
theorem m_482 : Cond.code yX7_at cX7_at 2 (some .int) ∈ WL := p_mt2 (i := 145) rfl rfl
set_option maxRecDepth 100000 in
theorem wv_X7_23 : MV RX7 23 6 yX7_at cX7_at 2 (some .int) 1 := ⟨⟨TX7, 2, rfl⟩, m_658, m_480, m_481, m_99, m_482, by decide +kernel, by decide +kernel, by decide⟩
set_option maxRecDepth 100000 in
theorem m_668 : Cond.methodLink RX0 59 yX7_at ∈ WL := p_mt3 (i := 91) rfl rfl
set_option maxRecDepth 100000 in
theorem wv_X0_59 : MV RX0 59 6 yX7_at cX7_at 2 (some .int) 1 := ⟨⟨TX7, 2, rfl⟩, m_668, m_480, m_481, m_99, m_482, by decide +kernel, by decide +kernel, by decide⟩
set_option maxRecDepth 100000 in
theorem m_667 : Cond.methodLink RX0 53 yX7_digitAt ∈ WL := p_mt3 (i := 90) rfl rfl
set_option maxRecDepth 100000 in
theorem m_655 : Cond.instanceMethod yX7_digitAt ∈ WL := p_mt3 (i := 78) rfl rfl
set_option maxRecDepth 100000 in
theorem m_656 : Cond.selects RX7 yX7_digitAt yX7_digitAt ∈ WL := p_mt3 (i := 79) rfl rfl
set_option maxRecDepth 100000 in
theorem m_657 : Cond.code yX7_digitAt cX7_digitAt 2 (some .int) ∈ WL := p_mt3 (i := 80) rfl rfl
set_option maxRecDepth 100000 in
theorem wv_X0_53 : MV RX0 53 6 yX7_digitAt cX7_digitAt 2 (some .int) 1 := ⟨⟨TX7, 2, rfl⟩, m_667, m_655, m_656, m_99, m_657, by decide +kernel, by decide +kernel, by decide⟩
set_option maxRecDepth 100000 in
theorem m_718 : Cond.methodLinkNest RX0 70 yX11_within RX11 ∈ WL := p_mt3 (i := 141) rfl rfl
set_option maxRecDepth 100000 in
theorem wn_X0_70 : MN RX0 70 RX11 yX11_within cX11_within 3 (some .boolean) 3 := ⟨m_718, m_443, m_98, m_444, by decide +kernel, by decide +kernel, by decide⟩
set_option maxRecDepth 100000 in
theorem m_714 : Cond.methodLink RX0 66 yX0_addTerms ∈ WL := p_mt3 (i := 137) rfl rfl
set_option maxRecDepth 100000 in
theorem m_716 : Cond.instanceMethod yX0_addTerms ∈ WL := p_mt3 (i := 139) rfl rfl
set_option maxRecDepth 100000 in
theorem m_11 : Cond.selects RX0 yX0_addTerms yX0_addTerms ∈ WL := p_mt0 (i := 11) rfl rfl
set_option maxRecDepth 100000 in
theorem m_106 : Cond.initialized RX0 ∈ WL := p_mt1 (i := 9) rfl rfl
set_option maxRecDepth 100000 in
theorem m_717 : Cond.code yX0_addTerms cX0_addTerms 6 (some .int) ∈ WL := p_mt3 (i := 140) rfl rfl
set_option maxRecDepth 100000 in
theorem wv_X0_66 : MV RX0 66 0 yX0_addTerms cX0_addTerms 6 (some .int) 2 := ⟨⟨TX0, 12, rfl⟩, m_714, m_716, m_11, m_106, m_717, by decide +kernel, by decide +kernel, by decide⟩
set_option maxRecDepth 100000 in
theorem m_713 : Cond.methodLink RX0 62 yX7_size ∈ WL := p_mt3 (i := 136) rfl rfl
set_option maxRecDepth 100000 in
theorem m_431 : Cond.instanceMethod yX7_size ∈ WL := p_mt2 (i := 94) rfl rfl
set_option maxRecDepth 100000 in
theorem m_432 : Cond.selects RX7 yX7_size yX7_size ∈ WL := p_mt2 (i := 95) rfl rfl
set_option maxRecDepth 100000 in
theorem m_433 : Cond.code yX7_size cX7_size 1 (some .int) ∈ WL := p_mt2 (i := 96) rfl rfl
set_option maxRecDepth 100000 in
theorem wv_X0_62 : MV RX0 62 6 yX7_size cX7_size 1 (some .int) 0 := ⟨⟨TX7, 2, rfl⟩, m_713, m_431, m_432, m_99, m_433, by decide +kernel, by decide +kernel, by decide⟩
set_option maxRecDepth 100000 in
theorem m_915 : Cond.methodLink RX0 74 yX0_hasGround ∈ WL := p_mt4 (i := 98) rfl rfl
set_option maxRecDepth 100000 in
theorem m_752 : Cond.instanceMethod yX0_hasGround ∈ WL := p_mt3 (i := 175) rfl rfl
set_option maxRecDepth 100000 in
theorem m_753 : Cond.selects RX0 yX0_hasGround yX0_hasGround ∈ WL := p_mt3 (i := 176) rfl rfl
set_option maxRecDepth 100000 in
theorem m_754 : Cond.code yX0_hasGround cX0_hasGround 2 (some .boolean) ∈ WL := p_mt3 (i := 177) rfl rfl
set_option maxRecDepth 100000 in
theorem wv_X0_74 : MV RX0 74 0 yX0_hasGround cX0_hasGround 2 (some .boolean) 1 := ⟨⟨TX0, 12, rfl⟩, m_915, m_752, m_753, m_106, m_754, by decide +kernel, by decide +kernel, by decide⟩
set_option maxRecDepth 100000 in
theorem m_902 : Cond.methodLink RX0 78 yX0_hasPerson ∈ WL := p_mt4 (i := 85) rfl rfl
set_option maxRecDepth 100000 in
theorem m_748 : Cond.instanceMethod yX0_hasPerson ∈ WL := p_mt3 (i := 171) rfl rfl
set_option maxRecDepth 100000 in
theorem m_749 : Cond.selects RX0 yX0_hasPerson yX0_hasPerson ∈ WL := p_mt3 (i := 172) rfl rfl
set_option maxRecDepth 100000 in
theorem m_750 : Cond.code yX0_hasPerson cX0_hasPerson 2 (some .boolean) ∈ WL := p_mt3 (i := 173) rfl rfl
set_option maxRecDepth 100000 in
theorem wv_X0_78 : MV RX0 78 0 yX0_hasPerson cX0_hasPerson 2 (some .boolean) 1 := ⟨⟨TX0, 12, rfl⟩, m_902, m_748, m_749, m_106, m_750, by decide +kernel, by decide +kernel, by decide⟩
set_option maxRecDepth 100000 in
theorem m_877 : Cond.methodLink RX0 81 yX0_hasWant ∈ WL := p_mt4 (i := 60) rfl rfl
set_option maxRecDepth 100000 in
theorem m_878 : Cond.instanceMethod yX0_hasWant ∈ WL := p_mt4 (i := 61) rfl rfl
set_option maxRecDepth 100000 in
theorem m_879 : Cond.selects RX0 yX0_hasWant yX0_hasWant ∈ WL := p_mt4 (i := 62) rfl rfl
set_option maxRecDepth 100000 in
theorem m_880 : Cond.code yX0_hasWant cX0_hasWant 2 (some .boolean) ∈ WL := p_mt4 (i := 63) rfl rfl
set_option maxRecDepth 100000 in
theorem wv_X0_81 : MV RX0 81 0 yX0_hasWant cX0_hasWant 2 (some .boolean) 1 := ⟨⟨TX0, 12, rfl⟩, m_877, m_878, m_879, m_106, m_880, by decide +kernel, by decide +kernel, by decide⟩
set_option maxRecDepth 100000 in
theorem m_893 : Cond.methodLink RX0 84 Lib.Math.max.name ∈ WL := p_mt4 (i := 76) rfl rfl
set_option maxRecDepth 100000 in
theorem m_539 : Cond.static Lib.Math.max.name ∈ WL := p_mt2 (i := 202) rfl rfl
set_option maxRecDepth 100000 in
theorem m_113 : Cond.initialized "java/lang/Math" ∈ WL := p_mt1 (i := 16) rfl rfl
set_option maxRecDepth 100000 in
theorem m_540 : Cond.code Lib.Math.max.name Lib.Math.max.code 2 (some .int) ∈ WL := p_mt2 (i := 203) rfl rfl
set_option maxRecDepth 100000 in
theorem wm_X0_84 : MM RX0 84 Lib.Math.max.name Lib.Math.max.code 2 := ⟨m_893, m_539, m_113, m_540⟩
set_option maxRecDepth 100000 in
theorem m_1104 : Cond.methodLink RX0 93 Lib.Math.abs.name ∈ WL := p_mt5 (i := 47) rfl rfl
set_option maxRecDepth 100000 in
theorem m_1032 : Cond.static Lib.Math.abs.name ∈ WL := p_mt4 (i := 215) rfl rfl
set_option maxRecDepth 100000 in
theorem m_1033 : Cond.code Lib.Math.abs.name Lib.Math.abs.code 1 (some .int) ∈ WL := p_mt4 (i := 216) rfl rfl
set_option maxRecDepth 100000 in
theorem wm_X0_93 : MM RX0 93 Lib.Math.abs.name Lib.Math.abs.code 1 := ⟨m_1104, m_1032, m_113, m_1033⟩
set_option maxRecDepth 100000 in
theorem m_1103 : Cond.methodLink RX0 90 yX0_pullOf ∈ WL := p_mt5 (i := 46) rfl rfl
set_option maxRecDepth 100000 in
theorem m_917 : Cond.instanceMethod yX0_pullOf ∈ WL := p_mt4 (i := 100) rfl rfl
set_option maxRecDepth 100000 in
theorem m_918 : Cond.selects RX0 yX0_pullOf yX0_pullOf ∈ WL := p_mt4 (i := 101) rfl rfl
set_option maxRecDepth 100000 in
theorem m_919 : Cond.code yX0_pullOf cX0_pullOf 3 (some .int) ∈ WL := p_mt4 (i := 102) rfl rfl
set_option maxRecDepth 100000 in
theorem wv_X0_90 : MV RX0 90 0 yX0_pullOf cX0_pullOf 3 (some .int) 2 := ⟨⟨TX0, 12, rfl⟩, m_1103, m_917, m_918, m_106, m_919, by decide +kernel, by decide +kernel, by decide⟩
set_option maxRecDepth 100000 in
theorem m_1118 : Cond.methodLink RX0 100 yX0_areAtOdds ∈ WL := p_mt5 (i := 61) rfl rfl
set_option maxRecDepth 100000 in
theorem m_1100 : Cond.instanceMethod yX0_areAtOdds ∈ WL := p_mt5 (i := 43) rfl rfl
set_option maxRecDepth 100000 in
theorem m_1101 : Cond.selects RX0 yX0_areAtOdds yX0_areAtOdds ∈ WL := p_mt5 (i := 44) rfl rfl
set_option maxRecDepth 100000 in
theorem m_1102 : Cond.code yX0_areAtOdds cX0_areAtOdds 7 (some .boolean) ∈ WL := p_mt5 (i := 45) rfl rfl
set_option maxRecDepth 100000 in
theorem wv_X0_100 : MV RX0 100 0 yX0_areAtOdds cX0_areAtOdds 7 (some .boolean) 3 := ⟨⟨TX0, 12, rfl⟩, m_1118, m_1100, m_1101, m_106, m_1102, by decide +kernel, by decide +kernel, by decide⟩
set_option maxRecDepth 100000 in
theorem m_1117 : Cond.methodLinkNest RX0 96 yX11_isIn RX11 ∈ WL := p_mt5 (i := 60) rfl rfl
set_option maxRecDepth 100000 in
theorem m_616 : Cond.static yX11_isIn ∈ WL := p_mt3 (i := 39) rfl rfl
set_option maxRecDepth 100000 in
theorem m_617 : Cond.code yX11_isIn cX11_isIn 2 (some .boolean) ∈ WL := p_mt3 (i := 40) rfl rfl
set_option maxRecDepth 100000 in
theorem wn_X0_96 : MN RX0 96 RX11 yX11_isIn cX11_isIn 2 (some .boolean) 2 := ⟨m_1117, m_616, m_98, m_617, by decide +kernel, by decide +kernel, by decide⟩
set_option maxRecDepth 100000 in
theorem inW_X2 : ∀ w ∈ u_ws RX2 TX2 6, w ∈ WL := fun w hw => p_mem (of_decide_eq_true (List.all_eq_true.mp (show (u_ws RX2 TX2 6).all (fun w => decide (w ∈ lw_tbl)) = true by decide +kernel) w hw)) (List.all_eq_true.mp (show (u_ws RX2 TX2 6).all p_okw = true by decide +kernel) w hw)
set_option maxRecDepth 100000 in
theorem wf_X1_9_1 : FL RX1 9 1 0 .int true := ⟨RX2, TX2, 6, tyX2, rfl, inW_X2, by decide, m_160, nmX2, tyX2_ok, by decide +kernel, rfl, fun h => by first | rfl | cases h⟩
set_option maxRecDepth 100000 in
theorem inW_X9 : ∀ w ∈ u_ws RX9 TX9 5, w ∈ WL := fun w hw => p_mem (of_decide_eq_true (List.all_eq_true.mp (show (u_ws RX9 TX9 5).all (fun w => decide (w ∈ lw_tbl)) = true by decide +kernel) w hw)) (List.all_eq_true.mp (show (u_ws RX9 TX9 5).all p_okw = true by decide +kernel) w hw)
set_option maxRecDepth 100000 in
theorem wf_X1_9_8 : FL RX1 9 8 0 .int true := ⟨RX9, TX9, 5, tyX9, rfl, inW_X9, by decide, m_160, nmX9, tyX9_ok, by decide +kernel, rfl, fun h => by first | rfl | cases h⟩
set_option maxRecDepth 100000 in
theorem inW_X10 : ∀ w ∈ u_ws RX10 TX10 3, w ∈ WL := fun w hw => p_mem (of_decide_eq_true (List.all_eq_true.mp (show (u_ws RX10 TX10 3).all (fun w => decide (w ∈ lw_tbl)) = true by decide +kernel) w hw)) (List.all_eq_true.mp (show (u_ws RX10 TX10 3).all p_okw = true by decide +kernel) w hw)
set_option maxRecDepth 100000 in
theorem wf_X1_9_9 : FL RX1 9 9 0 .int true := ⟨RX10, TX10, 3, tyX10, rfl, inW_X10, by decide, m_160, nmX10, tyX10_ok, by decide +kernel, rfl, fun h => by first | rfl | cases h⟩
set_option maxRecDepth 100000 in
theorem m_157 : Cond.fieldLink RX2 16 (TX2 3).1 (TX2 3).2.1 (TX2 3).2.2.1 ∈ WL := p_mt1 (i := 60) rfl rfl
set_option maxRecDepth 100000 in
theorem wf_X2_16_1 : FL RX2 16 1 3 .int false := ⟨RX2, TX2, 6, tyX2, rfl, inW_X2, by decide, m_157, nmX2, tyX2_ok, by decide +kernel, rfl, fun h => by first | rfl | cases h⟩
set_option maxRecDepth 100000 in
theorem m_158 : Cond.fieldLink RX2 19 (TX2 4).1 (TX2 4).2.1 (TX2 4).2.2.1 ∈ WL := p_mt1 (i := 61) rfl rfl
set_option maxRecDepth 100000 in
theorem wf_X2_19_1 : FL RX2 19 1 4 .int false := ⟨RX2, TX2, 6, tyX2, rfl, inW_X2, by decide, m_158, nmX2, tyX2_ok, by decide +kernel, rfl, fun h => by first | rfl | cases h⟩
set_option maxRecDepth 100000 in
theorem m_159 : Cond.fieldLink RX2 22 (TX2 5).1 (TX2 5).2.1 (TX2 5).2.2.1 ∈ WL := p_mt1 (i := 62) rfl rfl
set_option maxRecDepth 100000 in
theorem wf_X2_22_1 : FL RX2 22 1 5 .int false := ⟨RX2, TX2, 6, tyX2, rfl, inW_X2, by decide, m_159, nmX2, tyX2_ok, by decide +kernel, rfl, fun h => by first | rfl | cases h⟩
set_option maxRecDepth 100000 in
theorem m_492 : Cond.methodLink RX11 164 yX11_within ∈ WL := p_mt2 (i := 155) rfl rfl
set_option maxRecDepth 100000 in
theorem ws_X11_164 : MS RX11 164 yX11_within cX11_within 3 (some .boolean) 3 := ⟨m_492, m_443, m_98, m_444, by decide +kernel, by decide +kernel, by decide⟩
set_option maxRecDepth 100000 in
theorem m_155 : Cond.fieldLink RX2 7 (TX2 1).1 (TX2 1).2.1 (TX2 1).2.2.1 ∈ WL := p_mt1 (i := 58) rfl rfl
set_option maxRecDepth 100000 in
theorem wf_X2_7_1 : FL RX2 7 1 1 .int true := ⟨RX2, TX2, 6, tyX2, rfl, inW_X2, by decide, m_155, nmX2, tyX2_ok, by decide +kernel, rfl, fun h => by first | rfl | cases h⟩
set_option maxRecDepth 100000 in
theorem m_156 : Cond.fieldLink RX2 13 (TX2 2).1 (TX2 2).2.1 (TX2 2).2.2.1 ∈ WL := p_mt1 (i := 59) rfl rfl
set_option maxRecDepth 100000 in
theorem wf_X2_13_1 : FL RX2 13 1 2 .int true := ⟨RX2, TX2, 6, tyX2, rfl, inW_X2, by decide, m_156, nmX2, tyX2_ok, by decide +kernel, rfl, fun h => by first | rfl | cases h⟩
set_option maxRecDepth 100000 in
theorem m_489 : Cond.methodLinkNest RX2 25 yX11_isDigit RX11 ∈ WL := p_mt2 (i := 152) rfl rfl
set_option maxRecDepth 100000 in
theorem m_490 : Cond.static yX11_isDigit ∈ WL := p_mt2 (i := 153) rfl rfl
set_option maxRecDepth 100000 in
theorem m_491 : Cond.code yX11_isDigit cX11_isDigit 1 (some .boolean) ∈ WL := p_mt2 (i := 154) rfl rfl
set_option maxRecDepth 100000 in
theorem wn_X2_25 : MN RX2 25 RX11 yX11_isDigit cX11_isDigit 1 (some .boolean) 1 := ⟨m_489, m_490, m_98, m_491, by decide +kernel, by decide +kernel, by decide⟩
set_option maxRecDepth 100000 in
theorem m_483 : Cond.methodLink RX1 29 ⟨RX1, "takes", "(I)Z"⟩ ∈ WL := p_mt2 (i := 146) rfl rfl
set_option maxRecDepth 100000 in
theorem m_485 : Cond.sameMethod RX1 RX1 "takes" "(I)Z" ∈ WL := p_mt2 (i := 148) rfl rfl
set_option maxRecDepth 100000 in
theorem m_484 : Cond.declares ⟨RX1, "takes", "(I)Z"⟩ ∈ WL := p_mt2 (i := 147) rfl rfl
set_option maxRecDepth 100000 in
theorem m_486 : Cond.selects RX2 ⟨RX1, "takes", "(I)Z"⟩ yX2_takes ∈ WL := p_mt2 (i := 149) rfl rfl
set_option maxRecDepth 100000 in
theorem m_487 : Cond.instanceMethod yX2_takes ∈ WL := p_mt2 (i := 150) rfl rfl
set_option maxRecDepth 100000 in
theorem m_101 : Cond.initialized RX2 ∈ WL := p_mt1 (i := 4) rfl rfl
set_option maxRecDepth 100000 in
theorem m_488 : Cond.code yX2_takes cX2_takes 2 (some .boolean) ∈ WL := p_mt2 (i := 151) rfl rfl
set_option maxRecDepth 100000 in
theorem wu_X1_29_X2 : MU RX1 29 1 RX2 RX1 ⟨RX1, "takes", "(I)Z"⟩ yX2_takes cX2_takes 2 (some .boolean) 1 := ⟨⟨TX2, 6, rfl⟩, m_483, m_485, Or.inl m_484, m_486, m_487, m_101, m_488, by decide +kernel, by decide +kernel, by decide⟩
set_option maxRecDepth 100000 in
theorem m_479 : Cond.methodLink RX1 25 yX7_at ∈ WL := p_mt2 (i := 142) rfl rfl
set_option maxRecDepth 100000 in
theorem wv_X1_25 : MV RX1 25 6 yX7_at cX7_at 2 (some .int) 1 := ⟨⟨TX7, 2, rfl⟩, m_479, m_480, m_481, m_99, m_482, by decide +kernel, by decide +kernel, by decide⟩
set_option maxRecDepth 100000 in
theorem m_635 : Cond.methodLink RX1 33 ⟨RX1, "mayEnd", "()Z"⟩ ∈ WL := p_mt3 (i := 58) rfl rfl
set_option maxRecDepth 100000 in
theorem m_637 : Cond.sameMethod RX1 RX1 "mayEnd" "()Z" ∈ WL := p_mt3 (i := 60) rfl rfl
set_option maxRecDepth 100000 in
theorem m_636 : Cond.declares ⟨RX1, "mayEnd", "()Z"⟩ ∈ WL := p_mt3 (i := 59) rfl rfl
set_option maxRecDepth 100000 in
theorem m_638 : Cond.selects RX2 ⟨RX1, "mayEnd", "()Z"⟩ yX2_mayEnd ∈ WL := p_mt3 (i := 61) rfl rfl
set_option maxRecDepth 100000 in
theorem m_639 : Cond.instanceMethod yX2_mayEnd ∈ WL := p_mt3 (i := 62) rfl rfl
set_option maxRecDepth 100000 in
theorem m_640 : Cond.code yX2_mayEnd cX2_mayEnd 1 (some .boolean) ∈ WL := p_mt3 (i := 63) rfl rfl
set_option maxRecDepth 100000 in
theorem wu_X1_33_X2 : MU RX1 33 1 RX2 RX1 ⟨RX1, "mayEnd", "()Z"⟩ yX2_mayEnd cX2_mayEnd 1 (some .boolean) 0 := ⟨⟨TX2, 6, rfl⟩, m_635, m_637, Or.inl m_636, m_638, m_639, m_101, m_640, by decide +kernel, by decide +kernel, by decide⟩
set_option maxRecDepth 100000 in
theorem m_478 : Cond.methodLink RX1 19 yX7_size ∈ WL := p_mt2 (i := 141) rfl rfl
set_option maxRecDepth 100000 in
theorem wv_X1_19 : MV RX1 19 6 yX7_size cX7_size 1 (some .int) 0 := ⟨⟨TX7, 2, rfl⟩, m_478, m_431, m_432, m_99, m_433, by decide +kernel, by decide +kernel, by decide⟩
set_option maxRecDepth 100000 in
theorem m_463 : Cond.methodLink RX1 15 ⟨RX1, "begin", "(I)V"⟩ ∈ WL := p_mt2 (i := 126) rfl rfl
set_option maxRecDepth 100000 in
theorem m_465 : Cond.sameMethod RX1 RX1 "begin" "(I)V" ∈ WL := p_mt2 (i := 128) rfl rfl
set_option maxRecDepth 100000 in
theorem m_464 : Cond.declares ⟨RX1, "begin", "(I)V"⟩ ∈ WL := p_mt2 (i := 127) rfl rfl
set_option maxRecDepth 100000 in
theorem m_466 : Cond.selects RX2 ⟨RX1, "begin", "(I)V"⟩ yX2_begin ∈ WL := p_mt2 (i := 129) rfl rfl
set_option maxRecDepth 100000 in
theorem m_467 : Cond.instanceMethod yX2_begin ∈ WL := p_mt2 (i := 130) rfl rfl
set_option maxRecDepth 100000 in
theorem m_468 : Cond.code yX2_begin cX2_begin 2 none ∈ WL := p_mt2 (i := 131) rfl rfl
set_option maxRecDepth 100000 in
theorem wu_X1_15_X2 : MU RX1 15 1 RX2 RX1 ⟨RX1, "begin", "(I)V"⟩ yX2_begin cX2_begin 2 none 1 := ⟨⟨TX2, 6, rfl⟩, m_463, m_465, Or.inl m_464, m_466, m_467, m_101, m_468, by decide +kernel, by decide +kernel, by decide⟩
set_option maxRecDepth 100000 in
theorem m_180 : Cond.fieldLink RX9 9 (TX9 1).1 (TX9 1).2.1 (TX9 1).2.2.1 ∈ WL := p_mt1 (i := 83) rfl rfl
set_option maxRecDepth 100000 in
theorem wf_X9_9_8 : FL RX9 9 8 1 .int false := ⟨RX9, TX9, 5, tyX9, rfl, inW_X9, by decide, m_180, nmX9, tyX9_ok, by decide +kernel, rfl, fun h => by first | rfl | cases h⟩
set_option maxRecDepth 100000 in
theorem m_181 : Cond.fieldLink RX9 15 (TX9 2).1 (TX9 2).2.1 (TX9 2).2.2.1 ∈ WL := p_mt1 (i := 84) rfl rfl
set_option maxRecDepth 100000 in
theorem wf_X9_15_8 : FL RX9 15 8 2 .int false := ⟨RX9, TX9, 5, tyX9, rfl, inW_X9, by decide, m_181, nmX9, tyX9_ok, by decide +kernel, rfl, fun h => by first | rfl | cases h⟩
set_option maxRecDepth 100000 in
theorem m_182 : Cond.fieldLink RX9 18 (TX9 3).1 (TX9 3).2.1 (TX9 3).2.2.1 ∈ WL := p_mt1 (i := 85) rfl rfl
set_option maxRecDepth 100000 in
theorem wf_X9_18_8 : FL RX9 18 8 3 .int false := ⟨RX9, TX9, 5, tyX9, rfl, inW_X9, by decide, m_182, nmX9, tyX9_ok, by decide +kernel, rfl, fun h => by first | rfl | cases h⟩
set_option maxRecDepth 100000 in
theorem m_183 : Cond.fieldLink RX9 21 (TX9 4).1 (TX9 4).2.1 (TX9 4).2.2.1 ∈ WL := p_mt1 (i := 86) rfl rfl
set_option maxRecDepth 100000 in
theorem wf_X9_21_8 : FL RX9 21 8 4 .int false := ⟨RX9, TX9, 5, tyX9, rfl, inW_X9, by decide, m_183, nmX9, tyX9_ok, by decide +kernel, rfl, fun h => by first | rfl | cases h⟩
set_option maxRecDepth 100000 in
theorem m_626 : Cond.methodLinkNest RX9 31 yX11_within RX11 ∈ WL := p_mt3 (i := 49) rfl rfl
set_option maxRecDepth 100000 in
theorem wn_X9_31 : MN RX9 31 RX11 yX11_within cX11_within 3 (some .boolean) 3 := ⟨m_626, m_443, m_98, m_444, by decide +kernel, by decide +kernel, by decide⟩
set_option maxRecDepth 100000 in
theorem m_627 : Cond.methodLinkNest RX9 28 yX11_isDigit RX11 ∈ WL := p_mt3 (i := 50) rfl rfl
set_option maxRecDepth 100000 in
theorem wn_X9_28 : MN RX9 28 RX11 yX11_isDigit cX11_isDigit 1 (some .boolean) 1 := ⟨m_627, m_490, m_98, m_491, by decide +kernel, by decide +kernel, by decide⟩
set_option maxRecDepth 100000 in
theorem m_622 : Cond.methodLink RX9 24 yX9_takesFirst ∈ WL := p_mt3 (i := 45) rfl rfl
set_option maxRecDepth 100000 in
theorem m_624 : Cond.instanceMethod yX9_takesFirst ∈ WL := p_mt3 (i := 47) rfl rfl
set_option maxRecDepth 100000 in
theorem m_8 : Cond.selects RX9 yX9_takesFirst yX9_takesFirst ∈ WL := p_mt0 (i := 8) rfl rfl
set_option maxRecDepth 100000 in
theorem m_102 : Cond.initialized RX9 ∈ WL := p_mt1 (i := 5) rfl rfl
set_option maxRecDepth 100000 in
theorem m_625 : Cond.code yX9_takesFirst cX9_takesFirst 2 (some .boolean) ∈ WL := p_mt3 (i := 48) rfl rfl
set_option maxRecDepth 100000 in
theorem wv_X9_24 : MV RX9 24 8 yX9_takesFirst cX9_takesFirst 2 (some .boolean) 1 := ⟨⟨TX9, 5, rfl⟩, m_622, m_624, m_8, m_102, m_625, by decide +kernel, by decide +kernel, by decide⟩
set_option maxRecDepth 100000 in
theorem m_619 : Cond.selects RX9 ⟨RX1, "takes", "(I)Z"⟩ yX9_takes ∈ WL := p_mt3 (i := 42) rfl rfl
set_option maxRecDepth 100000 in
theorem m_620 : Cond.instanceMethod yX9_takes ∈ WL := p_mt3 (i := 43) rfl rfl
set_option maxRecDepth 100000 in
theorem m_621 : Cond.code yX9_takes cX9_takes 2 (some .boolean) ∈ WL := p_mt3 (i := 44) rfl rfl
set_option maxRecDepth 100000 in
theorem wu_X1_29_X9 : MU RX1 29 8 RX9 RX1 ⟨RX1, "takes", "(I)Z"⟩ yX9_takes cX9_takes 2 (some .boolean) 1 := ⟨⟨TX9, 5, rfl⟩, m_483, m_485, Or.inl m_484, m_619, m_620, m_102, m_621, by decide +kernel, by decide +kernel, by decide⟩
set_option maxRecDepth 100000 in
theorem m_644 : Cond.selects RX9 ⟨RX1, "mayEnd", "()Z"⟩ yX9_mayEnd ∈ WL := p_mt3 (i := 67) rfl rfl
set_option maxRecDepth 100000 in
theorem m_645 : Cond.instanceMethod yX9_mayEnd ∈ WL := p_mt3 (i := 68) rfl rfl
set_option maxRecDepth 100000 in
theorem m_646 : Cond.code yX9_mayEnd cX9_mayEnd 1 (some .boolean) ∈ WL := p_mt3 (i := 69) rfl rfl
set_option maxRecDepth 100000 in
theorem wu_X1_33_X9 : MU RX1 33 8 RX9 RX1 ⟨RX1, "mayEnd", "()Z"⟩ yX9_mayEnd cX9_mayEnd 1 (some .boolean) 0 := ⟨⟨TX9, 5, rfl⟩, m_635, m_637, Or.inl m_636, m_644, m_645, m_102, m_646, by decide +kernel, by decide +kernel, by decide⟩
set_option maxRecDepth 100000 in
theorem m_472 : Cond.selects RX9 ⟨RX1, "begin", "(I)V"⟩ yX9_begin ∈ WL := p_mt2 (i := 135) rfl rfl
set_option maxRecDepth 100000 in
theorem m_473 : Cond.instanceMethod yX9_begin ∈ WL := p_mt2 (i := 136) rfl rfl
set_option maxRecDepth 100000 in
theorem m_474 : Cond.code yX9_begin cX9_begin 2 none ∈ WL := p_mt2 (i := 137) rfl rfl
set_option maxRecDepth 100000 in
theorem wu_X1_15_X9 : MU RX1 15 8 RX9 RX1 ⟨RX1, "begin", "(I)V"⟩ yX9_begin cX9_begin 2 none 1 := ⟨⟨TX9, 5, rfl⟩, m_463, m_465, Or.inl m_464, m_472, m_473, m_102, m_474, by decide +kernel, by decide +kernel, by decide⟩
set_option maxRecDepth 100000 in
theorem m_200 : Cond.fieldLink RX10 7 (TX10 1).1 (TX10 1).2.1 (TX10 1).2.2.1 ∈ WL := p_mt1 (i := 103) rfl rfl
set_option maxRecDepth 100000 in
theorem wf_X10_7_9 : FL RX10 7 9 1 .int false := ⟨RX10, TX10, 3, tyX10, rfl, inW_X10, by decide, m_200, nmX10, tyX10_ok, by decide +kernel, rfl, fun h => by first | rfl | cases h⟩
set_option maxRecDepth 100000 in
theorem m_201 : Cond.fieldLink RX10 13 (TX10 2).1 (TX10 2).2.1 (TX10 2).2.2.1 ∈ WL := p_mt1 (i := 104) rfl rfl
set_option maxRecDepth 100000 in
theorem wf_X10_13_9 : FL RX10 13 9 2 .boolean false := ⟨RX10, TX10, 3, tyX10, rfl, inW_X10, by decide, m_201, nmX10, tyX10_ok, by decide +kernel, rfl, fun h => by first | rfl | cases h⟩
set_option maxRecDepth 100000 in
theorem m_634 : Cond.methodLinkNest RX10 21 yX11_isDigit RX11 ∈ WL := p_mt3 (i := 57) rfl rfl
set_option maxRecDepth 100000 in
theorem wn_X10_21 : MN RX10 21 RX11 yX11_isDigit cX11_isDigit 1 (some .boolean) 1 := ⟨m_634, m_490, m_98, m_491, by decide +kernel, by decide +kernel, by decide⟩
set_option maxRecDepth 100000 in
theorem m_631 : Cond.methodLink RX10 17 yX10_digitsBehind ∈ WL := p_mt3 (i := 54) rfl rfl
set_option maxRecDepth 100000 in
theorem m_632 : Cond.static yX10_digitsBehind ∈ WL := p_mt3 (i := 55) rfl rfl
set_option maxRecDepth 100000 in
theorem m_103 : Cond.initialized RX10 ∈ WL := p_mt1 (i := 6) rfl rfl
set_option maxRecDepth 100000 in
theorem m_633 : Cond.code yX10_digitsBehind cX10_digitsBehind 1 (some .int) ∈ WL := p_mt3 (i := 56) rfl rfl
set_option maxRecDepth 100000 in
theorem ws_X10_17 : MS RX10 17 yX10_digitsBehind cX10_digitsBehind 1 (some .int) 1 := ⟨m_631, m_632, m_103, m_633, by decide +kernel, by decide +kernel, by decide⟩
set_option maxRecDepth 100000 in
theorem m_628 : Cond.selects RX10 ⟨RX1, "takes", "(I)Z"⟩ yX10_takes ∈ WL := p_mt3 (i := 51) rfl rfl
set_option maxRecDepth 100000 in
theorem m_629 : Cond.instanceMethod yX10_takes ∈ WL := p_mt3 (i := 52) rfl rfl
set_option maxRecDepth 100000 in
theorem m_630 : Cond.code yX10_takes cX10_takes 2 (some .boolean) ∈ WL := p_mt3 (i := 53) rfl rfl
set_option maxRecDepth 100000 in
theorem wu_X1_29_X10 : MU RX1 29 9 RX10 RX1 ⟨RX1, "takes", "(I)Z"⟩ yX10_takes cX10_takes 2 (some .boolean) 1 := ⟨⟨TX10, 3, rfl⟩, m_483, m_485, Or.inl m_484, m_628, m_629, m_103, m_630, by decide +kernel, by decide +kernel, by decide⟩
set_option maxRecDepth 100000 in
theorem m_647 : Cond.selects RX10 ⟨RX1, "mayEnd", "()Z"⟩ yX10_mayEnd ∈ WL := p_mt3 (i := 70) rfl rfl
set_option maxRecDepth 100000 in
theorem m_648 : Cond.instanceMethod yX10_mayEnd ∈ WL := p_mt3 (i := 71) rfl rfl
set_option maxRecDepth 100000 in
theorem m_649 : Cond.code yX10_mayEnd cX10_mayEnd 1 (some .boolean) ∈ WL := p_mt3 (i := 72) rfl rfl
set_option maxRecDepth 100000 in
theorem wu_X1_33_X10 : MU RX1 33 9 RX10 RX1 ⟨RX1, "mayEnd", "()Z"⟩ yX10_mayEnd cX10_mayEnd 1 (some .boolean) 0 := ⟨⟨TX10, 3, rfl⟩, m_635, m_637, Or.inl m_636, m_647, m_648, m_103, m_649, by decide +kernel, by decide +kernel, by decide⟩
set_option maxRecDepth 100000 in
theorem m_475 : Cond.selects RX10 ⟨RX1, "begin", "(I)V"⟩ yX10_begin ∈ WL := p_mt2 (i := 138) rfl rfl
set_option maxRecDepth 100000 in
theorem m_476 : Cond.instanceMethod yX10_begin ∈ WL := p_mt2 (i := 139) rfl rfl
set_option maxRecDepth 100000 in
theorem m_477 : Cond.code yX10_begin cX10_begin 2 none ∈ WL := p_mt2 (i := 140) rfl rfl
set_option maxRecDepth 100000 in
theorem wu_X1_15_X10 : MU RX1 15 9 RX10 RX1 ⟨RX1, "begin", "(I)V"⟩ yX10_begin cX10_begin 2 none 1 := ⟨⟨TX10, 3, rfl⟩, m_463, m_465, Or.inl m_464, m_475, m_476, m_103, m_477, by decide +kernel, by decide +kernel, by decide⟩
set_option maxRecDepth 100000 in
theorem m_257 : Cond.fieldLink RX6 27 (TX6 4).1 (TX6 4).2.1 (TX6 4).2.2.1 ∈ WL := p_mt1 (i := 160) rfl rfl
set_option maxRecDepth 100000 in
theorem wf_X6_27_5 : FL RX6 27 5 4 .int false := ⟨RX6, TX6, 10, tyX6, rfl, inW_X6, by decide, m_257, nmX6, tyX6_ok, by decide +kernel, rfl, fun h => by first | rfl | cases h⟩
set_option maxRecDepth 100000 in
theorem m_258 : Cond.fieldLink RX6 37 (TX6 5).1 (TX6 5).2.1 (TX6 5).2.2.1 ∈ WL := p_mt1 (i := 161) rfl rfl
set_option maxRecDepth 100000 in
theorem wf_X6_37_5 : FL RX6 37 5 5 .int false := ⟨RX6, TX6, 10, tyX6, rfl, inW_X6, by decide, m_258, nmX6, tyX6_ok, by decide +kernel, rfl, fun h => by first | rfl | cases h⟩
set_option maxRecDepth 100000 in
theorem m_259 : Cond.fieldLink RX6 40 (TX6 6).1 (TX6 6).2.1 (TX6 6).2.2.1 ∈ WL := p_mt1 (i := 162) rfl rfl
set_option maxRecDepth 100000 in
theorem wf_X6_40_5 : FL RX6 40 5 6 .int false := ⟨RX6, TX6, 10, tyX6, rfl, inW_X6, by decide, m_259, nmX6, tyX6_ok, by decide +kernel, rfl, fun h => by first | rfl | cases h⟩
set_option maxRecDepth 100000 in
theorem m_260 : Cond.fieldLink RX6 43 (TX6 7).1 (TX6 7).2.1 (TX6 7).2.2.1 ∈ WL := p_mt1 (i := 163) rfl rfl
set_option maxRecDepth 100000 in
theorem wf_X6_43_5 : FL RX6 43 5 7 .int false := ⟨RX6, TX6, 10, tyX6, rfl, inW_X6, by decide, m_260, nmX6, tyX6_ok, by decide +kernel, rfl, fun h => by first | rfl | cases h⟩
set_option maxRecDepth 100000 in
theorem m_261 : Cond.fieldLink RX6 46 (TX6 8).1 (TX6 8).2.1 (TX6 8).2.2.1 ∈ WL := p_mt1 (i := 164) rfl rfl
set_option maxRecDepth 100000 in
theorem wf_X6_46_5 : FL RX6 46 5 8 .int false := ⟨RX6, TX6, 10, tyX6, rfl, inW_X6, by decide, m_261, nmX6, tyX6_ok, by decide +kernel, rfl, fun h => by first | rfl | cases h⟩
set_option maxRecDepth 100000 in
theorem m_262 : Cond.fieldLink RX6 49 (TX6 9).1 (TX6 9).2.1 (TX6 9).2.2.1 ∈ WL := p_mt1 (i := 165) rfl rfl
set_option maxRecDepth 100000 in
theorem wf_X6_49_5 : FL RX6 49 5 9 .boolean false := ⟨RX6, TX6, 10, tyX6, rfl, inW_X6, by decide, m_262, nmX6, tyX6_ok, by decide +kernel, rfl, fun h => by first | rfl | cases h⟩
set_option maxRecDepth 100000 in
theorem m_505 : Cond.methodLink RX6 73 yX6_step ∈ WL := p_mt2 (i := 168) rfl rfl
set_option maxRecDepth 100000 in
theorem m_507 : Cond.instanceMethod yX6_step ∈ WL := p_mt2 (i := 170) rfl rfl
set_option maxRecDepth 100000 in
theorem m_3 : Cond.selects RX6 yX6_step yX6_step ∈ WL := p_mt0 (i := 3) rfl rfl
set_option maxRecDepth 100000 in
theorem m_508 : Cond.code yX6_step cX6_step 2 none ∈ WL := p_mt2 (i := 171) rfl rfl
set_option maxRecDepth 100000 in
theorem wv_X6_73 : MV RX6 73 5 yX6_step cX6_step 2 none 1 := ⟨⟨TX6, 10, rfl⟩, m_505, m_507, m_3, m_107, m_508, by decide +kernel, by decide +kernel, by decide⟩
set_option maxRecDepth 100000 in
theorem m_504 : Cond.methodLinkNest RX6 57 yX11_isDigit RX11 ∈ WL := p_mt2 (i := 167) rfl rfl
set_option maxRecDepth 100000 in
theorem wn_X6_57 : MN RX6 57 RX11 yX11_isDigit cX11_isDigit 1 (some .boolean) 1 := ⟨m_504, m_490, m_98, m_491, by decide +kernel, by decide +kernel, by decide⟩
set_option maxRecDepth 100000 in
theorem m_500 : Cond.methodLink RX6 70 yX6_hold ∈ WL := p_mt2 (i := 163) rfl rfl
set_option maxRecDepth 100000 in
theorem m_502 : Cond.instanceMethod yX6_hold ∈ WL := p_mt2 (i := 165) rfl rfl
set_option maxRecDepth 100000 in
theorem m_2 : Cond.selects RX6 yX6_hold yX6_hold ∈ WL := p_mt0 (i := 2) rfl rfl
set_option maxRecDepth 100000 in
theorem m_503 : Cond.code yX6_hold cX6_hold 2 none ∈ WL := p_mt2 (i := 166) rfl rfl
set_option maxRecDepth 100000 in
theorem wv_X6_70 : MV RX6 70 5 yX6_hold cX6_hold 2 none 1 := ⟨⟨TX6, 10, rfl⟩, m_500, m_502, m_2, m_107, m_503, by decide +kernel, by decide +kernel, by decide⟩
set_option maxRecDepth 100000 in
theorem m_608 : Cond.methodLink RX6 84 yX6_rankOf ∈ WL := p_mt3 (i := 31) rfl rfl
set_option maxRecDepth 100000 in
theorem m_609 : Cond.static yX6_rankOf ∈ WL := p_mt3 (i := 32) rfl rfl
set_option maxRecDepth 100000 in
theorem m_610 : Cond.code yX6_rankOf cX6_rankOf 1 (some .int) ∈ WL := p_mt3 (i := 33) rfl rfl
set_option maxRecDepth 100000 in
theorem ws_X6_84 : MS RX6 84 yX6_rankOf cX6_rankOf 1 (some .int) 1 := ⟨m_608, m_609, m_107, m_610, by decide +kernel, by decide +kernel, by decide⟩
set_option maxRecDepth 100000 in
theorem m_604 : Cond.methodLink RX6 34 yX6_layOut ∈ WL := p_mt3 (i := 27) rfl rfl
set_option maxRecDepth 100000 in
theorem m_606 : Cond.instanceMethod yX6_layOut ∈ WL := p_mt3 (i := 29) rfl rfl
set_option maxRecDepth 100000 in
theorem m_6 : Cond.selects RX6 yX6_layOut yX6_layOut ∈ WL := p_mt0 (i := 6) rfl rfl
set_option maxRecDepth 100000 in
theorem m_607 : Cond.code yX6_layOut cX6_layOut 2 none ∈ WL := p_mt3 (i := 30) rfl rfl
set_option maxRecDepth 100000 in
theorem wv_X6_34 : MV RX6 34 5 yX6_layOut cX6_layOut 2 none 1 := ⟨⟨TX6, 10, rfl⟩, m_604, m_606, m_6, m_107, m_607, by decide +kernel, by decide +kernel, by decide⟩
set_option maxRecDepth 100000 in
theorem m_618 : Cond.methodLink RX6 91 Lib.Math.max.name ∈ WL := p_mt3 (i := 41) rfl rfl
set_option maxRecDepth 100000 in
theorem wm_X6_91 : MM RX6 91 Lib.Math.max.name Lib.Math.max.code 2 := ⟨m_618, m_539, m_113, m_540⟩
set_option maxRecDepth 100000 in
theorem m_615 : Cond.methodLinkNest RX6 87 yX11_isIn RX11 ∈ WL := p_mt3 (i := 38) rfl rfl
set_option maxRecDepth 100000 in
theorem wn_X6_87 : MN RX6 87 RX11 yX11_isIn cX11_isIn 2 (some .boolean) 2 := ⟨m_615, m_616, m_98, m_617, by decide +kernel, by decide +kernel, by decide⟩
set_option maxRecDepth 100000 in
theorem m_611 : Cond.methodLink RX6 67 yX6_takesBetween ∈ WL := p_mt3 (i := 34) rfl rfl
set_option maxRecDepth 100000 in
theorem m_613 : Cond.instanceMethod yX6_takesBetween ∈ WL := p_mt3 (i := 36) rfl rfl
set_option maxRecDepth 100000 in
theorem m_7 : Cond.selects RX6 yX6_takesBetween yX6_takesBetween ∈ WL := p_mt0 (i := 7) rfl rfl
set_option maxRecDepth 100000 in
theorem m_614 : Cond.code yX6_takesBetween cX6_takesBetween 3 (some .boolean) ∈ WL := p_mt3 (i := 37) rfl rfl
set_option maxRecDepth 100000 in
theorem wv_X6_67 : MV RX6 67 5 yX6_takesBetween cX6_takesBetween 3 (some .boolean) 1 := ⟨⟨TX6, 10, rfl⟩, m_611, m_613, m_7, m_107, m_614, by decide +kernel, by decide +kernel, by decide⟩
set_option maxRecDepth 100000 in
theorem m_600 : Cond.methodLink RX6 63 yX6_closes ∈ WL := p_mt3 (i := 23) rfl rfl
set_option maxRecDepth 100000 in
theorem m_602 : Cond.instanceMethod yX6_closes ∈ WL := p_mt3 (i := 25) rfl rfl
set_option maxRecDepth 100000 in
theorem m_5 : Cond.selects RX6 yX6_closes yX6_closes ∈ WL := p_mt0 (i := 5) rfl rfl
set_option maxRecDepth 100000 in
theorem m_603 : Cond.code yX6_closes cX6_closes 1 (some .boolean) ∈ WL := p_mt3 (i := 26) rfl rfl
set_option maxRecDepth 100000 in
theorem wv_X6_63 : MV RX6 63 5 yX6_closes cX6_closes 1 (some .boolean) 0 := ⟨⟨TX6, 10, rfl⟩, m_600, m_602, m_5, m_107, m_603, by decide +kernel, by decide +kernel, by decide⟩
set_option maxRecDepth 100000 in
theorem m_596 : Cond.methodLink RX6 60 yX6_takesDigit ∈ WL := p_mt3 (i := 19) rfl rfl
set_option maxRecDepth 100000 in
theorem m_598 : Cond.instanceMethod yX6_takesDigit ∈ WL := p_mt3 (i := 21) rfl rfl
set_option maxRecDepth 100000 in
theorem m_4 : Cond.selects RX6 yX6_takesDigit yX6_takesDigit ∈ WL := p_mt0 (i := 4) rfl rfl
set_option maxRecDepth 100000 in
theorem m_599 : Cond.code yX6_takesDigit cX6_takesDigit 2 (some .boolean) ∈ WL := p_mt3 (i := 22) rfl rfl
set_option maxRecDepth 100000 in
theorem wv_X6_60 : MV RX6 60 5 yX6_takesDigit cX6_takesDigit 2 (some .boolean) 1 := ⟨⟨TX6, 10, rfl⟩, m_596, m_598, m_4, m_107, m_599, by decide +kernel, by decide +kernel, by decide⟩
set_option maxRecDepth 100000 in
theorem m_496 : Cond.methodLink RX6 53 yX6_takesThing ∈ WL := p_mt2 (i := 159) rfl rfl
set_option maxRecDepth 100000 in
theorem m_498 : Cond.instanceMethod yX6_takesThing ∈ WL := p_mt2 (i := 161) rfl rfl
set_option maxRecDepth 100000 in
theorem m_1 : Cond.selects RX6 yX6_takesThing yX6_takesThing ∈ WL := p_mt0 (i := 1) rfl rfl
set_option maxRecDepth 100000 in
theorem m_499 : Cond.code yX6_takesThing cX6_takesThing 3 (some .boolean) ∈ WL := p_mt2 (i := 162) rfl rfl
set_option maxRecDepth 100000 in
theorem wv_X6_53 : MV RX6 53 5 yX6_takesThing cX6_takesThing 3 (some .boolean) 1 := ⟨⟨TX6, 10, rfl⟩, m_496, m_498, m_1, m_107, m_499, by decide +kernel, by decide +kernel, by decide⟩
set_option maxRecDepth 100000 in
theorem m_493 : Cond.selects RX6 ⟨RX1, "takes", "(I)Z"⟩ yX6_takes ∈ WL := p_mt2 (i := 156) rfl rfl
set_option maxRecDepth 100000 in
theorem m_494 : Cond.instanceMethod yX6_takes ∈ WL := p_mt2 (i := 157) rfl rfl
set_option maxRecDepth 100000 in
theorem m_495 : Cond.code yX6_takes cX6_takes 2 (some .boolean) ∈ WL := p_mt2 (i := 158) rfl rfl
set_option maxRecDepth 100000 in
theorem wu_X1_29_X6 : MU RX1 29 5 RX6 RX1 ⟨RX1, "takes", "(I)Z"⟩ yX6_takes cX6_takes 2 (some .boolean) 1 := ⟨⟨TX6, 10, rfl⟩, m_483, m_485, Or.inl m_484, m_493, m_494, m_107, m_495, by decide +kernel, by decide +kernel, by decide⟩
set_option maxRecDepth 100000 in
theorem m_641 : Cond.selects RX6 ⟨RX1, "mayEnd", "()Z"⟩ yX6_mayEnd ∈ WL := p_mt3 (i := 64) rfl rfl
set_option maxRecDepth 100000 in
theorem m_642 : Cond.instanceMethod yX6_mayEnd ∈ WL := p_mt3 (i := 65) rfl rfl
set_option maxRecDepth 100000 in
theorem m_643 : Cond.code yX6_mayEnd cX6_mayEnd 1 (some .boolean) ∈ WL := p_mt3 (i := 66) rfl rfl
set_option maxRecDepth 100000 in
theorem wu_X1_33_X6 : MU RX1 33 5 RX6 RX1 ⟨RX1, "mayEnd", "()Z"⟩ yX6_mayEnd cX6_mayEnd 1 (some .boolean) 0 := ⟨⟨TX6, 10, rfl⟩, m_635, m_637, Or.inl m_636, m_641, m_642, m_107, m_643, by decide +kernel, by decide +kernel, by decide⟩
set_option maxRecDepth 100000 in
theorem m_469 : Cond.selects RX6 ⟨RX1, "begin", "(I)V"⟩ yX6_begin ∈ WL := p_mt2 (i := 132) rfl rfl
set_option maxRecDepth 100000 in
theorem m_470 : Cond.instanceMethod yX6_begin ∈ WL := p_mt2 (i := 133) rfl rfl
set_option maxRecDepth 100000 in
theorem m_471 : Cond.code yX6_begin cX6_begin 2 none ∈ WL := p_mt2 (i := 134) rfl rfl
set_option maxRecDepth 100000 in
theorem wu_X1_15_X6 : MU RX1 15 5 RX6 RX1 ⟨RX1, "begin", "(I)V"⟩ yX6_begin cX6_begin 2 none 1 := ⟨⟨TX6, 10, rfl⟩, m_463, m_465, Or.inl m_464, m_469, m_470, m_107, m_471, by decide +kernel, by decide +kernel, by decide⟩
set_option maxRecDepth 100000 in
theorem m_151 : Cond.methodLink RX2 1 yX1_init ∈ WL := p_mt1 (i := 54) rfl rfl
set_option maxRecDepth 100000 in
theorem wi_X2_1 : MI RX2 1 yX1_init cX1_init 2 1 := ⟨rfl, m_151, m_152, m_100, m_153, by decide +kernel, by decide +kernel, by decide⟩
set_option maxRecDepth 100000 in
theorem m_233 : Cond.methodLink RX3 1 objectInit ∈ WL := p_mt1 (i := 136) rfl rfl
set_option maxRecDepth 100000 in
theorem wo_X3_1 : MO RX3 1 := ⟨m_233, m_130, m_131⟩
set_option maxRecDepth 100000 in
theorem m_241 : Cond.arrayClass .long ∈ WL := p_mt1 (i := 144) rfl rfl
set_option maxRecDepth 100000 in
theorem m_234 : Cond.fieldLink RX3 7 (TX3 0).1 (TX3 0).2.1 (TX3 0).2.2.1 ∈ WL := p_mt1 (i := 137) rfl rfl
set_option maxRecDepth 100000 in
theorem inW_X3 : ∀ w ∈ u_ws RX3 TX3 2, w ∈ WL := fun w hw => p_mem (of_decide_eq_true (List.all_eq_true.mp (show (u_ws RX3 TX3 2).all (fun w => decide (w ∈ lw_tbl)) = true by decide +kernel) w hw)) (List.all_eq_true.mp (show (u_ws RX3 TX3 2).all p_okw = true by decide +kernel) w hw)
set_option maxRecDepth 100000 in
theorem wf_X3_7_2 : FL RX3 7 2 0 (.array .long) true := ⟨RX3, TX3, 2, tyX3, rfl, inW_X3, by decide, m_234, nmX3, tyX3_ok, by decide +kernel, rfl, fun h => by first | rfl | cases h⟩
set_option maxRecDepth 100000 in
theorem m_235 : Cond.fieldLink RX3 13 (TX3 1).1 (TX3 1).2.1 (TX3 1).2.2.1 ∈ WL := p_mt1 (i := 138) rfl rfl
set_option maxRecDepth 100000 in
theorem wf_X3_13_2 : FL RX3 13 2 1 .int false := ⟨RX3, TX3, 2, tyX3, rfl, inW_X3, by decide, m_235, nmX3, tyX3_ok, by decide +kernel, rfl, fun h => by first | rfl | cases h⟩
set_option maxRecDepth 100000 in
theorem m_1419 : Cond.methodLinkNest RX3 17 yX11_within RX11 ∈ WL := p_mt6 (i := 122) rfl rfl
set_option maxRecDepth 100000 in
theorem wn_X3_17 : MN RX3 17 RX11 yX11_within cX11_within 3 (some .boolean) 3 := ⟨m_1419, m_443, m_98, m_444, by decide +kernel, by decide +kernel, by decide⟩
set_option maxRecDepth 100000 in
theorem m_344 : Cond.methodLink RX4 3 objectInit ∈ WL := p_mt2 (i := 7) rfl rfl
set_option maxRecDepth 100000 in
theorem wo_X4_3 : MO RX4 3 := ⟨m_344, m_130, m_131⟩
set_option maxRecDepth 100000 in
theorem m_349 : Cond.fieldLink RX4 11 (TX4 4).1 (TX4 4).2.1 (TX4 4).2.2.1 ∈ WL := p_mt2 (i := 12) rfl rfl
set_option maxRecDepth 100000 in
theorem inW_X4 : ∀ w ∈ u_ws RX4 TX4 14, w ∈ WL := fun w hw => p_mem (of_decide_eq_true (List.all_eq_true.mp (show (u_ws RX4 TX4 14).all (fun w => decide (w ∈ lw_tbl)) = true by decide +kernel) w hw)) (List.all_eq_true.mp (show (u_ws RX4 TX4 14).all p_okw = true by decide +kernel) w hw)
set_option maxRecDepth 100000 in
theorem wf_X4_11_3 : FL RX4 11 3 4 (.array .int) true := ⟨RX4, TX4, 14, tyX4, rfl, inW_X4, by decide, m_349, nmX4, tyX4_ok, by decide +kernel, rfl, fun h => by first | rfl | cases h⟩
set_option maxRecDepth 100000 in
theorem m_350 : Cond.fieldLink RX4 15 (TX4 5).1 (TX4 5).2.1 (TX4 5).2.2.1 ∈ WL := p_mt2 (i := 13) rfl rfl
set_option maxRecDepth 100000 in
theorem wf_X4_15_3 : FL RX4 15 3 5 (.array .int) true := ⟨RX4, TX4, 14, tyX4, rfl, inW_X4, by decide, m_350, nmX4, tyX4_ok, by decide +kernel, rfl, fun h => by first | rfl | cases h⟩
set_option maxRecDepth 100000 in
theorem m_351 : Cond.fieldLink RX4 18 (TX4 6).1 (TX4 6).2.1 (TX4 6).2.2.1 ∈ WL := p_mt2 (i := 14) rfl rfl
set_option maxRecDepth 100000 in
theorem wf_X4_18_3 : FL RX4 18 3 6 (.array .int) true := ⟨RX4, TX4, 14, tyX4, rfl, inW_X4, by decide, m_351, nmX4, tyX4_ok, by decide +kernel, rfl, fun h => by first | rfl | cases h⟩
set_option maxRecDepth 100000 in
theorem m_352 : Cond.fieldLink RX4 21 (TX4 7).1 (TX4 7).2.1 (TX4 7).2.2.1 ∈ WL := p_mt2 (i := 15) rfl rfl
set_option maxRecDepth 100000 in
theorem wf_X4_21_3 : FL RX4 21 3 7 (.array .int) true := ⟨RX4, TX4, 14, tyX4, rfl, inW_X4, by decide, m_352, nmX4, tyX4_ok, by decide +kernel, rfl, fun h => by first | rfl | cases h⟩
set_option maxRecDepth 100000 in
theorem m_353 : Cond.fieldLink RX4 24 (TX4 8).1 (TX4 8).2.1 (TX4 8).2.2.1 ∈ WL := p_mt2 (i := 16) rfl rfl
set_option maxRecDepth 100000 in
theorem wf_X4_24_3 : FL RX4 24 3 8 (.array .int) true := ⟨RX4, TX4, 14, tyX4, rfl, inW_X4, by decide, m_353, nmX4, tyX4_ok, by decide +kernel, rfl, fun h => by first | rfl | cases h⟩
set_option maxRecDepth 100000 in
theorem m_354 : Cond.fieldLink RX4 27 (TX4 9).1 (TX4 9).2.1 (TX4 9).2.2.1 ∈ WL := p_mt2 (i := 17) rfl rfl
set_option maxRecDepth 100000 in
theorem wf_X4_27_3 : FL RX4 27 3 9 (.array .int) true := ⟨RX4, TX4, 14, tyX4, rfl, inW_X4, by decide, m_354, nmX4, tyX4_ok, by decide +kernel, rfl, fun h => by first | rfl | cases h⟩
set_option maxRecDepth 100000 in
theorem m_355 : Cond.fieldLink RX4 30 (TX4 10).1 (TX4 10).2.1 (TX4 10).2.2.1 ∈ WL := p_mt2 (i := 18) rfl rfl
set_option maxRecDepth 100000 in
theorem wf_X4_30_3 : FL RX4 30 3 10 (.array .int) true := ⟨RX4, TX4, 14, tyX4, rfl, inW_X4, by decide, m_355, nmX4, tyX4_ok, by decide +kernel, rfl, fun h => by first | rfl | cases h⟩
set_option maxRecDepth 100000 in
theorem m_356 : Cond.fieldLink RX4 33 (TX4 11).1 (TX4 11).2.1 (TX4 11).2.2.1 ∈ WL := p_mt2 (i := 19) rfl rfl
set_option maxRecDepth 100000 in
theorem wf_X4_33_3 : FL RX4 33 3 11 (.array .int) true := ⟨RX4, TX4, 14, tyX4, rfl, inW_X4, by decide, m_356, nmX4, tyX4_ok, by decide +kernel, rfl, fun h => by first | rfl | cases h⟩
set_option maxRecDepth 100000 in
theorem m_357 : Cond.fieldLink RX4 36 (TX4 12).1 (TX4 12).2.1 (TX4 12).2.2.1 ∈ WL := p_mt2 (i := 20) rfl rfl
set_option maxRecDepth 100000 in
theorem wf_X4_36_3 : FL RX4 36 3 12 (.array .int) true := ⟨RX4, TX4, 14, tyX4, rfl, inW_X4, by decide, m_357, nmX4, tyX4_ok, by decide +kernel, rfl, fun h => by first | rfl | cases h⟩
set_option maxRecDepth 100000 in
theorem m_345 : Cond.fieldLink RX4 39 (TX4 0).1 (TX4 0).2.1 (TX4 0).2.2.1 ∈ WL := p_mt2 (i := 8) rfl rfl
set_option maxRecDepth 100000 in
theorem wf_X4_39_3 : FL RX4 39 3 0 (.object "ReasonsSupplied$Files") true := ⟨RX4, TX4, 14, tyX4, rfl, inW_X4, by decide, m_345, nmX4, tyX4_ok, by decide +kernel, rfl, fun h => by first | rfl | cases h⟩
set_option maxRecDepth 100000 in
theorem m_346 : Cond.fieldLink RX4 43 (TX4 1).1 (TX4 1).2.1 (TX4 1).2.2.1 ∈ WL := p_mt2 (i := 9) rfl rfl
set_option maxRecDepth 100000 in
theorem wf_X4_43_3 : FL RX4 43 3 1 (.object "ReasonsSupplied$Standing") true := ⟨RX4, TX4, 14, tyX4, rfl, inW_X4, by decide, m_346, nmX4, tyX4_ok, by decide +kernel, rfl, fun h => by first | rfl | cases h⟩
set_option maxRecDepth 100000 in
theorem m_347 : Cond.fieldLink RX4 47 (TX4 2).1 (TX4 2).2.1 (TX4 2).2.2.1 ∈ WL := p_mt2 (i := 10) rfl rfl
set_option maxRecDepth 100000 in
theorem wf_X4_47_3 : FL RX4 47 3 2 (.object "ReasonsSupplied$Standing") true := ⟨RX4, TX4, 14, tyX4, rfl, inW_X4, by decide, m_347, nmX4, tyX4_ok, by decide +kernel, rfl, fun h => by first | rfl | cases h⟩
set_option maxRecDepth 100000 in
theorem m_348 : Cond.fieldLink RX4 50 (TX4 3).1 (TX4 3).2.1 (TX4 3).2.2.1 ∈ WL := p_mt2 (i := 11) rfl rfl
set_option maxRecDepth 100000 in
theorem wf_X4_50_3 : FL RX4 50 3 3 (.object "ReasonsSupplied$Numbers") true := ⟨RX4, TX4, 14, tyX4, rfl, inW_X4, by decide, m_348, nmX4, tyX4_ok, by decide +kernel, rfl, fun h => by first | rfl | cases h⟩
set_option maxRecDepth 100000 in
theorem m_327 : Cond.fieldLink RX8 11 (TX8 1).1 (TX8 1).2.1 (TX8 1).2.2.1 ∈ WL := p_mt1 (i := 230) rfl rfl
set_option maxRecDepth 100000 in
theorem inW_X8 : ∀ w ∈ u_ws RX8 TX8 4, w ∈ WL := fun w hw => p_mem (of_decide_eq_true (List.all_eq_true.mp (show (u_ws RX8 TX8 4).all (fun w => decide (w ∈ lw_tbl)) = true by decide +kernel) w hw)) (List.all_eq_true.mp (show (u_ws RX8 TX8 4).all p_okw = true by decide +kernel) w hw)
set_option maxRecDepth 100000 in
theorem wf_X8_11_7 : FL RX8 11 7 1 (.array .int) true := ⟨RX8, TX8, 4, tyX8, rfl, inW_X8, by decide, m_327, nmX8, tyX8_ok, by decide +kernel, rfl, fun h => by first | rfl | cases h⟩
set_option maxRecDepth 100000 in
theorem m_791 : Cond.methodLink RX8 27 arraycopyName ∈ WL := p_mt3 (i := 214) rfl rfl
set_option maxRecDepth 100000 in
theorem m_793 : Cond.native arraycopyName ∈ WL := p_mt3 (i := 216) rfl rfl
set_option maxRecDepth 100000 in
theorem m_792 : Cond.static arraycopyName ∈ WL := p_mt3 (i := 215) rfl rfl
set_option maxRecDepth 100000 in
theorem m_121 : Cond.initialized "java/lang/System" ∈ WL := p_mt1 (i := 24) rfl rfl
set_option maxRecDepth 100000 in
theorem wc_X8_27 : MC RX8 27 := ⟨m_791, m_793, m_792, m_121⟩
set_option maxRecDepth 100000 in
theorem m_802 : Cond.methodLink RX8 41 yX8_putDaysHeld ∈ WL := p_mt3 (i := 225) rfl rfl
set_option maxRecDepth 100000 in
theorem m_804 : Cond.instanceMethod yX8_putDaysHeld ∈ WL := p_mt3 (i := 227) rfl rfl
set_option maxRecDepth 100000 in
theorem m_12 : Cond.selects RX8 yX8_putDaysHeld yX8_putDaysHeld ∈ WL := p_mt0 (i := 12) rfl rfl
set_option maxRecDepth 100000 in
theorem m_108 : Cond.initialized RX8 ∈ WL := p_mt1 (i := 11) rfl rfl
set_option maxRecDepth 100000 in
theorem m_805 : Cond.code yX8_putDaysHeld cX8_putDaysHeld 4 none ∈ WL := p_mt3 (i := 228) rfl rfl
set_option maxRecDepth 100000 in
theorem wv_X8_41 : MV RX8 41 7 yX8_putDaysHeld cX8_putDaysHeld 4 none 3 := ⟨⟨TX8, 4, rfl⟩, m_802, m_804, m_12, m_108, m_805, by decide +kernel, by decide +kernel, by decide⟩
set_option maxRecDepth 100000 in
theorem m_326 : Cond.fieldLink RX8 23 (TX8 0).1 (TX8 0).2.1 (TX8 0).2.2.1 ∈ WL := p_mt1 (i := 229) rfl rfl
set_option maxRecDepth 100000 in
theorem wf_X8_23_7 : FL RX8 23 7 0 (.object "ReasonsSupplied$Files") true := ⟨RX8, TX8, 4, tyX8, rfl, inW_X8, by decide, m_326, nmX8, tyX8_ok, by decide +kernel, rfl, fun h => by first | rfl | cases h⟩
set_option maxRecDepth 100000 in
theorem m_759 : Cond.methodLink RX8 37 yX8_daysHeld ∈ WL := p_mt3 (i := 182) rfl rfl
set_option maxRecDepth 100000 in
theorem m_760 : Cond.instanceMethod yX8_daysHeld ∈ WL := p_mt3 (i := 183) rfl rfl
set_option maxRecDepth 100000 in
theorem m_761 : Cond.selects RX8 yX8_daysHeld yX8_daysHeld ∈ WL := p_mt3 (i := 184) rfl rfl
set_option maxRecDepth 100000 in
theorem m_762 : Cond.code yX8_daysHeld cX8_daysHeld 4 (some .int) ∈ WL := p_mt3 (i := 185) rfl rfl
set_option maxRecDepth 100000 in
theorem wv_X8_37 : MV RX8 37 7 yX8_daysHeld cX8_daysHeld 4 (some .int) 2 := ⟨⟨TX8, 4, rfl⟩, m_759, m_760, m_761, m_108, m_762, by decide +kernel, by decide +kernel, by decide⟩
set_option maxRecDepth 100000 in
theorem m_778 : Cond.methodLink RX8 45 yX0_groundSize ∈ WL := p_mt3 (i := 201) rfl rfl
set_option maxRecDepth 100000 in
theorem m_454 : Cond.instanceMethod yX0_groundSize ∈ WL := p_mt2 (i := 117) rfl rfl
set_option maxRecDepth 100000 in
theorem m_455 : Cond.selects RX0 yX0_groundSize yX0_groundSize ∈ WL := p_mt2 (i := 118) rfl rfl
set_option maxRecDepth 100000 in
theorem m_456 : Cond.code yX0_groundSize cX0_groundSize 1 (some .int) ∈ WL := p_mt2 (i := 119) rfl rfl
set_option maxRecDepth 100000 in
theorem wv_X8_45 : MV RX8 45 0 yX0_groundSize cX0_groundSize 1 (some .int) 0 := ⟨⟨TX0, 12, rfl⟩, m_778, m_454, m_455, m_106, m_456, by decide +kernel, by decide +kernel, by decide⟩
set_option maxRecDepth 100000 in
theorem m_814 : Cond.constant RJ6 265 (1431655765 : Int32) ∈ WL := p_mt3 (i := 237) rfl rfl
set_option maxRecDepth 100000 in
theorem m_815 : Cond.constant RJ6 266 (858993459 : Int32) ∈ WL := p_mt3 (i := 238) rfl rfl
set_option maxRecDepth 100000 in
theorem m_816 : Cond.constant RJ6 267 (252645135 : Int32) ∈ WL := p_mt3 (i := 239) rfl rfl
set_option maxRecDepth 100000 in
theorem m_924 : Cond.methodLink RX6 97 yX6_outcome ∈ WL := p_mt4 (i := 107) rfl rfl
set_option maxRecDepth 100000 in
theorem m_925 : Cond.static yX6_outcome ∈ WL := p_mt4 (i := 108) rfl rfl
set_option maxRecDepth 100000 in
theorem m_926 : Cond.code yX6_outcome cX6_outcome 3 (some .int) ∈ WL := p_mt4 (i := 109) rfl rfl
set_option maxRecDepth 100000 in
theorem ws_X6_97 : MS RX6 97 yX6_outcome cX6_outcome 3 (some .int) 3 := ⟨m_924, m_925, m_107, m_926, by decide +kernel, by decide +kernel, by decide⟩
set_option maxRecDepth 100000 in
theorem m_927 : Cond.methodLinkNest RX6 101 yX11_clamp RX11 ∈ WL := p_mt4 (i := 110) rfl rfl
set_option maxRecDepth 100000 in
theorem m_772 : Cond.static yX11_clamp ∈ WL := p_mt3 (i := 195) rfl rfl
set_option maxRecDepth 100000 in
theorem m_773 : Cond.code yX11_clamp cX11_clamp 3 (some .int) ∈ WL := p_mt3 (i := 196) rfl rfl
set_option maxRecDepth 100000 in
theorem wn_X6_101 : MN RX6 101 RX11 yX11_clamp cX11_clamp 3 (some .int) 3 := ⟨m_927, m_772, m_98, m_773, by decide +kernel, by decide +kernel, by decide⟩
set_option maxRecDepth 100000 in
theorem m_328 : Cond.fieldLink RX8 17 (TX8 2).1 (TX8 2).2.1 (TX8 2).2.2.1 ∈ WL := p_mt1 (i := 231) rfl rfl
set_option maxRecDepth 100000 in
theorem wf_X8_17_7 : FL RX8 17 7 2 (.array .int) true := ⟨RX8, TX8, 4, tyX8, rfl, inW_X8, by decide, m_328, nmX8, tyX8_ok, by decide +kernel, rfl, fun h => by first | rfl | cases h⟩
set_option maxRecDepth 100000 in
theorem m_329 : Cond.fieldLink RX8 20 (TX8 3).1 (TX8 3).2.1 (TX8 3).2.2.1 ∈ WL := p_mt1 (i := 232) rfl rfl
set_option maxRecDepth 100000 in
theorem wf_X8_20_7 : FL RX8 20 7 3 (.array .int) true := ⟨RX8, TX8, 4, tyX8, rfl, inW_X8, by decide, m_329, nmX8, tyX8_ok, by decide +kernel, rfl, fun h => by first | rfl | cases h⟩
set_option maxRecDepth 100000 in
theorem m_920 : Cond.methodLink RX8 146 yX6_push ∈ WL := p_mt4 (i := 103) rfl rfl
set_option maxRecDepth 100000 in
theorem m_921 : Cond.instanceMethod yX6_push ∈ WL := p_mt4 (i := 104) rfl rfl
set_option maxRecDepth 100000 in
theorem m_922 : Cond.selects RX6 yX6_push yX6_push ∈ WL := p_mt4 (i := 105) rfl rfl
set_option maxRecDepth 100000 in
theorem m_923 : Cond.code yX6_push cX6_push 6 (some .int) ∈ WL := p_mt4 (i := 106) rfl rfl
set_option maxRecDepth 100000 in
theorem wv_X8_146 : MV RX8 146 5 yX6_push cX6_push 6 (some .int) 1 := ⟨⟨TX6, 10, rfl⟩, m_920, m_921, m_922, m_107, m_923, by decide +kernel, by decide +kernel, by decide⟩
set_option maxRecDepth 100000 in
theorem m_885 : Cond.methodLink RX8 71 yX8_humourOf ∈ WL := p_mt4 (i := 68) rfl rfl
set_option maxRecDepth 100000 in
theorem m_886 : Cond.instanceMethod yX8_humourOf ∈ WL := p_mt4 (i := 69) rfl rfl
set_option maxRecDepth 100000 in
theorem m_887 : Cond.selects RX8 yX8_humourOf yX8_humourOf ∈ WL := p_mt4 (i := 70) rfl rfl
set_option maxRecDepth 100000 in
theorem m_888 : Cond.code yX8_humourOf cX8_humourOf 4 (some .int) ∈ WL := p_mt4 (i := 71) rfl rfl
set_option maxRecDepth 100000 in
theorem wv_X8_71 : MV RX8 71 7 yX8_humourOf cX8_humourOf 4 (some .int) 2 := ⟨⟨TX8, 4, rfl⟩, m_885, m_886, m_887, m_108, m_888, by decide +kernel, by decide +kernel, by decide⟩
set_option maxRecDepth 100000 in
theorem m_916 : Cond.methodLink RX8 143 yX0_pullOf ∈ WL := p_mt4 (i := 99) rfl rfl
set_option maxRecDepth 100000 in
theorem wv_X8_143 : MV RX8 143 0 yX0_pullOf cX0_pullOf 3 (some .int) 2 := ⟨⟨TX0, 12, rfl⟩, m_916, m_917, m_918, m_106, m_919, by decide +kernel, by decide +kernel, by decide⟩
set_option maxRecDepth 100000 in
theorem m_911 : Cond.methodLink RX8 140 yX0_gradeOf ∈ WL := p_mt4 (i := 94) rfl rfl
set_option maxRecDepth 100000 in
theorem m_912 : Cond.instanceMethod yX0_gradeOf ∈ WL := p_mt4 (i := 95) rfl rfl
set_option maxRecDepth 100000 in
theorem m_913 : Cond.selects RX0 yX0_gradeOf yX0_gradeOf ∈ WL := p_mt4 (i := 96) rfl rfl
set_option maxRecDepth 100000 in
theorem m_914 : Cond.code yX0_gradeOf cX0_gradeOf 2 (some .int) ∈ WL := p_mt4 (i := 97) rfl rfl
set_option maxRecDepth 100000 in
theorem wv_X8_140 : MV RX8 140 0 yX0_gradeOf cX0_gradeOf 2 (some .int) 1 := ⟨⟨TX0, 12, rfl⟩, m_911, m_912, m_913, m_106, m_914, by decide +kernel, by decide +kernel, by decide⟩
set_option maxRecDepth 100000 in
theorem m_806 : Cond.methodLink RX8 103 Lib.Math.min.name ∈ WL := p_mt3 (i := 229) rfl rfl
set_option maxRecDepth 100000 in
theorem m_542 : Cond.static Lib.Math.min.name ∈ WL := p_mt2 (i := 205) rfl rfl
set_option maxRecDepth 100000 in
theorem m_543 : Cond.code Lib.Math.min.name Lib.Math.min.code 2 (some .int) ∈ WL := p_mt2 (i := 206) rfl rfl
set_option maxRecDepth 100000 in
theorem wm_X8_103 : MM RX8 103 Lib.Math.min.name Lib.Math.min.code 2 := ⟨m_806, m_542, m_113, m_543⟩
set_option maxRecDepth 100000 in
theorem m_907 : Cond.methodLink RX8 131 yX8_pushBy ∈ WL := p_mt4 (i := 90) rfl rfl
set_option maxRecDepth 100000 in
theorem m_909 : Cond.instanceMethod yX8_pushBy ∈ WL := p_mt4 (i := 92) rfl rfl
set_option maxRecDepth 100000 in
theorem m_16 : Cond.selects RX8 yX8_pushBy yX8_pushBy ∈ WL := p_mt0 (i := 16) rfl rfl
set_option maxRecDepth 100000 in
theorem m_910 : Cond.code yX8_pushBy cX8_pushBy 6 none ∈ WL := p_mt4 (i := 93) rfl rfl
set_option maxRecDepth 100000 in
theorem wv_X8_131 : MV RX8 131 7 yX8_pushBy cX8_pushBy 6 none 3 := ⟨⟨TX8, 4, rfl⟩, m_907, m_909, m_16, m_108, m_910, by decide +kernel, by decide +kernel, by decide⟩
set_option maxRecDepth 100000 in
theorem m_906 : Cond.methodLinkNest RX8 128 yX11_isIn RX11 ∈ WL := p_mt4 (i := 89) rfl rfl
set_option maxRecDepth 100000 in
theorem wn_X8_128 : MN RX8 128 RX11 yX11_isIn cX11_isIn 2 (some .boolean) 2 := ⟨m_906, m_616, m_98, m_617, by decide +kernel, by decide +kernel, by decide⟩
set_option maxRecDepth 100000 in
theorem m_929 : Cond.methodLink RX8 137 yX8_putHumour ∈ WL := p_mt4 (i := 112) rfl rfl
set_option maxRecDepth 100000 in
theorem m_687 : Cond.instanceMethod yX8_putHumour ∈ WL := p_mt3 (i := 110) rfl rfl
set_option maxRecDepth 100000 in
theorem m_688 : Cond.selects RX8 yX8_putHumour yX8_putHumour ∈ WL := p_mt3 (i := 111) rfl rfl
set_option maxRecDepth 100000 in
theorem m_689 : Cond.code yX8_putHumour cX8_putHumour 4 none ∈ WL := p_mt3 (i := 112) rfl rfl
set_option maxRecDepth 100000 in
theorem wv_X8_137 : MV RX8 137 7 yX8_putHumour cX8_putHumour 4 none 3 := ⟨⟨TX8, 4, rfl⟩, m_929, m_687, m_688, m_108, m_689, by decide +kernel, by decide +kernel, by decide⟩
set_option maxRecDepth 100000 in
theorem m_928 : Cond.methodLinkNest RX8 134 yX11_clamp RX11 ∈ WL := p_mt4 (i := 111) rfl rfl
set_option maxRecDepth 100000 in
theorem wn_X8_134 : MN RX8 134 RX11 yX11_clamp cX11_clamp 3 (some .int) 3 := ⟨m_928, m_772, m_98, m_773, by decide +kernel, by decide +kernel, by decide⟩
set_option maxRecDepth 100000 in
theorem m_903 : Cond.methodLink RX8 122 yJ7_fill_53178 ∈ WL := p_mt4 (i := 86) rfl rfl
set_option maxRecDepth 100000 in
theorem m_904 : Cond.static yJ7_fill_53178 ∈ WL := p_mt4 (i := 87) rfl rfl
set_option maxRecDepth 100000 in
theorem m_123 : Cond.initialized RJ7 ∈ WL := p_mt1 (i := 26) rfl rfl
set_option maxRecDepth 100000 in
theorem m_905 : Cond.code yJ7_fill_53178 cJ7_fill_53178 4 none ∈ WL := p_mt4 (i := 88) rfl rfl
set_option maxRecDepth 100000 in
theorem ws_X8_122 : MS RX8 122 yJ7_fill_53178 cJ7_fill_53178 4 none 2 := ⟨m_903, m_904, m_123, m_905, by decide +kernel, by decide +kernel, by decide⟩
set_option maxRecDepth 100000 in
theorem m_898 : Cond.methodLink RX8 119 yX0_strengthOf ∈ WL := p_mt4 (i := 81) rfl rfl
set_option maxRecDepth 100000 in
theorem m_899 : Cond.instanceMethod yX0_strengthOf ∈ WL := p_mt4 (i := 82) rfl rfl
set_option maxRecDepth 100000 in
theorem m_900 : Cond.selects RX0 yX0_strengthOf yX0_strengthOf ∈ WL := p_mt4 (i := 83) rfl rfl
set_option maxRecDepth 100000 in
theorem m_901 : Cond.code yX0_strengthOf cX0_strengthOf 2 (some .int) ∈ WL := p_mt4 (i := 84) rfl rfl
set_option maxRecDepth 100000 in
theorem wv_X8_119 : MV RX8 119 0 yX0_strengthOf cX0_strengthOf 2 (some .int) 1 := ⟨⟨TX0, 12, rfl⟩, m_898, m_899, m_900, m_106, m_901, by decide +kernel, by decide +kernel, by decide⟩
set_option maxRecDepth 100000 in
theorem m_811 : Cond.methodLink RX8 84 yJ6_bitCount_0f7a4 ∈ WL := p_mt3 (i := 234) rfl rfl
set_option maxRecDepth 100000 in
theorem m_812 : Cond.static yJ6_bitCount_0f7a4 ∈ WL := p_mt3 (i := 235) rfl rfl
set_option maxRecDepth 100000 in
theorem m_122 : Cond.initialized RJ6 ∈ WL := p_mt1 (i := 25) rfl rfl
set_option maxRecDepth 100000 in
theorem m_813 : Cond.code yJ6_bitCount_0f7a4 cJ6_bitCount_0f7a4 1 (some .int) ∈ WL := p_mt3 (i := 236) rfl rfl
set_option maxRecDepth 100000 in
theorem ws_X8_84 : MS RX8 84 yJ6_bitCount_0f7a4 cJ6_bitCount_0f7a4 1 (some .int) 1 := ⟨m_811, m_812, m_122, m_813, by decide +kernel, by decide +kernel, by decide⟩
set_option maxRecDepth 100000 in
theorem m_807 : Cond.methodLink RX8 81 yX8_groundsOf ∈ WL := p_mt3 (i := 230) rfl rfl
set_option maxRecDepth 100000 in
theorem m_808 : Cond.instanceMethod yX8_groundsOf ∈ WL := p_mt3 (i := 231) rfl rfl
set_option maxRecDepth 100000 in
theorem m_809 : Cond.selects RX8 yX8_groundsOf yX8_groundsOf ∈ WL := p_mt3 (i := 232) rfl rfl
set_option maxRecDepth 100000 in
theorem m_810 : Cond.code yX8_groundsOf cX8_groundsOf 4 (some .int) ∈ WL := p_mt3 (i := 233) rfl rfl
set_option maxRecDepth 100000 in
theorem wv_X8_81 : MV RX8 81 7 yX8_groundsOf cX8_groundsOf 4 (some .int) 1 := ⟨⟨TX8, 4, rfl⟩, m_807, m_808, m_809, m_108, m_810, by decide +kernel, by decide +kernel, by decide⟩
set_option maxRecDepth 100000 in
theorem m_894 : Cond.methodLink RX8 111 yX8_live ∈ WL := p_mt4 (i := 77) rfl rfl
set_option maxRecDepth 100000 in
theorem m_896 : Cond.instanceMethod yX8_live ∈ WL := p_mt4 (i := 79) rfl rfl
set_option maxRecDepth 100000 in
theorem m_15 : Cond.selects RX8 yX8_live yX8_live ∈ WL := p_mt0 (i := 15) rfl rfl
set_option maxRecDepth 100000 in
theorem m_897 : Cond.code yX8_live cX8_live 5 none ∈ WL := p_mt4 (i := 80) rfl rfl
set_option maxRecDepth 100000 in
theorem wv_X8_111 : MV RX8 111 7 yX8_live cX8_live 5 none 2 := ⟨⟨TX8, 4, rfl⟩, m_894, m_896, m_15, m_108, m_897, by decide +kernel, by decide +kernel, by decide⟩
set_option maxRecDepth 100000 in
theorem m_889 : Cond.methodLink RX8 74 yX0_offBy ∈ WL := p_mt4 (i := 72) rfl rfl
set_option maxRecDepth 100000 in
theorem m_890 : Cond.instanceMethod yX0_offBy ∈ WL := p_mt4 (i := 73) rfl rfl
set_option maxRecDepth 100000 in
theorem m_891 : Cond.selects RX0 yX0_offBy yX0_offBy ∈ WL := p_mt4 (i := 74) rfl rfl
set_option maxRecDepth 100000 in
theorem m_892 : Cond.code yX0_offBy cX0_offBy 6 (some .int) ∈ WL := p_mt4 (i := 75) rfl rfl
set_option maxRecDepth 100000 in
theorem wv_X8_74 : MV RX8 74 0 yX0_offBy cX0_offBy 6 (some .int) 3 := ⟨⟨TX0, 12, rfl⟩, m_889, m_890, m_891, m_106, m_892, by decide +kernel, by decide +kernel, by decide⟩
set_option maxRecDepth 100000 in
theorem m_881 : Cond.methodLink RX8 68 yX0_humourOfTerm ∈ WL := p_mt4 (i := 64) rfl rfl
set_option maxRecDepth 100000 in
theorem m_882 : Cond.instanceMethod yX0_humourOfTerm ∈ WL := p_mt4 (i := 65) rfl rfl
set_option maxRecDepth 100000 in
theorem m_883 : Cond.selects RX0 yX0_humourOfTerm yX0_humourOfTerm ∈ WL := p_mt4 (i := 66) rfl rfl
set_option maxRecDepth 100000 in
theorem m_884 : Cond.code yX0_humourOfTerm cX0_humourOfTerm 3 (some .int) ∈ WL := p_mt4 (i := 67) rfl rfl
set_option maxRecDepth 100000 in
theorem wv_X8_68 : MV RX8 68 0 yX0_humourOfTerm cX0_humourOfTerm 3 (some .int) 2 := ⟨⟨TX0, 12, rfl⟩, m_881, m_882, m_883, m_106, m_884, by decide +kernel, by decide +kernel, by decide⟩
set_option maxRecDepth 100000 in
theorem m_873 : Cond.methodLink RX8 64 yX0_termsOf ∈ WL := p_mt4 (i := 56) rfl rfl
set_option maxRecDepth 100000 in
theorem m_874 : Cond.instanceMethod yX0_termsOf ∈ WL := p_mt4 (i := 57) rfl rfl
set_option maxRecDepth 100000 in
theorem m_875 : Cond.selects RX0 yX0_termsOf yX0_termsOf ∈ WL := p_mt4 (i := 58) rfl rfl
set_option maxRecDepth 100000 in
theorem m_876 : Cond.code yX0_termsOf cX0_termsOf 2 (some .int) ∈ WL := p_mt4 (i := 59) rfl rfl
set_option maxRecDepth 100000 in
theorem wv_X8_64 : MV RX8 64 0 yX0_termsOf cX0_termsOf 2 (some .int) 1 := ⟨⟨TX0, 12, rfl⟩, m_873, m_874, m_875, m_106, m_876, by decide +kernel, by decide +kernel, by decide⟩
set_option maxRecDepth 100000 in
theorem m_869 : Cond.methodLink RX8 61 yX8_hasWant ∈ WL := p_mt4 (i := 52) rfl rfl
set_option maxRecDepth 100000 in
theorem m_871 : Cond.instanceMethod yX8_hasWant ∈ WL := p_mt4 (i := 54) rfl rfl
set_option maxRecDepth 100000 in
theorem m_14 : Cond.selects RX8 yX8_hasWant yX8_hasWant ∈ WL := p_mt0 (i := 14) rfl rfl
set_option maxRecDepth 100000 in
theorem m_872 : Cond.code yX8_hasWant cX8_hasWant 4 (some .boolean) ∈ WL := p_mt4 (i := 55) rfl rfl
set_option maxRecDepth 100000 in
theorem wv_X8_61 : MV RX8 61 7 yX8_hasWant cX8_hasWant 4 (some .boolean) 2 := ⟨⟨TX8, 4, rfl⟩, m_869, m_871, m_14, m_108, m_872, by decide +kernel, by decide +kernel, by decide⟩
set_option maxRecDepth 100000 in
theorem m_868 : Cond.methodLink RX8 58 yX0_wantSize ∈ WL := p_mt4 (i := 51) rfl rfl
set_option maxRecDepth 100000 in
theorem m_703 : Cond.instanceMethod yX0_wantSize ∈ WL := p_mt3 (i := 126) rfl rfl
set_option maxRecDepth 100000 in
theorem m_704 : Cond.selects RX0 yX0_wantSize yX0_wantSize ∈ WL := p_mt3 (i := 127) rfl rfl
set_option maxRecDepth 100000 in
theorem m_705 : Cond.code yX0_wantSize cX0_wantSize 1 (some .int) ∈ WL := p_mt3 (i := 128) rfl rfl
set_option maxRecDepth 100000 in
theorem wv_X8_58 : MV RX8 58 0 yX0_wantSize cX0_wantSize 1 (some .int) 0 := ⟨⟨TX0, 12, rfl⟩, m_868, m_703, m_704, m_106, m_705, by decide +kernel, by decide +kernel, by decide⟩
set_option maxRecDepth 100000 in
theorem m_1065 : Cond.methodLink RX4 70 yX8_lend ∈ WL := p_mt5 (i := 8) rfl rfl
set_option maxRecDepth 100000 in
theorem m_1066 : Cond.instanceMethod yX8_lend ∈ WL := p_mt5 (i := 9) rfl rfl
set_option maxRecDepth 100000 in
theorem m_1067 : Cond.selects RX8 yX8_lend yX8_lend ∈ WL := p_mt5 (i := 10) rfl rfl
set_option maxRecDepth 100000 in
theorem m_1068 : Cond.code yX8_lend cX8_lend 3 none ∈ WL := p_mt5 (i := 11) rfl rfl
set_option maxRecDepth 100000 in
theorem wv_X4_70 : MV RX4 70 7 yX8_lend cX8_lend 3 none 2 := ⟨⟨TX8, 4, rfl⟩, m_1065, m_1066, m_1067, m_108, m_1068, by decide +kernel, by decide +kernel, by decide⟩
set_option maxRecDepth 100000 in
theorem m_1058 : Cond.methodLinkNest RX4 66 yX11_isIn RX11 ∈ WL := p_mt5 (i := 1) rfl rfl
set_option maxRecDepth 100000 in
theorem wn_X4_66 : MN RX4 66 RX11 yX11_isIn cX11_isIn 2 (some .boolean) 2 := ⟨m_1058, m_616, m_98, m_617, by decide +kernel, by decide +kernel, by decide⟩
set_option maxRecDepth 100000 in
theorem m_1046 : Cond.methodLink RX4 60 yX0_groundSize ∈ WL := p_mt4 (i := 229) rfl rfl
set_option maxRecDepth 100000 in
theorem wv_X4_60 : MV RX4 60 0 yX0_groundSize cX0_groundSize 1 (some .int) 0 := ⟨⟨TX0, 12, rfl⟩, m_1046, m_454, m_455, m_106, m_456, by decide +kernel, by decide +kernel, by decide⟩
set_option maxRecDepth 100000 in
theorem m_1071 : Cond.methodLink RX4 82 yX8_wantsOf ∈ WL := p_mt5 (i := 14) rfl rfl
set_option maxRecDepth 100000 in
theorem m_865 : Cond.instanceMethod yX8_wantsOf ∈ WL := p_mt4 (i := 48) rfl rfl
set_option maxRecDepth 100000 in
theorem m_866 : Cond.selects RX8 yX8_wantsOf yX8_wantsOf ∈ WL := p_mt4 (i := 49) rfl rfl
set_option maxRecDepth 100000 in
theorem m_867 : Cond.code yX8_wantsOf cX8_wantsOf 4 (some .int) ∈ WL := p_mt4 (i := 50) rfl rfl
set_option maxRecDepth 100000 in
theorem wv_X4_82 : MV RX4 82 7 yX8_wantsOf cX8_wantsOf 4 (some .int) 1 := ⟨⟨TX8, 4, rfl⟩, m_1071, m_865, m_866, m_108, m_867, by decide +kernel, by decide +kernel, by decide⟩
set_option maxRecDepth 100000 in
theorem m_1070 : Cond.methodLink RX4 78 yX8_pass ∈ WL := p_mt5 (i := 13) rfl rfl
set_option maxRecDepth 100000 in
theorem m_983 : Cond.instanceMethod yX8_pass ∈ WL := p_mt4 (i := 166) rfl rfl
set_option maxRecDepth 100000 in
theorem m_984 : Cond.selects RX8 yX8_pass yX8_pass ∈ WL := p_mt4 (i := 167) rfl rfl
set_option maxRecDepth 100000 in
theorem m_985 : Cond.code yX8_pass cX8_pass 5 none ∈ WL := p_mt4 (i := 168) rfl rfl
set_option maxRecDepth 100000 in
theorem wv_X4_78 : MV RX4 78 7 yX8_pass cX8_pass 5 none 3 := ⟨⟨TX8, 4, rfl⟩, m_1070, m_983, m_984, m_108, m_985, by decide +kernel, by decide +kernel, by decide⟩
set_option maxRecDepth 100000 in
theorem m_1069 : Cond.methodLink RX4 74 yX0_presentRule ∈ WL := p_mt5 (i := 12) rfl rfl
set_option maxRecDepth 100000 in
theorem m_856 : Cond.instanceMethod yX0_presentRule ∈ WL := p_mt4 (i := 39) rfl rfl
set_option maxRecDepth 100000 in
theorem m_857 : Cond.selects RX0 yX0_presentRule yX0_presentRule ∈ WL := p_mt4 (i := 40) rfl rfl
set_option maxRecDepth 100000 in
theorem m_858 : Cond.code yX0_presentRule cX0_presentRule 1 (some (.object "ReasonsSupplied$Rule")) ∈ WL := p_mt4 (i := 41) rfl rfl
set_option maxRecDepth 100000 in
theorem wv_X4_74 : MV RX4 74 0 yX0_presentRule cX0_presentRule 1 (some (.object "ReasonsSupplied$Rule")) 0 := ⟨⟨TX0, 12, rfl⟩, m_1069, m_856, m_857, m_106, m_858, by decide +kernel, by decide +kernel, by decide⟩
set_option maxRecDepth 100000 in
theorem m_1064 : Cond.methodLink RX4 54 yX8_copy ∈ WL := p_mt5 (i := 7) rfl rfl
set_option maxRecDepth 100000 in
theorem m_788 : Cond.instanceMethod yX8_copy ∈ WL := p_mt3 (i := 211) rfl rfl
set_option maxRecDepth 100000 in
theorem m_789 : Cond.selects RX8 yX8_copy yX8_copy ∈ WL := p_mt3 (i := 212) rfl rfl
set_option maxRecDepth 100000 in
theorem m_790 : Cond.code yX8_copy cX8_copy 2 none ∈ WL := p_mt3 (i := 213) rfl rfl
set_option maxRecDepth 100000 in
theorem wv_X4_54 : MV RX4 54 7 yX8_copy cX8_copy 2 none 1 := ⟨⟨TX8, 4, rfl⟩, m_1064, m_788, m_789, m_108, m_790, by decide +kernel, by decide +kernel, by decide⟩
set_option maxRecDepth 100000 in
theorem m_1094 : Cond.methodLink RX4 86 yX8_strip ∈ WL := p_mt5 (i := 37) rfl rfl
set_option maxRecDepth 100000 in
theorem m_840 : Cond.instanceMethod yX8_strip ∈ WL := p_mt4 (i := 23) rfl rfl
set_option maxRecDepth 100000 in
theorem m_841 : Cond.selects RX8 yX8_strip yX8_strip ∈ WL := p_mt4 (i := 24) rfl rfl
set_option maxRecDepth 100000 in
theorem m_842 : Cond.code yX8_strip cX8_strip 3 none ∈ WL := p_mt4 (i := 25) rfl rfl
set_option maxRecDepth 100000 in
theorem wv_X4_86 : MV RX4 86 7 yX8_strip cX8_strip 3 none 2 := ⟨⟨TX8, 4, rfl⟩, m_1094, m_840, m_841, m_108, m_842, by decide +kernel, by decide +kernel, by decide⟩
set_option maxRecDepth 100000 in
theorem m_1048 : Cond.methodLink RX4 92 yX8_holds ∈ WL := p_mt4 (i := 231) rfl rfl
set_option maxRecDepth 100000 in
theorem m_756 : Cond.instanceMethod yX8_holds ∈ WL := p_mt3 (i := 179) rfl rfl
set_option maxRecDepth 100000 in
theorem m_757 : Cond.selects RX8 yX8_holds yX8_holds ∈ WL := p_mt3 (i := 180) rfl rfl
set_option maxRecDepth 100000 in
theorem m_758 : Cond.code yX8_holds cX8_holds 3 (some .boolean) ∈ WL := p_mt3 (i := 181) rfl rfl
set_option maxRecDepth 100000 in
theorem wv_X4_92 : MV RX4 92 7 yX8_holds cX8_holds 3 (some .boolean) 2 := ⟨⟨TX8, 4, rfl⟩, m_1048, m_756, m_757, m_108, m_758, by decide +kernel, by decide +kernel, by decide⟩
set_option maxRecDepth 100000 in
theorem m_1047 : Cond.methodLink RX4 89 yX8_stockOf ∈ WL := p_mt4 (i := 230) rfl rfl
set_option maxRecDepth 100000 in
theorem m_780 : Cond.instanceMethod yX8_stockOf ∈ WL := p_mt3 (i := 203) rfl rfl
set_option maxRecDepth 100000 in
theorem m_781 : Cond.selects RX8 yX8_stockOf yX8_stockOf ∈ WL := p_mt3 (i := 204) rfl rfl
set_option maxRecDepth 100000 in
theorem m_782 : Cond.code yX8_stockOf cX8_stockOf 2 (some .int) ∈ WL := p_mt3 (i := 205) rfl rfl
set_option maxRecDepth 100000 in
theorem wv_X4_89 : MV RX4 89 7 yX8_stockOf cX8_stockOf 2 (some .int) 1 := ⟨⟨TX8, 4, rfl⟩, m_1047, m_780, m_781, m_108, m_782, by decide +kernel, by decide +kernel, by decide⟩
set_option maxRecDepth 100000 in
theorem m_1059 : Cond.methodLink RX4 95 yX0_gradeOf ∈ WL := p_mt5 (i := 2) rfl rfl
set_option maxRecDepth 100000 in
theorem wv_X4_95 : MV RX4 95 0 yX0_gradeOf cX0_gradeOf 2 (some .int) 1 := ⟨⟨TX0, 12, rfl⟩, m_1059, m_912, m_913, m_106, m_914, by decide +kernel, by decide +kernel, by decide⟩
set_option maxRecDepth 100000 in
theorem m_1054 : Cond.methodLink RX4 117 yX4_gradesOf ∈ WL := p_mt4 (i := 237) rfl rfl
set_option maxRecDepth 100000 in
theorem m_1056 : Cond.instanceMethod yX4_gradesOf ∈ WL := p_mt4 (i := 239) rfl rfl
set_option maxRecDepth 100000 in
theorem m_22 : Cond.selects RX4 yX4_gradesOf yX4_gradesOf ∈ WL := p_mt0 (i := 22) rfl rfl
set_option maxRecDepth 100000 in
theorem m_109 : Cond.initialized RX4 ∈ WL := p_mt1 (i := 12) rfl rfl
set_option maxRecDepth 100000 in
theorem m_1057 : Cond.code yX4_gradesOf cX4_gradesOf 4 (some .int) ∈ WL := p_mt5 (i := 0) rfl rfl
set_option maxRecDepth 100000 in
theorem wv_X4_117 : MV RX4 117 3 yX4_gradesOf cX4_gradesOf 4 (some .int) 1 := ⟨⟨TX4, 14, rfl⟩, m_1054, m_1056, m_22, m_109, m_1057, by decide +kernel, by decide +kernel, by decide⟩
set_option maxRecDepth 100000 in
theorem m_1053 : Cond.methodLink RX4 120 yJ6_bitCount_0f7a4 ∈ WL := p_mt4 (i := 236) rfl rfl
set_option maxRecDepth 100000 in
theorem ws_X4_120 : MS RX4 120 yJ6_bitCount_0f7a4 cJ6_bitCount_0f7a4 1 (some .int) 1 := ⟨m_1053, m_812, m_122, m_813, by decide +kernel, by decide +kernel, by decide⟩
set_option maxRecDepth 100000 in
theorem m_1060 : Cond.methodLink RX4 104 yX4_wantsWith ∈ WL := p_mt5 (i := 3) rfl rfl
set_option maxRecDepth 100000 in
theorem m_1062 : Cond.instanceMethod yX4_wantsWith ∈ WL := p_mt5 (i := 5) rfl rfl
set_option maxRecDepth 100000 in
theorem m_23 : Cond.selects RX4 yX4_wantsWith yX4_wantsWith ∈ WL := p_mt0 (i := 23) rfl rfl
set_option maxRecDepth 100000 in
theorem m_1063 : Cond.code yX4_wantsWith cX4_wantsWith 5 (some .int) ∈ WL := p_mt5 (i := 6) rfl rfl
set_option maxRecDepth 100000 in
theorem wv_X4_104 : MV RX4 104 3 yX4_wantsWith cX4_wantsWith 5 (some .int) 3 := ⟨⟨TX4, 14, rfl⟩, m_1060, m_1062, m_23, m_109, m_1063, by decide +kernel, by decide +kernel, by decide⟩
set_option maxRecDepth 100000 in
theorem m_1049 : Cond.methodLink RX4 101 yX4_isLess ∈ WL := p_mt4 (i := 232) rfl rfl
set_option maxRecDepth 100000 in
theorem m_1051 : Cond.instanceMethod yX4_isLess ∈ WL := p_mt4 (i := 234) rfl rfl
set_option maxRecDepth 100000 in
theorem m_21 : Cond.selects RX4 yX4_isLess yX4_isLess ∈ WL := p_mt0 (i := 21) rfl rfl
set_option maxRecDepth 100000 in
theorem m_1052 : Cond.code yX4_isLess cX4_isLess 4 (some .boolean) ∈ WL := p_mt4 (i := 235) rfl rfl
set_option maxRecDepth 100000 in
theorem wv_X4_101 : MV RX4 101 3 yX4_isLess cX4_isLess 4 (some .boolean) 2 := ⟨⟨TX4, 14, rfl⟩, m_1049, m_1051, m_21, m_109, m_1052, by decide +kernel, by decide +kernel, by decide⟩
set_option maxRecDepth 100000 in
theorem m_1073 : Cond.methodLink RX4 113 yX3_add ∈ WL := p_mt5 (i := 16) rfl rfl
set_option maxRecDepth 100000 in
theorem m_939 : Cond.instanceMethod yX3_add ∈ WL := p_mt4 (i := 122) rfl rfl
set_option maxRecDepth 100000 in
theorem m_940 : Cond.selects RX3 yX3_add yX3_add ∈ WL := p_mt4 (i := 123) rfl rfl
set_option maxRecDepth 100000 in
theorem m_105 : Cond.initialized RX3 ∈ WL := p_mt1 (i := 8) rfl rfl
set_option maxRecDepth 100000 in
theorem m_941 : Cond.code yX3_add cX3_add 3 none ∈ WL := p_mt4 (i := 124) rfl rfl
set_option maxRecDepth 100000 in
theorem wv_X4_113 : MV RX4 113 2 yX3_add cX3_add 3 none 1 := ⟨⟨TX3, 2, rfl⟩, m_1073, m_939, m_940, m_105, m_941, by decide +kernel, by decide +kernel, by decide⟩
set_option maxRecDepth 100000 in
theorem m_1072 : Cond.methodLink RX4 108 yX3_start ∈ WL := p_mt5 (i := 15) rfl rfl
set_option maxRecDepth 100000 in
theorem m_931 : Cond.instanceMethod yX3_start ∈ WL := p_mt4 (i := 114) rfl rfl
set_option maxRecDepth 100000 in
theorem m_932 : Cond.selects RX3 yX3_start yX3_start ∈ WL := p_mt4 (i := 115) rfl rfl
set_option maxRecDepth 100000 in
theorem m_933 : Cond.code yX3_start cX3_start 1 none ∈ WL := p_mt4 (i := 116) rfl rfl
set_option maxRecDepth 100000 in
theorem wv_X4_108 : MV RX4 108 2 yX3_start cX3_start 1 none 0 := ⟨⟨TX3, 2, rfl⟩, m_1072, m_931, m_932, m_105, m_933, by decide +kernel, by decide +kernel, by decide⟩
set_option maxRecDepth 100000 in
theorem m_1042 : Cond.methodLink RX4 98 yX4_free ∈ WL := p_mt4 (i := 225) rfl rfl
set_option maxRecDepth 100000 in
theorem m_1044 : Cond.instanceMethod yX4_free ∈ WL := p_mt4 (i := 227) rfl rfl
set_option maxRecDepth 100000 in
theorem m_20 : Cond.selects RX4 yX4_free yX4_free ∈ WL := p_mt0 (i := 20) rfl rfl
set_option maxRecDepth 100000 in
theorem m_1045 : Cond.code yX4_free cX4_free 4 (some .int) ∈ WL := p_mt4 (i := 228) rfl rfl
set_option maxRecDepth 100000 in
theorem wv_X4_98 : MV RX4 98 3 yX4_free cX4_free 4 (some .int) 1 := ⟨⟨TX4, 14, rfl⟩, m_1042, m_1044, m_20, m_109, m_1045, by decide +kernel, by decide +kernel, by decide⟩
set_option maxRecDepth 100000 in
theorem m_1090 : Cond.methodLink RX4 125 yX4_wantsBare ∈ WL := p_mt5 (i := 33) rfl rfl
set_option maxRecDepth 100000 in
theorem m_1092 : Cond.instanceMethod yX4_wantsBare ∈ WL := p_mt5 (i := 35) rfl rfl
set_option maxRecDepth 100000 in
theorem m_24 : Cond.selects RX4 yX4_wantsBare yX4_wantsBare ∈ WL := p_mt0 (i := 24) rfl rfl
set_option maxRecDepth 100000 in
theorem m_1093 : Cond.code yX4_wantsBare cX4_wantsBare 4 (some .int) ∈ WL := p_mt5 (i := 36) rfl rfl
set_option maxRecDepth 100000 in
theorem wv_X4_125 : MV RX4 125 3 yX4_wantsBare cX4_wantsBare 4 (some .int) 3 := ⟨⟨TX4, 14, rfl⟩, m_1090, m_1092, m_24, m_109, m_1093, by decide +kernel, by decide +kernel, by decide⟩
set_option maxRecDepth 100000 in
theorem m_358 : Cond.fieldLink RX4 128 (TX4 13).1 (TX4 13).2.1 (TX4 13).2.2.1 ∈ WL := p_mt2 (i := 21) rfl rfl
set_option maxRecDepth 100000 in
theorem wf_X4_128_3 : FL RX4 128 3 13 .int false := ⟨RX4, TX4, 14, tyX4, rfl, inW_X4, by decide, m_358, nmX4, tyX4_ok, by decide +kernel, rfl, fun h => by first | rfl | cases h⟩
set_option maxRecDepth 100000 in
theorem m_1159 : Cond.methodLink RX4 132 Lib.Math.max.name ∈ WL := p_mt5 (i := 102) rfl rfl
set_option maxRecDepth 100000 in
theorem wm_X4_132 : MM RX4 132 Lib.Math.max.name Lib.Math.max.code 2 := ⟨m_1159, m_539, m_113, m_540⟩
set_option maxRecDepth 100000 in
theorem m_1160 : Cond.methodLink RX4 138 yX8_humourOf ∈ WL := p_mt5 (i := 103) rfl rfl
set_option maxRecDepth 100000 in
theorem wv_X4_138 : MV RX4 138 7 yX8_humourOf cX8_humourOf 4 (some .int) 2 := ⟨⟨TX8, 4, rfl⟩, m_1160, m_886, m_887, m_108, m_888, by decide +kernel, by decide +kernel, by decide⟩
set_option maxRecDepth 100000 in
theorem m_1155 : Cond.methodLink RX4 141 yX4_wouldFit ∈ WL := p_mt5 (i := 98) rfl rfl
set_option maxRecDepth 100000 in
theorem m_1157 : Cond.instanceMethod yX4_wouldFit ∈ WL := p_mt5 (i := 100) rfl rfl
set_option maxRecDepth 100000 in
theorem m_26 : Cond.selects RX4 yX4_wouldFit yX4_wouldFit ∈ WL := p_mt0 (i := 26) rfl rfl
set_option maxRecDepth 100000 in
theorem m_1158 : Cond.code yX4_wouldFit cX4_wouldFit 5 (some .boolean) ∈ WL := p_mt5 (i := 101) rfl rfl
set_option maxRecDepth 100000 in
theorem wv_X4_141 : MV RX4 141 3 yX4_wouldFit cX4_wouldFit 5 (some .boolean) 1 := ⟨⟨TX4, 14, rfl⟩, m_1155, m_1157, m_26, m_109, m_1158, by decide +kernel, by decide +kernel, by decide⟩
set_option maxRecDepth 100000 in
theorem m_1178 : Cond.methodLinkNest RX4 158 yX11_clamp RX11 ∈ WL := p_mt5 (i := 121) rfl rfl
set_option maxRecDepth 100000 in
theorem wn_X4_158 : MN RX4 158 RX11 yX11_clamp cX11_clamp 3 (some .int) 3 := ⟨m_1178, m_772, m_98, m_773, by decide +kernel, by decide +kernel, by decide⟩
set_option maxRecDepth 100000 in
theorem m_1174 : Cond.methodLink RX4 151 yX4_tallyHumours ∈ WL := p_mt5 (i := 117) rfl rfl
set_option maxRecDepth 100000 in
theorem m_1176 : Cond.instanceMethod yX4_tallyHumours ∈ WL := p_mt5 (i := 119) rfl rfl
set_option maxRecDepth 100000 in
theorem m_27 : Cond.selects RX4 yX4_tallyHumours yX4_tallyHumours ∈ WL := p_mt0 (i := 27) rfl rfl
set_option maxRecDepth 100000 in
theorem m_1177 : Cond.code yX4_tallyHumours cX4_tallyHumours 3 none ∈ WL := p_mt5 (i := 120) rfl rfl
set_option maxRecDepth 100000 in
theorem wv_X4_151 : MV RX4 151 3 yX4_tallyHumours cX4_tallyHumours 3 none 1 := ⟨⟨TX4, 14, rfl⟩, m_1174, m_1176, m_27, m_109, m_1177, by decide +kernel, by decide +kernel, by decide⟩
set_option maxRecDepth 100000 in
theorem m_1179 : Cond.methodLink RX4 155 yX4_mostLeft ∈ WL := p_mt5 (i := 122) rfl rfl
set_option maxRecDepth 100000 in
theorem m_1181 : Cond.instanceMethod yX4_mostLeft ∈ WL := p_mt5 (i := 124) rfl rfl
set_option maxRecDepth 100000 in
theorem m_28 : Cond.selects RX4 yX4_mostLeft yX4_mostLeft ∈ WL := p_mt0 (i := 28) rfl rfl
set_option maxRecDepth 100000 in
theorem m_1182 : Cond.code yX4_mostLeft cX4_mostLeft 4 (some .int) ∈ WL := p_mt5 (i := 125) rfl rfl
set_option maxRecDepth 100000 in
theorem wv_X4_155 : MV RX4 155 3 yX4_mostLeft cX4_mostLeft 4 (some .int) 1 := ⟨⟨TX4, 14, rfl⟩, m_1179, m_1181, m_28, m_109, m_1182, by decide +kernel, by decide +kernel, by decide⟩
set_option maxRecDepth 100000 in
theorem m_1173 : Cond.methodLink RX4 145 yJ7_fill_53178 ∈ WL := p_mt5 (i := 116) rfl rfl
set_option maxRecDepth 100000 in
theorem ws_X4_145 : MS RX4 145 yJ7_fill_53178 cJ7_fill_53178 4 none 2 := ⟨m_1173, m_904, m_123, m_905, by decide +kernel, by decide +kernel, by decide⟩
set_option maxRecDepth 100000 in
theorem m_1191 : Cond.methodLink RX4 161 yX0_personSize ∈ WL := p_mt5 (i := 134) rfl rfl
set_option maxRecDepth 100000 in
theorem m_683 : Cond.instanceMethod yX0_personSize ∈ WL := p_mt3 (i := 106) rfl rfl
set_option maxRecDepth 100000 in
theorem m_684 : Cond.selects RX0 yX0_personSize yX0_personSize ∈ WL := p_mt3 (i := 107) rfl rfl
set_option maxRecDepth 100000 in
theorem m_685 : Cond.code yX0_personSize cX0_personSize 1 (some .int) ∈ WL := p_mt3 (i := 108) rfl rfl
set_option maxRecDepth 100000 in
theorem wv_X4_161 : MV RX4 161 0 yX0_personSize cX0_personSize 1 (some .int) 0 := ⟨⟨TX0, 12, rfl⟩, m_1191, m_683, m_684, m_106, m_685, by decide +kernel, by decide +kernel, by decide⟩
set_option maxRecDepth 100000 in
theorem m_1196 : Cond.methodLink RX4 167 yX0_allWants ∈ WL := p_mt5 (i := 139) rfl rfl
set_option maxRecDepth 100000 in
theorem m_1019 : Cond.instanceMethod yX0_allWants ∈ WL := p_mt4 (i := 202) rfl rfl
set_option maxRecDepth 100000 in
theorem m_1020 : Cond.selects RX0 yX0_allWants yX0_allWants ∈ WL := p_mt4 (i := 203) rfl rfl
set_option maxRecDepth 100000 in
theorem m_1021 : Cond.code yX0_allWants cX0_allWants 1 (some .int) ∈ WL := p_mt4 (i := 204) rfl rfl
set_option maxRecDepth 100000 in
theorem wv_X4_167 : MV RX4 167 0 yX0_allWants cX0_allWants 1 (some .int) 0 := ⟨⟨TX0, 12, rfl⟩, m_1196, m_1019, m_1020, m_106, m_1021, by decide +kernel, by decide +kernel, by decide⟩
set_option maxRecDepth 100000 in
theorem m_1192 : Cond.methodLink RX4 164 yX4_servedTogether ∈ WL := p_mt5 (i := 135) rfl rfl
set_option maxRecDepth 100000 in
theorem m_1194 : Cond.instanceMethod yX4_servedTogether ∈ WL := p_mt5 (i := 137) rfl rfl
set_option maxRecDepth 100000 in
theorem m_29 : Cond.selects RX4 yX4_servedTogether yX4_servedTogether ∈ WL := p_mt0 (i := 29) rfl rfl
set_option maxRecDepth 100000 in
theorem m_1195 : Cond.code yX4_servedTogether cX4_servedTogether 4 (some .int) ∈ WL := p_mt5 (i := 138) rfl rfl
set_option maxRecDepth 100000 in
theorem wv_X4_164 : MV RX4 164 3 yX4_servedTogether cX4_servedTogether 4 (some .int) 1 := ⟨⟨TX4, 14, rfl⟩, m_1192, m_1194, m_29, m_109, m_1195, by decide +kernel, by decide +kernel, by decide⟩
set_option maxRecDepth 100000 in
theorem m_1217 : Cond.methodLink RX4 180 yX4_bestWith ∈ WL := p_mt5 (i := 160) rfl rfl
set_option maxRecDepth 100000 in
theorem m_1219 : Cond.instanceMethod yX4_bestWith ∈ WL := p_mt5 (i := 162) rfl rfl
set_option maxRecDepth 100000 in
theorem m_32 : Cond.selects RX4 yX4_bestWith yX4_bestWith ∈ WL := p_mt0 (i := 32) rfl rfl
set_option maxRecDepth 100000 in
theorem m_1220 : Cond.code yX4_bestWith cX4_bestWith 5 (some .int) ∈ WL := p_mt5 (i := 163) rfl rfl
set_option maxRecDepth 100000 in
theorem wv_X4_180 : MV RX4 180 3 yX4_bestWith cX4_bestWith 5 (some .int) 2 := ⟨⟨TX4, 14, rfl⟩, m_1217, m_1219, m_32, m_109, m_1220, by decide +kernel, by decide +kernel, by decide⟩
set_option maxRecDepth 100000 in
theorem m_1213 : Cond.methodLink RX4 176 yX4_sumGains ∈ WL := p_mt5 (i := 156) rfl rfl
set_option maxRecDepth 100000 in
theorem m_1215 : Cond.instanceMethod yX4_sumGains ∈ WL := p_mt5 (i := 158) rfl rfl
set_option maxRecDepth 100000 in
theorem m_31 : Cond.selects RX4 yX4_sumGains yX4_sumGains ∈ WL := p_mt0 (i := 31) rfl rfl
set_option maxRecDepth 100000 in
theorem m_1216 : Cond.code yX4_sumGains cX4_sumGains 7 none ∈ WL := p_mt5 (i := 159) rfl rfl
set_option maxRecDepth 100000 in
theorem wv_X4_176 : MV RX4 176 3 yX4_sumGains cX4_sumGains 7 none 3 := ⟨⟨TX4, 14, rfl⟩, m_1213, m_1215, m_31, m_109, m_1216, by decide +kernel, by decide +kernel, by decide⟩
set_option maxRecDepth 100000 in
theorem m_1209 : Cond.methodLink RX4 170 yX4_mostGained ∈ WL := p_mt5 (i := 152) rfl rfl
set_option maxRecDepth 100000 in
theorem m_1211 : Cond.instanceMethod yX4_mostGained ∈ WL := p_mt5 (i := 154) rfl rfl
set_option maxRecDepth 100000 in
theorem m_30 : Cond.selects RX4 yX4_mostGained yX4_mostGained ∈ WL := p_mt0 (i := 30) rfl rfl
set_option maxRecDepth 100000 in
theorem m_1212 : Cond.code yX4_mostGained cX4_mostGained 5 (some .int) ∈ WL := p_mt5 (i := 155) rfl rfl
set_option maxRecDepth 100000 in
theorem wv_X4_170 : MV RX4 170 3 yX4_mostGained cX4_mostGained 5 (some .int) 1 := ⟨⟨TX4, 14, rfl⟩, m_1209, m_1211, m_30, m_109, m_1212, by decide +kernel, by decide +kernel, by decide⟩
set_option maxRecDepth 100000 in
theorem m_1221 : Cond.methodLink RX4 173 yX4_leastGiven ∈ WL := p_mt5 (i := 164) rfl rfl
set_option maxRecDepth 100000 in
theorem m_1223 : Cond.instanceMethod yX4_leastGiven ∈ WL := p_mt5 (i := 166) rfl rfl
set_option maxRecDepth 100000 in
theorem m_33 : Cond.selects RX4 yX4_leastGiven yX4_leastGiven ∈ WL := p_mt0 (i := 33) rfl rfl
set_option maxRecDepth 100000 in
theorem m_1224 : Cond.code yX4_leastGiven cX4_leastGiven 5 (some .int) ∈ WL := p_mt5 (i := 167) rfl rfl
set_option maxRecDepth 100000 in
theorem wv_X4_173 : MV RX4 173 3 yX4_leastGiven cX4_leastGiven 5 (some .int) 2 := ⟨⟨TX4, 14, rfl⟩, m_1221, m_1223, m_33, m_109, m_1224, by decide +kernel, by decide +kernel, by decide⟩
set_option maxRecDepth 100000 in
theorem m_213 : Cond.methodLink RX5 1 objectInit ∈ WL := p_mt1 (i := 116) rfl rfl
set_option maxRecDepth 100000 in
theorem wo_X5_1 : MO RX5 1 := ⟨m_213, m_130, m_131⟩
set_option maxRecDepth 100000 in
theorem m_214 : Cond.fieldLink RX5 11 (TX5 0).1 (TX5 0).2.1 (TX5 0).2.2.1 ∈ WL := p_mt1 (i := 117) rfl rfl
set_option maxRecDepth 100000 in
theorem inW_X5 : ∀ w ∈ u_ws RX5 TX5 4, w ∈ WL := fun w hw => p_mem (of_decide_eq_true (List.all_eq_true.mp (show (u_ws RX5 TX5 4).all (fun w => decide (w ∈ lw_tbl)) = true by decide +kernel) w hw)) (List.all_eq_true.mp (show (u_ws RX5 TX5 4).all p_okw = true by decide +kernel) w hw)
set_option maxRecDepth 100000 in
theorem wf_X5_11_4 : FL RX5 11 4 0 (.array .int) true := ⟨RX5, TX5, 4, tyX5, rfl, inW_X5, by decide, m_214, nmX5, tyX5_ok, by decide +kernel, rfl, fun h => by first | rfl | cases h⟩
set_option maxRecDepth 100000 in
theorem m_216 : Cond.fieldLink RX5 15 (TX5 2).1 (TX5 2).2.1 (TX5 2).2.2.1 ∈ WL := p_mt1 (i := 119) rfl rfl
set_option maxRecDepth 100000 in
theorem wf_X5_15_4 : FL RX5 15 4 2 .int false := ⟨RX5, TX5, 4, tyX5, rfl, inW_X5, by decide, m_216, nmX5, tyX5_ok, by decide +kernel, rfl, fun h => by first | rfl | cases h⟩
set_option maxRecDepth 100000 in
theorem m_829 : Cond.methodLinkNest RX8 33 yX11_within RX11 ∈ WL := p_mt4 (i := 12) rfl rfl
set_option maxRecDepth 100000 in
theorem wn_X8_33 : MN RX8 33 RX11 yX11_within cX11_within 3 (some .boolean) 3 := ⟨m_829, m_443, m_98, m_444, by decide +kernel, by decide +kernel, by decide⟩
set_option maxRecDepth 100000 in
theorem m_215 : Cond.fieldLink RX5 19 (TX5 1).1 (TX5 1).2.1 (TX5 1).2.2.1 ∈ WL := p_mt1 (i := 118) rfl rfl
set_option maxRecDepth 100000 in
theorem wf_X5_19_4 : FL RX5 19 4 1 .int false := ⟨RX5, TX5, 4, tyX5, rfl, inW_X5, by decide, m_215, nmX5, tyX5_ok, by decide +kernel, rfl, fun h => by first | rfl | cases h⟩
set_option maxRecDepth 100000 in
theorem m_830 : Cond.methodLink RX5 26 Lib.Math.min.name ∈ WL := p_mt4 (i := 13) rfl rfl
set_option maxRecDepth 100000 in
theorem wm_X5_26 : MM RX5 26 Lib.Math.min.name Lib.Math.min.code 2 := ⟨m_830, m_542, m_113, m_543⟩
set_option maxRecDepth 100000 in
theorem m_825 : Cond.methodLink RX5 22 yX8_saveTo ∈ WL := p_mt4 (i := 8) rfl rfl
set_option maxRecDepth 100000 in
theorem m_826 : Cond.instanceMethod yX8_saveTo ∈ WL := p_mt4 (i := 9) rfl rfl
set_option maxRecDepth 100000 in
theorem m_827 : Cond.selects RX8 yX8_saveTo yX8_saveTo ∈ WL := p_mt4 (i := 10) rfl rfl
set_option maxRecDepth 100000 in
theorem m_828 : Cond.code yX8_saveTo cX8_saveTo 3 none ∈ WL := p_mt4 (i := 11) rfl rfl
set_option maxRecDepth 100000 in
theorem wv_X5_22 : MV RX5 22 7 yX8_saveTo cX8_saveTo 3 none 2 := ⟨⟨TX8, 4, rfl⟩, m_825, m_826, m_827, m_108, m_828, by decide +kernel, by decide +kernel, by decide⟩
set_option maxRecDepth 100000 in
theorem m_970 : Cond.methodLink RX5 32 yX8_loadFrom ∈ WL := p_mt4 (i := 153) rfl rfl
set_option maxRecDepth 100000 in
theorem m_971 : Cond.instanceMethod yX8_loadFrom ∈ WL := p_mt4 (i := 154) rfl rfl
set_option maxRecDepth 100000 in
theorem m_972 : Cond.selects RX8 yX8_loadFrom yX8_loadFrom ∈ WL := p_mt4 (i := 155) rfl rfl
set_option maxRecDepth 100000 in
theorem m_973 : Cond.code yX8_loadFrom cX8_loadFrom 3 none ∈ WL := p_mt4 (i := 156) rfl rfl
set_option maxRecDepth 100000 in
theorem wv_X5_32 : MV RX5 32 7 yX8_loadFrom cX8_loadFrom 3 none 2 := ⟨⟨TX8, 4, rfl⟩, m_970, m_971, m_972, m_108, m_973, by decide +kernel, by decide +kernel, by decide⟩
set_option maxRecDepth 100000 in
theorem m_217 : Cond.fieldLink RX5 41 (TX5 3).1 (TX5 3).2.1 (TX5 3).2.2.1 ∈ WL := p_mt1 (i := 120) rfl rfl
set_option maxRecDepth 100000 in
theorem wf_X5_41_4 : FL RX5 41 4 3 .int false := ⟨RX5, TX5, 4, tyX5, rfl, inW_X5, by decide, m_217, nmX5, tyX5_ok, by decide +kernel, rfl, fun h => by first | rfl | cases h⟩
set_option maxRecDepth 100000 in
theorem m_1298 : Cond.methodLinkNest RX5 35 yX11_within RX11 ∈ WL := p_mt6 (i := 1) rfl rfl
set_option maxRecDepth 100000 in
theorem wn_X5_35 : MN RX5 35 RX11 yX11_within cX11_within 3 (some .boolean) 3 := ⟨m_1298, m_443, m_98, m_444, by decide +kernel, by decide +kernel, by decide⟩
set_option maxRecDepth 100000 in
theorem m_1307 : Cond.methodLinkNest RX5 44 yX11_isIn RX11 ∈ WL := p_mt6 (i := 10) rfl rfl
set_option maxRecDepth 100000 in
theorem wn_X5_44 : MN RX5 44 RX11 yX11_isIn cX11_isIn 2 (some .boolean) 2 := ⟨m_1307, m_616, m_98, m_617, by decide +kernel, by decide +kernel, by decide⟩
set_option maxRecDepth 100000 in
theorem m_736 : Cond.methodLink RX6 30 ⟨RX6, "slip", "(LReasonsSupplied$Signs;I)I"⟩ ∈ WL := p_mt3 (i := 159) rfl rfl
set_option maxRecDepth 100000 in
theorem m_737 : Cond.sameMethod RX6 RX1 "slip" "(LReasonsSupplied$Signs;I)I" ∈ WL := p_mt3 (i := 160) rfl rfl
set_option maxRecDepth 100000 in
theorem m_459 : Cond.declares ⟨RX1, "slip", "(LReasonsSupplied$Signs;I)I"⟩ ∈ WL := p_mt2 (i := 122) rfl rfl
set_option maxRecDepth 100000 in
theorem m_738 : Cond.selects RX6 ⟨RX6, "slip", "(LReasonsSupplied$Signs;I)I"⟩ yX1_slip ∈ WL := p_mt3 (i := 161) rfl rfl
set_option maxRecDepth 100000 in
theorem m_461 : Cond.instanceMethod yX1_slip ∈ WL := p_mt2 (i := 124) rfl rfl
set_option maxRecDepth 100000 in
theorem m_462 : Cond.code yX1_slip cX1_slip 5 (some .int) ∈ WL := p_mt2 (i := 125) rfl rfl
set_option maxRecDepth 100000 in
theorem wu_X6_30_X6 : MU RX6 30 5 RX6 RX1 ⟨RX6, "slip", "(LReasonsSupplied$Signs;I)I"⟩ yX1_slip cX1_slip 5 (some .int) 2 := ⟨⟨TX6, 10, rfl⟩, m_736, m_737, Or.inl m_459, m_738, m_461, m_100, m_462, by decide +kernel, by decide +kernel, by decide⟩
set_option maxRecDepth 100000 in
theorem m_735 : Cond.methodLink RX6 21 yX7_size ∈ WL := p_mt3 (i := 158) rfl rfl
set_option maxRecDepth 100000 in
theorem wv_X6_21 : MV RX6 21 6 yX7_size cX7_size 1 (some .int) 0 := ⟨⟨TX7, 2, rfl⟩, m_735, m_431, m_432, m_99, m_433, by decide +kernel, by decide +kernel, by decide⟩
set_option maxRecDepth 100000 in
theorem m_137 : Cond.methodLink RX7 3 objectInit ∈ WL := p_mt1 (i := 40) rfl rfl
set_option maxRecDepth 100000 in
theorem wo_X7_3 : MO RX7 3 := ⟨m_137, m_130, m_131⟩
set_option maxRecDepth 100000 in
theorem m_145 : Cond.arrayClass .char ∈ WL := p_mt1 (i := 48) rfl rfl
set_option maxRecDepth 100000 in
theorem m_325 : Cond.methodLink RX8 5 objectInit ∈ WL := p_mt1 (i := 228) rfl rfl
set_option maxRecDepth 100000 in
theorem wo_X8_5 : MO RX8 5 := ⟨m_325, m_130, m_131⟩
set_option maxRecDepth 100000 in
theorem m_800 : Cond.methodLink RX8 54 yX8_holds ∈ WL := p_mt3 (i := 223) rfl rfl
set_option maxRecDepth 100000 in
theorem wv_X8_54 : MV RX8 54 7 yX8_holds cX8_holds 3 (some .boolean) 2 := ⟨⟨TX8, 4, rfl⟩, m_800, m_756, m_757, m_108, m_758, by decide +kernel, by decide +kernel, by decide⟩
set_option maxRecDepth 100000 in
theorem m_863 : Cond.methodLink RX8 51 yX0_personSize ∈ WL := p_mt4 (i := 46) rfl rfl
set_option maxRecDepth 100000 in
theorem wv_X8_51 : MV RX8 51 0 yX0_personSize cX0_personSize 1 (some .int) 0 := ⟨⟨TX0, 12, rfl⟩, m_863, m_683, m_684, m_106, m_685, by decide +kernel, by decide +kernel, by decide⟩
set_option maxRecDepth 100000 in
theorem m_779 : Cond.methodLink RX8 78 yX8_stockOf ∈ WL := p_mt3 (i := 202) rfl rfl
set_option maxRecDepth 100000 in
theorem wv_X8_78 : MV RX8 78 7 yX8_stockOf cX8_stockOf 2 (some .int) 1 := ⟨⟨TX8, 4, rfl⟩, m_779, m_780, m_781, m_108, m_782, by decide +kernel, by decide +kernel, by decide⟩
set_option maxRecDepth 100000 in
theorem m_864 : Cond.methodLink RX8 89 yX8_wantsOf ∈ WL := p_mt4 (i := 47) rfl rfl
set_option maxRecDepth 100000 in
theorem wv_X8_89 : MV RX8 89 7 yX8_wantsOf cX8_wantsOf 4 (some .int) 1 := ⟨⟨TX8, 4, rfl⟩, m_864, m_865, m_866, m_108, m_867, by decide +kernel, by decide +kernel, by decide⟩
set_option maxRecDepth 100000 in
theorem m_801 : Cond.methodLink RX8 99 yX8_putStock ∈ WL := p_mt3 (i := 224) rfl rfl
set_option maxRecDepth 100000 in
theorem m_660 : Cond.instanceMethod yX8_putStock ∈ WL := p_mt3 (i := 83) rfl rfl
set_option maxRecDepth 100000 in
theorem m_661 : Cond.selects RX8 yX8_putStock yX8_putStock ∈ WL := p_mt3 (i := 84) rfl rfl
set_option maxRecDepth 100000 in
theorem m_662 : Cond.code yX8_putStock cX8_putStock 3 none ∈ WL := p_mt3 (i := 85) rfl rfl
set_option maxRecDepth 100000 in
theorem wv_X8_99 : MV RX8 99 7 yX8_putStock cX8_putStock 3 none 2 := ⟨⟨TX8, 4, rfl⟩, m_801, m_660, m_661, m_108, m_662, by decide +kernel, by decide +kernel, by decide⟩
set_option maxRecDepth 100000 in
theorem m_799 : Cond.methodLink RX8 96 yX0_hasGround ∈ WL := p_mt3 (i := 222) rfl rfl
set_option maxRecDepth 100000 in
theorem wv_X8_96 : MV RX8 96 0 yX0_hasGround cX0_hasGround 2 (some .boolean) 1 := ⟨⟨TX0, 12, rfl⟩, m_799, m_752, m_753, m_106, m_754, by decide +kernel, by decide +kernel, by decide⟩
set_option maxRecDepth 100000 in
theorem m_798 : Cond.methodLink RX8 92 yX0_hasPerson ∈ WL := p_mt3 (i := 221) rfl rfl
set_option maxRecDepth 100000 in
theorem wv_X8_92 : MV RX8 92 0 yX0_hasPerson cX0_hasPerson 2 (some .boolean) 1 := ⟨⟨TX0, 12, rfl⟩, m_798, m_748, m_749, m_106, m_750, by decide +kernel, by decide +kernel, by decide⟩
set_option maxRecDepth 100000 in
theorem m_839 : Cond.methodLink RX8 108 yX8_strip ∈ WL := p_mt4 (i := 22) rfl rfl
set_option maxRecDepth 100000 in
theorem wv_X8_108 : MV RX8 108 7 yX8_strip cX8_strip 3 none 2 := ⟨⟨TX8, 4, rfl⟩, m_839, m_840, m_841, m_108, m_842, by decide +kernel, by decide +kernel, by decide⟩
set_option maxRecDepth 100000 in
theorem m_1030 : Cond.methodLink RX8 115 yX8_pass ∈ WL := p_mt4 (i := 213) rfl rfl
set_option maxRecDepth 100000 in
theorem wv_X8_115 : MV RX8 115 7 yX8_pass cX8_pass 5 none 3 := ⟨⟨TX8, 4, rfl⟩, m_1030, m_983, m_984, m_108, m_985, by decide +kernel, by decide +kernel, by decide⟩
set_option maxRecDepth 100000 in
theorem m_179 : Cond.methodLink RX9 3 yX1_init ∈ WL := p_mt1 (i := 82) rfl rfl
set_option maxRecDepth 100000 in
theorem wi_X9_3 : MI RX9 3 yX1_init cX1_init 2 1 := ⟨rfl, m_179, m_152, m_100, m_153, by decide +kernel, by decide +kernel, by decide⟩
set_option maxRecDepth 100000 in
theorem m_199 : Cond.methodLink RX10 1 yX1_init ∈ WL := p_mt1 (i := 102) rfl rfl
set_option maxRecDepth 100000 in
theorem wi_X10_1 : MI RX10 1 yX1_init cX1_init 2 1 := ⟨rfl, m_199, m_152, m_100, m_153, by decide +kernel, by decide +kernel, by decide⟩
set_option maxRecDepth 100000 in
theorem m_129 : Cond.methodLink RX11 1 objectInit ∈ WL := p_mt1 (i := 32) rfl rfl
set_option maxRecDepth 100000 in
theorem wo_X11_1 : MO RX11 1 := ⟨m_129, m_130, m_131⟩
set_option maxRecDepth 100000 in
theorem m_132 : Cond.classLink RX11 7 RX7 ∈ WL := p_mt1 (i := 35) rfl rfl
set_option maxRecDepth 100000 in
theorem m_133 : Cond.instantiable RX7 2 ∈ WL := p_mt1 (i := 36) rfl rfl
set_option maxRecDepth 100000 in
theorem ww_X11_7 : MW RX11 7 6 2 [.null, .int 0] := ⟨RX7, TX7, tyX7, rfl, inW_X7, tyX7_ok, m_132, m_133, m_99, by decide +kernel, fun v hv a e => by rw [e] at hv; simp at hv⟩
set_option maxRecDepth 100000 in
theorem m_388 : Cond.fieldLink RX11 10 (TX11 0).1 (TX11 0).2.1 (TX11 0).2.2.1 ∈ WL := p_mt2 (i := 51) rfl rfl
set_option maxRecDepth 100000 in
theorem inW_X11 : ∀ w ∈ u_ws RX11 TX11 11, w ∈ WL := fun w hw => p_mem (of_decide_eq_true (List.all_eq_true.mp (show (u_ws RX11 TX11 11).all (fun w => decide (w ∈ lw_tbl)) = true by decide +kernel) w hw)) (List.all_eq_true.mp (show (u_ws RX11 TX11 11).all p_okw = true by decide +kernel) w hw)
set_option maxRecDepth 100000 in
theorem wf_X11_10_10 : FL RX11 10 10 0 (.object "ReasonsSupplied$Signs") true := ⟨RX11, TX11, 11, tyX11, rfl, inW_X11, by decide, m_388, nmX11, tyX11_ok, by decide +kernel, rfl, fun h => by first | rfl | cases h⟩
set_option maxRecDepth 100000 in
theorem m_146 : Cond.classLink RX11 16 RX2 ∈ WL := p_mt1 (i := 49) rfl rfl
set_option maxRecDepth 100000 in
theorem m_147 : Cond.instantiable RX2 6 ∈ WL := p_mt1 (i := 50) rfl rfl
set_option maxRecDepth 100000 in
theorem ww_X11_16 : MW RX11 16 1 6 [.int 0, .int 0, .int 0, .int 0, .int 0, .int 0] := ⟨RX2, TX2, tyX2, rfl, inW_X2, tyX2_ok, m_146, m_147, m_101, by decide +kernel, fun v hv a e => by rw [e] at hv; simp at hv⟩
set_option maxRecDepth 100000 in
theorem m_389 : Cond.fieldLink RX11 21 (TX11 1).1 (TX11 1).2.1 (TX11 1).2.2.1 ∈ WL := p_mt2 (i := 52) rfl rfl
set_option maxRecDepth 100000 in
theorem wf_X11_21_10 : FL RX11 21 10 1 (.object "ReasonsSupplied$LineForm") true := ⟨RX11, TX11, 11, tyX11, rfl, inW_X11, by decide, m_389, nmX11, tyX11_ok, by decide +kernel, rfl, fun h => by first | rfl | cases h⟩
set_option maxRecDepth 100000 in
theorem m_390 : Cond.fieldLink RX11 25 (TX11 2).1 (TX11 2).2.1 (TX11 2).2.2.1 ∈ WL := p_mt2 (i := 53) rfl rfl
set_option maxRecDepth 100000 in
theorem wf_X11_25_10 : FL RX11 25 10 2 (.object "ReasonsSupplied$LineForm") true := ⟨RX11, TX11, 11, tyX11, rfl, inW_X11, by decide, m_390, nmX11, tyX11_ok, by decide +kernel, rfl, fun h => by first | rfl | cases h⟩
set_option maxRecDepth 100000 in
theorem m_174 : Cond.classLink RX11 28 RX9 ∈ WL := p_mt1 (i := 77) rfl rfl
set_option maxRecDepth 100000 in
theorem m_175 : Cond.instantiable RX9 5 ∈ WL := p_mt1 (i := 78) rfl rfl
set_option maxRecDepth 100000 in
theorem ww_X11_28 : MW RX11 28 8 5 [.int 0, .int 0, .int 0, .int 0, .int 0] := ⟨RX9, TX9, tyX9, rfl, inW_X9, tyX9_ok, m_174, m_175, m_102, by decide +kernel, fun v hv a e => by rw [e] at hv; simp at hv⟩
set_option maxRecDepth 100000 in
theorem m_391 : Cond.fieldLink RX11 31 (TX11 3).1 (TX11 3).2.1 (TX11 3).2.2.1 ∈ WL := p_mt2 (i := 54) rfl rfl
set_option maxRecDepth 100000 in
theorem wf_X11_31_10 : FL RX11 31 10 3 (.object "ReasonsSupplied$WantForm") true := ⟨RX11, TX11, 11, tyX11, rfl, inW_X11, by decide, m_391, nmX11, tyX11_ok, by decide +kernel, rfl, fun h => by first | rfl | cases h⟩
set_option maxRecDepth 100000 in
theorem m_194 : Cond.classLink RX11 35 RX10 ∈ WL := p_mt1 (i := 97) rfl rfl
set_option maxRecDepth 100000 in
theorem m_195 : Cond.instantiable RX10 3 ∈ WL := p_mt1 (i := 98) rfl rfl
set_option maxRecDepth 100000 in
theorem ww_X11_35 : MW RX11 35 9 3 [.int 0, .int 0, .int 0] := ⟨RX10, TX10, tyX10, rfl, inW_X10, tyX10_ok, m_194, m_195, m_103, by decide +kernel, fun v hv a e => by rw [e] at hv; simp at hv⟩
set_option maxRecDepth 100000 in
theorem m_392 : Cond.fieldLink RX11 38 (TX11 4).1 (TX11 4).2.1 (TX11 4).2.2.1 ∈ WL := p_mt2 (i := 55) rfl rfl
set_option maxRecDepth 100000 in
theorem wf_X11_38_10 : FL RX11 38 10 4 (.object "ReasonsSupplied$YearForm") true := ⟨RX11, TX11, 11, tyX11, rfl, inW_X11, by decide, m_392, nmX11, tyX11_ok, by decide +kernel, rfl, fun h => by first | rfl | cases h⟩
set_option maxRecDepth 100000 in
theorem m_208 : Cond.classLink RX11 42 RX5 ∈ WL := p_mt1 (i := 111) rfl rfl
set_option maxRecDepth 100000 in
theorem m_209 : Cond.instantiable RX5 4 ∈ WL := p_mt1 (i := 112) rfl rfl
set_option maxRecDepth 100000 in
theorem m_104 : Cond.initialized RX5 ∈ WL := p_mt1 (i := 7) rfl rfl
set_option maxRecDepth 100000 in
theorem ww_X11_42 : MW RX11 42 4 4 [.null, .int 0, .int 0, .int 0] := ⟨RX5, TX5, tyX5, rfl, inW_X5, tyX5_ok, m_208, m_209, m_104, by decide +kernel, fun v hv a e => by rw [e] at hv; simp at hv⟩
set_option maxRecDepth 100000 in
theorem m_393 : Cond.fieldLink RX11 45 (TX11 5).1 (TX11 5).2.1 (TX11 5).2.2.1 ∈ WL := p_mt2 (i := 56) rfl rfl
set_option maxRecDepth 100000 in
theorem wf_X11_45_10 : FL RX11 45 10 5 (.object "ReasonsSupplied$Past") true := ⟨RX11, TX11, 11, tyX11, rfl, inW_X11, by decide, m_393, nmX11, tyX11_ok, by decide +kernel, rfl, fun h => by first | rfl | cases h⟩
set_option maxRecDepth 100000 in
theorem m_228 : Cond.classLink RX11 49 RX3 ∈ WL := p_mt1 (i := 131) rfl rfl
set_option maxRecDepth 100000 in
theorem m_229 : Cond.instantiable RX3 2 ∈ WL := p_mt1 (i := 132) rfl rfl
set_option maxRecDepth 100000 in
theorem ww_X11_49 : MW RX11 49 2 2 [.null, .int 0] := ⟨RX3, TX3, tyX3, rfl, inW_X3, tyX3_ok, m_228, m_229, m_105, by decide +kernel, fun v hv a e => by rw [e] at hv; simp at hv⟩
set_option maxRecDepth 100000 in
theorem m_242 : Cond.classLink RX11 52 RX0 ∈ WL := p_mt1 (i := 145) rfl rfl
set_option maxRecDepth 100000 in
theorem m_243 : Cond.instantiable RX0 12 ∈ WL := p_mt1 (i := 146) rfl rfl
set_option maxRecDepth 100000 in
theorem ww_X11_52 : MW RX11 52 0 12 [.null, .null, .null, .null, .null, .null, .null, .null, .null, .int 0, .int 0, .int 0] := ⟨RX0, TX0, tyX0, rfl, inW_X0, tyX0_ok, m_242, m_243, m_106, by decide +kernel, fun v hv a e => by rw [e] at hv; simp at hv⟩
set_option maxRecDepth 100000 in
theorem m_320 : Cond.classLink RX11 55 RX8 ∈ WL := p_mt1 (i := 223) rfl rfl
set_option maxRecDepth 100000 in
theorem m_321 : Cond.instantiable RX8 4 ∈ WL := p_mt1 (i := 224) rfl rfl
set_option maxRecDepth 100000 in
theorem ww_X11_55 : MW RX11 55 7 4 [.null, .null, .null, .null] := ⟨RX8, TX8, tyX8, rfl, inW_X8, tyX8_ok, m_320, m_321, m_108, by decide +kernel, fun v hv a e => by rw [e] at hv; simp at hv⟩
set_option maxRecDepth 100000 in
theorem m_339 : Cond.classLink RX11 60 RX4 ∈ WL := p_mt2 (i := 2) rfl rfl
set_option maxRecDepth 100000 in
theorem m_340 : Cond.instantiable RX4 14 ∈ WL := p_mt2 (i := 3) rfl rfl
set_option maxRecDepth 100000 in
theorem ww_X11_60 : MW RX11 60 3 14 [.null, .null, .null, .null, .null, .null, .null, .null, .null, .null, .null, .null, .null, .int 0] := ⟨RX4, TX4, tyX4, rfl, inW_X4, tyX4_ok, m_339, m_340, m_109, by decide +kernel, fun v hv a e => by rw [e] at hv; simp at hv⟩
set_option maxRecDepth 100000 in
theorem m_398 : Cond.fieldLink RX11 65 (TX11 10).1 (TX11 10).2.1 (TX11 10).2.2.1 ∈ WL := p_mt2 (i := 61) rfl rfl
set_option maxRecDepth 100000 in
theorem wf_X11_65_10 : FL RX11 65 10 10 (.object "ReasonsSupplied$Outlook") true := ⟨RX11, TX11, 11, tyX11, rfl, inW_X11, by decide, m_398, nmX11, tyX11_ok, by decide +kernel, rfl, fun h => by first | rfl | cases h⟩
set_option maxRecDepth 100000 in
theorem m_394 : Cond.fieldLink RX11 69 (TX11 6).1 (TX11 6).2.1 (TX11 6).2.2.1 ∈ WL := p_mt2 (i := 57) rfl rfl
set_option maxRecDepth 100000 in
theorem wf_X11_69_10 : FL RX11 69 10 6 (.object "ReasonsSupplied$Numbers") true := ⟨RX11, TX11, 11, tyX11, rfl, inW_X11, by decide, m_394, nmX11, tyX11_ok, by decide +kernel, rfl, fun h => by first | rfl | cases h⟩
set_option maxRecDepth 100000 in
theorem m_395 : Cond.fieldLink RX11 73 (TX11 7).1 (TX11 7).2.1 (TX11 7).2.2.1 ∈ WL := p_mt2 (i := 58) rfl rfl
set_option maxRecDepth 100000 in
theorem wf_X11_73_10 : FL RX11 73 10 7 (.object "ReasonsSupplied$Files") true := ⟨RX11, TX11, 11, tyX11, rfl, inW_X11, by decide, m_395, nmX11, tyX11_ok, by decide +kernel, rfl, fun h => by first | rfl | cases h⟩
set_option maxRecDepth 100000 in
theorem m_396 : Cond.fieldLink RX11 77 (TX11 8).1 (TX11 8).2.1 (TX11 8).2.2.1 ∈ WL := p_mt2 (i := 59) rfl rfl
set_option maxRecDepth 100000 in
theorem wf_X11_77_10 : FL RX11 77 10 8 (.object "ReasonsSupplied$Standing") true := ⟨RX11, TX11, 11, tyX11, rfl, inW_X11, by decide, m_396, nmX11, tyX11_ok, by decide +kernel, rfl, fun h => by first | rfl | cases h⟩
set_option maxRecDepth 100000 in
theorem m_397 : Cond.fieldLink RX11 81 (TX11 9).1 (TX11 9).2.1 (TX11 9).2.2.1 ∈ WL := p_mt2 (i := 60) rfl rfl
set_option maxRecDepth 100000 in
theorem wf_X11_81_10 : FL RX11 81 10 9 (.object "ReasonsSupplied$Standing") true := ⟨RX11, TX11, 11, tyX11, rfl, inW_X11, by decide, m_397, nmX11, tyX11_ok, by decide +kernel, rfl, fun h => by first | rfl | cases h⟩
set_option maxRecDepth 100000 in
theorem m_341 : Cond.methodLink RX11 62 yX4_init ∈ WL := p_mt2 (i := 4) rfl rfl
set_option maxRecDepth 100000 in
theorem m_342 : Cond.instanceMethod yX4_init ∈ WL := p_mt2 (i := 5) rfl rfl
set_option maxRecDepth 100000 in
theorem m_343 : Cond.code yX4_init cX4_init 5 none ∈ WL := p_mt2 (i := 6) rfl rfl
set_option maxRecDepth 100000 in
theorem wi_X11_62 : MI RX11 62 yX4_init cX4_init 5 4 := ⟨rfl, m_341, m_342, m_109, m_343, by decide +kernel, by decide +kernel, by decide⟩
set_option maxRecDepth 100000 in
theorem m_322 : Cond.methodLink RX11 57 yX8_init ∈ WL := p_mt1 (i := 225) rfl rfl
set_option maxRecDepth 100000 in
theorem m_323 : Cond.instanceMethod yX8_init ∈ WL := p_mt1 (i := 226) rfl rfl
set_option maxRecDepth 100000 in
theorem m_324 : Cond.code yX8_init cX8_init 3 none ∈ WL := p_mt1 (i := 227) rfl rfl
set_option maxRecDepth 100000 in
theorem wi_X11_57 : MI RX11 57 yX8_init cX8_init 3 1 := ⟨rfl, m_322, m_323, m_108, m_324, by decide +kernel, by decide +kernel, by decide⟩
set_option maxRecDepth 100000 in
theorem m_244 : Cond.methodLink RX11 54 yX0_init ∈ WL := p_mt1 (i := 147) rfl rfl
set_option maxRecDepth 100000 in
theorem m_245 : Cond.instanceMethod yX0_init ∈ WL := p_mt1 (i := 148) rfl rfl
set_option maxRecDepth 100000 in
theorem m_246 : Cond.code yX0_init cX0_init 1 none ∈ WL := p_mt1 (i := 149) rfl rfl
set_option maxRecDepth 100000 in
theorem wi_X11_54 : MI RX11 54 yX0_init cX0_init 1 0 := ⟨rfl, m_244, m_245, m_106, m_246, by decide +kernel, by decide +kernel, by decide⟩
set_option maxRecDepth 100000 in
theorem m_230 : Cond.methodLink RX11 51 yX3_init ∈ WL := p_mt1 (i := 133) rfl rfl
set_option maxRecDepth 100000 in
theorem m_231 : Cond.instanceMethod yX3_init ∈ WL := p_mt1 (i := 134) rfl rfl
set_option maxRecDepth 100000 in
theorem m_232 : Cond.code yX3_init cX3_init 1 none ∈ WL := p_mt1 (i := 135) rfl rfl
set_option maxRecDepth 100000 in
theorem wi_X11_51 : MI RX11 51 yX3_init cX3_init 1 0 := ⟨rfl, m_230, m_231, m_105, m_232, by decide +kernel, by decide +kernel, by decide⟩
set_option maxRecDepth 100000 in
theorem m_210 : Cond.methodLink RX11 44 yX5_init ∈ WL := p_mt1 (i := 113) rfl rfl
set_option maxRecDepth 100000 in
theorem m_211 : Cond.instanceMethod yX5_init ∈ WL := p_mt1 (i := 114) rfl rfl
set_option maxRecDepth 100000 in
theorem m_212 : Cond.code yX5_init cX5_init 1 none ∈ WL := p_mt1 (i := 115) rfl rfl
set_option maxRecDepth 100000 in
theorem wi_X11_44 : MI RX11 44 yX5_init cX5_init 1 0 := ⟨rfl, m_210, m_211, m_104, m_212, by decide +kernel, by decide +kernel, by decide⟩
set_option maxRecDepth 100000 in
theorem m_196 : Cond.methodLink RX11 37 yX10_init ∈ WL := p_mt1 (i := 99) rfl rfl
set_option maxRecDepth 100000 in
theorem m_197 : Cond.instanceMethod yX10_init ∈ WL := p_mt1 (i := 100) rfl rfl
set_option maxRecDepth 100000 in
theorem m_198 : Cond.code yX10_init cX10_init 1 none ∈ WL := p_mt1 (i := 101) rfl rfl
set_option maxRecDepth 100000 in
theorem wi_X11_37 : MI RX11 37 yX10_init cX10_init 1 0 := ⟨rfl, m_196, m_197, m_103, m_198, by decide +kernel, by decide +kernel, by decide⟩
set_option maxRecDepth 100000 in
theorem m_176 : Cond.methodLink RX11 30 yX9_init ∈ WL := p_mt1 (i := 79) rfl rfl
set_option maxRecDepth 100000 in
theorem m_177 : Cond.instanceMethod yX9_init ∈ WL := p_mt1 (i := 80) rfl rfl
set_option maxRecDepth 100000 in
theorem m_178 : Cond.code yX9_init cX9_init 1 none ∈ WL := p_mt1 (i := 81) rfl rfl
set_option maxRecDepth 100000 in
theorem wi_X11_30 : MI RX11 30 yX9_init cX9_init 1 0 := ⟨rfl, m_176, m_177, m_102, m_178, by decide +kernel, by decide +kernel, by decide⟩
set_option maxRecDepth 100000 in
theorem m_148 : Cond.methodLink RX11 18 yX2_init ∈ WL := p_mt1 (i := 51) rfl rfl
set_option maxRecDepth 100000 in
theorem m_149 : Cond.instanceMethod yX2_init ∈ WL := p_mt1 (i := 52) rfl rfl
set_option maxRecDepth 100000 in
theorem m_150 : Cond.code yX2_init cX2_init 4 none ∈ WL := p_mt1 (i := 53) rfl rfl
set_option maxRecDepth 100000 in
theorem wi_X11_18 : MI RX11 18 yX2_init cX2_init 4 3 := ⟨rfl, m_148, m_149, m_101, m_150, by decide +kernel, by decide +kernel, by decide⟩
set_option maxRecDepth 100000 in
theorem m_134 : Cond.methodLink RX11 9 yX7_init ∈ WL := p_mt1 (i := 37) rfl rfl
set_option maxRecDepth 100000 in
theorem m_135 : Cond.instanceMethod yX7_init ∈ WL := p_mt1 (i := 38) rfl rfl
set_option maxRecDepth 100000 in
theorem m_136 : Cond.code yX7_init cX7_init 1 none ∈ WL := p_mt1 (i := 39) rfl rfl
set_option maxRecDepth 100000 in
theorem wi_X11_9 : MI RX11 9 yX7_init cX7_init 1 0 := ⟨rfl, m_134, m_135, m_99, m_136, by decide +kernel, by decide +kernel, by decide⟩
set_option maxRecDepth 100000 in
theorem m_430 : Cond.methodLink RX11 88 yX7_size ∈ WL := p_mt2 (i := 93) rfl rfl
set_option maxRecDepth 100000 in
theorem wv_X11_88 : MV RX11 88 6 yX7_size cX7_size 1 (some .int) 0 := ⟨⟨TX7, 2, rfl⟩, m_430, m_431, m_432, m_99, m_433, by decide +kernel, by decide +kernel, by decide⟩
set_option maxRecDepth 100000 in
theorem m_426 : Cond.methodLink RX11 84 yX7_add ∈ WL := p_mt2 (i := 89) rfl rfl
set_option maxRecDepth 100000 in
theorem m_427 : Cond.instanceMethod yX7_add ∈ WL := p_mt2 (i := 90) rfl rfl
set_option maxRecDepth 100000 in
theorem m_428 : Cond.selects RX7 yX7_add yX7_add ∈ WL := p_mt2 (i := 91) rfl rfl
set_option maxRecDepth 100000 in
theorem m_429 : Cond.code yX7_add cX7_add 3 (some .boolean) ∈ WL := p_mt2 (i := 92) rfl rfl
set_option maxRecDepth 100000 in
theorem wv_X11_84 : MV RX11 84 6 yX7_add cX7_add 3 (some .boolean) 1 := ⟨⟨TX7, 2, rfl⟩, m_426, m_427, m_428, m_99, m_429, by decide +kernel, by decide +kernel, by decide⟩
set_option maxRecDepth 100000 in
theorem m_438 : Cond.methodLink RX11 92 yX7_cut ∈ WL := p_mt2 (i := 101) rfl rfl
set_option maxRecDepth 100000 in
theorem m_439 : Cond.instanceMethod yX7_cut ∈ WL := p_mt2 (i := 102) rfl rfl
set_option maxRecDepth 100000 in
theorem m_440 : Cond.selects RX7 yX7_cut yX7_cut ∈ WL := p_mt2 (i := 103) rfl rfl
set_option maxRecDepth 100000 in
theorem m_441 : Cond.code yX7_cut cX7_cut 2 (some .boolean) ∈ WL := p_mt2 (i := 104) rfl rfl
set_option maxRecDepth 100000 in
theorem wv_X11_92 : MV RX11 92 6 yX7_cut cX7_cut 2 (some .boolean) 1 := ⟨⟨TX7, 2, rfl⟩, m_438, m_439, m_440, m_99, m_441, by decide +kernel, by decide +kernel, by decide⟩
set_option maxRecDepth 100000 in
theorem m_663 : Cond.methodLink RX11 116 yX0_addGround ∈ WL := p_mt3 (i := 86) rfl rfl
set_option maxRecDepth 100000 in
theorem m_664 : Cond.instanceMethod yX0_addGround ∈ WL := p_mt3 (i := 87) rfl rfl
set_option maxRecDepth 100000 in
theorem m_665 : Cond.selects RX0 yX0_addGround yX0_addGround ∈ WL := p_mt3 (i := 88) rfl rfl
set_option maxRecDepth 100000 in
theorem m_666 : Cond.code yX0_addGround cX0_addGround 5 none ∈ WL := p_mt3 (i := 89) rfl rfl
set_option maxRecDepth 100000 in
theorem wv_X11_116 : MV RX11 116 0 yX0_addGround cX0_addGround 5 none 2 := ⟨⟨TX0, 12, rfl⟩, m_663, m_664, m_665, m_106, m_666, by decide +kernel, by decide +kernel, by decide⟩
set_option maxRecDepth 100000 in
theorem m_659 : Cond.methodLink RX11 112 yX8_putStock ∈ WL := p_mt3 (i := 82) rfl rfl
set_option maxRecDepth 100000 in
theorem wv_X11_112 : MV RX11 112 7 yX8_putStock cX8_putStock 3 none 2 := ⟨⟨TX8, 4, rfl⟩, m_659, m_660, m_661, m_108, m_662, by decide +kernel, by decide +kernel, by decide⟩
set_option maxRecDepth 100000 in
theorem m_654 : Cond.methodLink RX11 108 yX7_digitAt ∈ WL := p_mt3 (i := 77) rfl rfl
set_option maxRecDepth 100000 in
theorem wv_X11_108 : MV RX11 108 6 yX7_digitAt cX7_digitAt 2 (some .int) 1 := ⟨⟨TX7, 2, rfl⟩, m_654, m_655, m_656, m_99, m_657, by decide +kernel, by decide +kernel, by decide⟩
set_option maxRecDepth 100000 in
theorem m_453 : Cond.methodLink RX11 98 yX0_groundSize ∈ WL := p_mt2 (i := 116) rfl rfl
set_option maxRecDepth 100000 in
theorem wv_X11_98 : MV RX11 98 0 yX0_groundSize cX0_groundSize 1 (some .int) 0 := ⟨⟨TX0, 12, rfl⟩, m_453, m_454, m_455, m_106, m_456, by decide +kernel, by decide +kernel, by decide⟩
set_option maxRecDepth 100000 in
theorem m_669 : Cond.methodLink RX11 120 yX5_forgetAll ∈ WL := p_mt3 (i := 92) rfl rfl
set_option maxRecDepth 100000 in
theorem m_670 : Cond.instanceMethod yX5_forgetAll ∈ WL := p_mt3 (i := 93) rfl rfl
set_option maxRecDepth 100000 in
theorem m_671 : Cond.selects RX5 yX5_forgetAll yX5_forgetAll ∈ WL := p_mt3 (i := 94) rfl rfl
set_option maxRecDepth 100000 in
theorem m_672 : Cond.code yX5_forgetAll cX5_forgetAll 1 none ∈ WL := p_mt3 (i := 95) rfl rfl
set_option maxRecDepth 100000 in
theorem wv_X11_120 : MV RX11 120 4 yX5_forgetAll cX5_forgetAll 1 none 0 := ⟨⟨TX5, 4, rfl⟩, m_669, m_670, m_671, m_104, m_672, by decide +kernel, by decide +kernel, by decide⟩
set_option maxRecDepth 100000 in
theorem m_650 : Cond.methodLink RX11 105 yX2_lines ∈ WL := p_mt3 (i := 73) rfl rfl
set_option maxRecDepth 100000 in
theorem m_651 : Cond.instanceMethod yX2_lines ∈ WL := p_mt3 (i := 74) rfl rfl
set_option maxRecDepth 100000 in
theorem m_652 : Cond.selects RX2 yX2_lines yX2_lines ∈ WL := p_mt3 (i := 75) rfl rfl
set_option maxRecDepth 100000 in
theorem m_653 : Cond.code yX2_lines cX2_lines 1 (some .int) ∈ WL := p_mt3 (i := 76) rfl rfl
set_option maxRecDepth 100000 in
theorem wv_X11_105 : MV RX11 105 1 yX2_lines cX2_lines 1 (some .int) 0 := ⟨⟨TX2, 6, rfl⟩, m_650, m_651, m_652, m_101, m_653, by decide +kernel, by decide +kernel, by decide⟩
set_option maxRecDepth 100000 in
theorem m_457 : Cond.methodLink RX11 101 ⟨RX2, "slip", "(LReasonsSupplied$Signs;I)I"⟩ ∈ WL := p_mt2 (i := 120) rfl rfl
set_option maxRecDepth 100000 in
theorem m_458 : Cond.sameMethod RX2 RX1 "slip" "(LReasonsSupplied$Signs;I)I" ∈ WL := p_mt2 (i := 121) rfl rfl
set_option maxRecDepth 100000 in
theorem m_460 : Cond.selects RX2 ⟨RX2, "slip", "(LReasonsSupplied$Signs;I)I"⟩ yX1_slip ∈ WL := p_mt2 (i := 123) rfl rfl
set_option maxRecDepth 100000 in
theorem wu_X11_101_X2 : MU RX11 101 1 RX2 RX1 ⟨RX2, "slip", "(LReasonsSupplied$Signs;I)I"⟩ yX1_slip cX1_slip 5 (some .int) 2 := ⟨⟨TX2, 6, rfl⟩, m_457, m_458, Or.inl m_459, m_460, m_461, m_100, m_462, by decide +kernel, by decide +kernel, by decide⟩
set_option maxRecDepth 100000 in
theorem m_449 : Cond.methodLink RX11 95 yX11_readGrounds ∈ WL := p_mt2 (i := 112) rfl rfl
set_option maxRecDepth 100000 in
theorem m_451 : Cond.instanceMethod yX11_readGrounds ∈ WL := p_mt2 (i := 114) rfl rfl
set_option maxRecDepth 100000 in
theorem m_0 : Cond.selects RX11 yX11_readGrounds yX11_readGrounds ∈ WL := p_mt0 (i := 0) rfl rfl
set_option maxRecDepth 100000 in
theorem m_452 : Cond.code yX11_readGrounds cX11_readGrounds 5 (some .int) ∈ WL := p_mt2 (i := 115) rfl rfl
set_option maxRecDepth 100000 in
theorem wv_X11_95 : MV RX11 95 10 yX11_readGrounds cX11_readGrounds 5 (some .int) 0 := ⟨⟨TX11, 11, rfl⟩, m_449, m_451, m_0, m_98, m_452, by decide +kernel, by decide +kernel, by decide⟩
set_option maxRecDepth 100000 in
theorem m_686 : Cond.methodLink RX11 129 yX8_putHumour ∈ WL := p_mt3 (i := 109) rfl rfl
set_option maxRecDepth 100000 in
theorem wv_X11_129 : MV RX11 129 7 yX8_putHumour cX8_putHumour 4 none 3 := ⟨⟨TX8, 4, rfl⟩, m_686, m_687, m_688, m_108, m_689, by decide +kernel, by decide +kernel, by decide⟩
set_option maxRecDepth 100000 in
theorem m_682 : Cond.methodLink RX11 126 yX0_personSize ∈ WL := p_mt3 (i := 105) rfl rfl
set_option maxRecDepth 100000 in
theorem wv_X11_126 : MV RX11 126 0 yX0_personSize cX0_personSize 1 (some .int) 0 := ⟨⟨TX0, 12, rfl⟩, m_682, m_683, m_684, m_106, m_685, by decide +kernel, by decide +kernel, by decide⟩
set_option maxRecDepth 100000 in
theorem m_690 : Cond.methodLink RX11 132 yX0_addPerson ∈ WL := p_mt3 (i := 113) rfl rfl
set_option maxRecDepth 100000 in
theorem m_691 : Cond.instanceMethod yX0_addPerson ∈ WL := p_mt3 (i := 114) rfl rfl
set_option maxRecDepth 100000 in
theorem m_692 : Cond.selects RX0 yX0_addPerson yX0_addPerson ∈ WL := p_mt3 (i := 115) rfl rfl
set_option maxRecDepth 100000 in
theorem m_693 : Cond.code yX0_addPerson cX0_addPerson 2 none ∈ WL := p_mt3 (i := 116) rfl rfl
set_option maxRecDepth 100000 in
theorem wv_X11_132 : MV RX11 132 0 yX0_addPerson cX0_addPerson 2 none 1 := ⟨⟨TX0, 12, rfl⟩, m_690, m_691, m_692, m_106, m_693, by decide +kernel, by decide +kernel, by decide⟩
set_option maxRecDepth 100000 in
theorem m_678 : Cond.methodLink RX11 123 yX11_readPeople ∈ WL := p_mt3 (i := 101) rfl rfl
set_option maxRecDepth 100000 in
theorem m_680 : Cond.instanceMethod yX11_readPeople ∈ WL := p_mt3 (i := 103) rfl rfl
set_option maxRecDepth 100000 in
theorem m_9 : Cond.selects RX11 yX11_readPeople yX11_readPeople ∈ WL := p_mt0 (i := 9) rfl rfl
set_option maxRecDepth 100000 in
theorem m_681 : Cond.code yX11_readPeople cX11_readPeople 6 (some .int) ∈ WL := p_mt3 (i := 104) rfl rfl
set_option maxRecDepth 100000 in
theorem wv_X11_123 : MV RX11 123 10 yX11_readPeople cX11_readPeople 6 (some .int) 0 := ⟨⟨TX11, 11, rfl⟩, m_678, m_680, m_9, m_98, m_681, by decide +kernel, by decide +kernel, by decide⟩
set_option maxRecDepth 100000 in
theorem m_719 : Cond.methodLink RX11 147 yX9_lines ∈ WL := p_mt3 (i := 142) rfl rfl
set_option maxRecDepth 100000 in
theorem m_720 : Cond.instanceMethod yX9_lines ∈ WL := p_mt3 (i := 143) rfl rfl
set_option maxRecDepth 100000 in
theorem m_721 : Cond.selects RX9 yX9_lines yX9_lines ∈ WL := p_mt3 (i := 144) rfl rfl
set_option maxRecDepth 100000 in
theorem m_722 : Cond.code yX9_lines cX9_lines 1 (some .int) ∈ WL := p_mt3 (i := 145) rfl rfl
set_option maxRecDepth 100000 in
theorem wv_X11_147 : MV RX11 147 8 yX9_lines cX9_lines 1 (some .int) 0 := ⟨⟨TX9, 5, rfl⟩, m_719, m_720, m_721, m_102, m_722, by decide +kernel, by decide +kernel, by decide⟩
set_option maxRecDepth 100000 in
theorem m_709 : Cond.methodLink RX11 143 yX0_addWants ∈ WL := p_mt3 (i := 132) rfl rfl
set_option maxRecDepth 100000 in
theorem m_710 : Cond.instanceMethod yX0_addWants ∈ WL := p_mt3 (i := 133) rfl rfl
set_option maxRecDepth 100000 in
theorem m_711 : Cond.selects RX0 yX0_addWants yX0_addWants ∈ WL := p_mt3 (i := 134) rfl rfl
set_option maxRecDepth 100000 in
theorem m_712 : Cond.code yX0_addWants cX0_addWants 3 none ∈ WL := p_mt3 (i := 135) rfl rfl
set_option maxRecDepth 100000 in
theorem wv_X11_143 : MV RX11 143 0 yX0_addWants cX0_addWants 3 none 1 := ⟨⟨TX0, 12, rfl⟩, m_709, m_710, m_711, m_106, m_712, by decide +kernel, by decide +kernel, by decide⟩
set_option maxRecDepth 100000 in
theorem m_706 : Cond.methodLink RX11 142 ⟨RX9, "slip", "(LReasonsSupplied$Signs;I)I"⟩ ∈ WL := p_mt3 (i := 129) rfl rfl
set_option maxRecDepth 100000 in
theorem m_707 : Cond.sameMethod RX9 RX1 "slip" "(LReasonsSupplied$Signs;I)I" ∈ WL := p_mt3 (i := 130) rfl rfl
set_option maxRecDepth 100000 in
theorem m_708 : Cond.selects RX9 ⟨RX9, "slip", "(LReasonsSupplied$Signs;I)I"⟩ yX1_slip ∈ WL := p_mt3 (i := 131) rfl rfl
set_option maxRecDepth 100000 in
theorem wu_X11_142_X9 : MU RX11 142 8 RX9 RX1 ⟨RX9, "slip", "(LReasonsSupplied$Signs;I)I"⟩ yX1_slip cX1_slip 5 (some .int) 2 := ⟨⟨TX9, 5, rfl⟩, m_706, m_707, Or.inl m_459, m_708, m_461, m_100, m_462, by decide +kernel, by decide +kernel, by decide⟩
set_option maxRecDepth 100000 in
theorem m_702 : Cond.methodLink RX11 139 yX0_wantSize ∈ WL := p_mt3 (i := 125) rfl rfl
set_option maxRecDepth 100000 in
theorem wv_X11_139 : MV RX11 139 0 yX0_wantSize cX0_wantSize 1 (some .int) 0 := ⟨⟨TX0, 12, rfl⟩, m_702, m_703, m_704, m_106, m_705, by decide +kernel, by decide +kernel, by decide⟩
set_option maxRecDepth 100000 in
theorem m_698 : Cond.methodLink RX11 136 yX11_readWants ∈ WL := p_mt3 (i := 121) rfl rfl
set_option maxRecDepth 100000 in
theorem m_700 : Cond.instanceMethod yX11_readWants ∈ WL := p_mt3 (i := 123) rfl rfl
set_option maxRecDepth 100000 in
theorem m_10 : Cond.selects RX11 yX11_readWants yX11_readWants ∈ WL := p_mt0 (i := 10) rfl rfl
set_option maxRecDepth 100000 in
theorem m_701 : Cond.code yX11_readWants cX11_readWants 2 (some .int) ∈ WL := p_mt3 (i := 124) rfl rfl
set_option maxRecDepth 100000 in
theorem wv_X11_136 : MV RX11 136 10 yX11_readWants cX11_readWants 2 (some .int) 0 := ⟨⟨TX11, 11, rfl⟩, m_698, m_700, m_10, m_98, m_701, by decide +kernel, by decide +kernel, by decide⟩
set_option maxRecDepth 100000 in
theorem m_739 : Cond.methodLink RX11 158 yX0_takeOtherRule ∈ WL := p_mt3 (i := 162) rfl rfl
set_option maxRecDepth 100000 in
theorem m_740 : Cond.instanceMethod yX0_takeOtherRule ∈ WL := p_mt3 (i := 163) rfl rfl
set_option maxRecDepth 100000 in
theorem m_741 : Cond.selects RX0 yX0_takeOtherRule yX0_takeOtherRule ∈ WL := p_mt3 (i := 164) rfl rfl
set_option maxRecDepth 100000 in
theorem m_742 : Cond.code yX0_takeOtherRule cX0_takeOtherRule 2 none ∈ WL := p_mt3 (i := 165) rfl rfl
set_option maxRecDepth 100000 in
theorem wv_X11_158 : MV RX11 158 0 yX0_takeOtherRule cX0_takeOtherRule 2 none 0 := ⟨⟨TX0, 12, rfl⟩, m_739, m_740, m_741, m_106, m_742, by decide +kernel, by decide +kernel, by decide⟩
set_option maxRecDepth 100000 in
theorem m_731 : Cond.methodLink RX11 152 yX6_read ∈ WL := p_mt3 (i := 154) rfl rfl
set_option maxRecDepth 100000 in
theorem m_732 : Cond.instanceMethod yX6_read ∈ WL := p_mt3 (i := 155) rfl rfl
set_option maxRecDepth 100000 in
theorem m_733 : Cond.selects RX6 yX6_read yX6_read ∈ WL := p_mt3 (i := 156) rfl rfl
set_option maxRecDepth 100000 in
theorem m_734 : Cond.code yX6_read cX6_read 3 (some .int) ∈ WL := p_mt3 (i := 157) rfl rfl
set_option maxRecDepth 100000 in
theorem wv_X11_152 : MV RX11 152 5 yX6_read cX6_read 3 (some .int) 1 := ⟨⟨TX6, 10, rfl⟩, m_731, m_732, m_733, m_107, m_734, by decide +kernel, by decide +kernel, by decide⟩
set_option maxRecDepth 100000 in
theorem m_727 : Cond.methodLink RX11 148 yX0_otherRule ∈ WL := p_mt3 (i := 150) rfl rfl
set_option maxRecDepth 100000 in
theorem m_728 : Cond.instanceMethod yX0_otherRule ∈ WL := p_mt3 (i := 151) rfl rfl
set_option maxRecDepth 100000 in
theorem m_729 : Cond.selects RX0 yX0_otherRule yX0_otherRule ∈ WL := p_mt3 (i := 152) rfl rfl
set_option maxRecDepth 100000 in
theorem m_730 : Cond.code yX0_otherRule cX0_otherRule 1 (some (.object "ReasonsSupplied$Rule")) ∈ WL := p_mt3 (i := 153) rfl rfl
set_option maxRecDepth 100000 in
theorem wv_X11_148 : MV RX11 148 0 yX0_otherRule cX0_otherRule 1 (some (.object "ReasonsSupplied$Rule")) 0 := ⟨⟨TX0, 12, rfl⟩, m_727, m_728, m_729, m_106, m_730, by decide +kernel, by decide +kernel, by decide⟩
set_option maxRecDepth 100000 in
theorem m_1398 : Cond.methodLink RX11 180 yX0_pullOf ∈ WL := p_mt6 (i := 101) rfl rfl
set_option maxRecDepth 100000 in
theorem wv_X11_180 : MV RX11 180 0 yX0_pullOf cX0_pullOf 3 (some .int) 2 := ⟨⟨TX0, 12, rfl⟩, m_1398, m_917, m_918, m_106, m_919, by decide +kernel, by decide +kernel, by decide⟩
set_option maxRecDepth 100000 in
theorem m_1394 : Cond.methodLink RX11 177 yX8_holdersOf ∈ WL := p_mt6 (i := 97) rfl rfl
set_option maxRecDepth 100000 in
theorem m_1395 : Cond.instanceMethod yX8_holdersOf ∈ WL := p_mt6 (i := 98) rfl rfl
set_option maxRecDepth 100000 in
theorem m_1396 : Cond.selects RX8 yX8_holdersOf yX8_holdersOf ∈ WL := p_mt6 (i := 99) rfl rfl
set_option maxRecDepth 100000 in
theorem m_1397 : Cond.code yX8_holdersOf cX8_holdersOf 4 (some .int) ∈ WL := p_mt6 (i := 100) rfl rfl
set_option maxRecDepth 100000 in
theorem wv_X11_177 : MV RX11 177 7 yX8_holdersOf cX8_holdersOf 4 (some .int) 1 := ⟨⟨TX8, 4, rfl⟩, m_1394, m_1395, m_1396, m_108, m_1397, by decide +kernel, by decide +kernel, by decide⟩
set_option maxRecDepth 100000 in
theorem m_1249 : Cond.methodLink RX11 174 yX8_stockOf ∈ WL := p_mt5 (i := 192) rfl rfl
set_option maxRecDepth 100000 in
theorem wv_X11_174 : MV RX11 174 7 yX8_stockOf cX8_stockOf 2 (some .int) 1 := ⟨⟨TX8, 4, rfl⟩, m_1249, m_780, m_781, m_108, m_782, by decide +kernel, by decide +kernel, by decide⟩
set_option maxRecDepth 100000 in
theorem m_1393 : Cond.methodLink RX11 171 yX0_gradeOf ∈ WL := p_mt6 (i := 96) rfl rfl
set_option maxRecDepth 100000 in
theorem wv_X11_171 : MV RX11 171 0 yX0_gradeOf cX0_gradeOf 2 (some .int) 1 := ⟨⟨TX0, 12, rfl⟩, m_1393, m_912, m_913, m_106, m_914, by decide +kernel, by decide +kernel, by decide⟩
set_option maxRecDepth 100000 in
theorem m_751 : Cond.methodLink RX11 161 yX0_hasGround ∈ WL := p_mt3 (i := 174) rfl rfl
set_option maxRecDepth 100000 in
theorem wv_X11_161 : MV RX11 161 0 yX0_hasGround cX0_hasGround 2 (some .boolean) 1 := ⟨⟨TX0, 12, rfl⟩, m_751, m_752, m_753, m_106, m_754, by decide +kernel, by decide +kernel, by decide⟩
set_option maxRecDepth 100000 in
theorem m_990 : Cond.methodLink RX11 196 yX8_humourOf ∈ WL := p_mt4 (i := 173) rfl rfl
set_option maxRecDepth 100000 in
theorem wv_X11_196 : MV RX11 196 7 yX8_humourOf cX8_humourOf 4 (some .int) 2 := ⟨⟨TX8, 4, rfl⟩, m_990, m_886, m_887, m_108, m_888, by decide +kernel, by decide +kernel, by decide⟩
set_option maxRecDepth 100000 in
theorem m_991 : Cond.methodLink RX11 193 yX8_wantsOf ∈ WL := p_mt4 (i := 174) rfl rfl
set_option maxRecDepth 100000 in
theorem wv_X11_193 : MV RX11 193 7 yX8_wantsOf cX8_wantsOf 4 (some .int) 1 := ⟨⟨TX8, 4, rfl⟩, m_991, m_865, m_866, m_108, m_867, by decide +kernel, by decide +kernel, by decide⟩
set_option maxRecDepth 100000 in
theorem m_1407 : Cond.methodLink RX11 190 yX8_groundsOf ∈ WL := p_mt6 (i := 110) rfl rfl
set_option maxRecDepth 100000 in
theorem wv_X11_190 : MV RX11 190 7 yX8_groundsOf cX8_groundsOf 4 (some .int) 1 := ⟨⟨TX8, 4, rfl⟩, m_1407, m_808, m_809, m_108, m_810, by decide +kernel, by decide +kernel, by decide⟩
set_option maxRecDepth 100000 in
theorem m_1406 : Cond.methodLink RX11 187 yX0_strengthOf ∈ WL := p_mt6 (i := 109) rfl rfl
set_option maxRecDepth 100000 in
theorem wv_X11_187 : MV RX11 187 0 yX0_strengthOf cX0_strengthOf 2 (some .int) 1 := ⟨⟨TX0, 12, rfl⟩, m_1406, m_899, m_900, m_106, m_901, by decide +kernel, by decide +kernel, by decide⟩
set_option maxRecDepth 100000 in
theorem m_747 : Cond.methodLink RX11 184 yX0_hasPerson ∈ WL := p_mt3 (i := 170) rfl rfl
set_option maxRecDepth 100000 in
theorem wv_X11_184 : MV RX11 184 0 yX0_hasPerson cX0_hasPerson 2 (some .boolean) 1 := ⟨⟨TX0, 12, rfl⟩, m_747, m_748, m_749, m_106, m_750, by decide +kernel, by decide +kernel, by decide⟩
set_option maxRecDepth 100000 in
theorem m_763 : Cond.methodLink RX11 203 yX8_daysHeld ∈ WL := p_mt3 (i := 186) rfl rfl
set_option maxRecDepth 100000 in
theorem wv_X11_203 : MV RX11 203 7 yX8_daysHeld cX8_daysHeld 4 (some .int) 2 := ⟨⟨TX8, 4, rfl⟩, m_763, m_760, m_761, m_108, m_762, by decide +kernel, by decide +kernel, by decide⟩
set_option maxRecDepth 100000 in
theorem m_755 : Cond.methodLink RX11 199 yX8_holds ∈ WL := p_mt3 (i := 178) rfl rfl
set_option maxRecDepth 100000 in
theorem wv_X11_199 : MV RX11 199 7 yX8_holds cX8_holds 3 (some .boolean) 2 := ⟨⟨TX8, 4, rfl⟩, m_755, m_756, m_757, m_108, m_758, by decide +kernel, by decide +kernel, by decide⟩
set_option maxRecDepth 100000 in
theorem m_771 : Cond.methodLink RX11 209 yX11_clamp ∈ WL := p_mt3 (i := 194) rfl rfl
set_option maxRecDepth 100000 in
theorem ws_X11_209 : MS RX11 209 yX11_clamp cX11_clamp 3 (some .int) 3 := ⟨m_771, m_772, m_98, m_773, by decide +kernel, by decide +kernel, by decide⟩
set_option maxRecDepth 100000 in
theorem m_768 : Cond.methodLink RX11 206 yX11_narrowed ∈ WL := p_mt3 (i := 191) rfl rfl
set_option maxRecDepth 100000 in
theorem m_769 : Cond.static yX11_narrowed ∈ WL := p_mt3 (i := 192) rfl rfl
set_option maxRecDepth 100000 in
theorem m_770 : Cond.code yX11_narrowed cX11_narrowed 2 (some .int) ∈ WL := p_mt3 (i := 193) rfl rfl
set_option maxRecDepth 100000 in
theorem ws_X11_206 : MS RX11 206 yX11_narrowed cX11_narrowed 2 (some .int) 2 := ⟨m_768, m_769, m_98, m_770, by decide +kernel, by decide +kernel, by decide⟩
set_option maxRecDepth 100000 in
theorem m_774 : Cond.methodLink RX11 213 yX8_stockOfAll ∈ WL := p_mt3 (i := 197) rfl rfl
set_option maxRecDepth 100000 in
theorem m_775 : Cond.instanceMethod yX8_stockOfAll ∈ WL := p_mt3 (i := 198) rfl rfl
set_option maxRecDepth 100000 in
theorem m_776 : Cond.selects RX8 yX8_stockOfAll yX8_stockOfAll ∈ WL := p_mt3 (i := 199) rfl rfl
set_option maxRecDepth 100000 in
theorem m_777 : Cond.code yX8_stockOfAll cX8_stockOfAll 3 (some .int) ∈ WL := p_mt3 (i := 200) rfl rfl
set_option maxRecDepth 100000 in
theorem wv_X11_213 : MV RX11 213 7 yX8_stockOfAll cX8_stockOfAll 3 (some .int) 0 := ⟨⟨TX8, 4, rfl⟩, m_774, m_775, m_776, m_108, m_777, by decide +kernel, by decide +kernel, by decide⟩
set_option maxRecDepth 100000 in
theorem m_821 : Cond.methodLink RX11 232 yX5_remember ∈ WL := p_mt4 (i := 4) rfl rfl
set_option maxRecDepth 100000 in
theorem m_822 : Cond.instanceMethod yX5_remember ∈ WL := p_mt4 (i := 5) rfl rfl
set_option maxRecDepth 100000 in
theorem m_823 : Cond.selects RX5 yX5_remember yX5_remember ∈ WL := p_mt4 (i := 6) rfl rfl
set_option maxRecDepth 100000 in
theorem m_824 : Cond.code yX5_remember cX5_remember 2 none ∈ WL := p_mt4 (i := 7) rfl rfl
set_option maxRecDepth 100000 in
theorem wv_X11_232 : MV RX11 232 4 yX5_remember cX5_remember 2 none 1 := ⟨⟨TX5, 4, rfl⟩, m_821, m_822, m_823, m_104, m_824, by decide +kernel, by decide +kernel, by decide⟩
set_option maxRecDepth 100000 in
theorem m_817 : Cond.methodLink RX11 223 yX11_rememberedIfDone ∈ WL := p_mt4 (i := 0) rfl rfl
set_option maxRecDepth 100000 in
theorem m_819 : Cond.instanceMethod yX11_rememberedIfDone ∈ WL := p_mt4 (i := 2) rfl rfl
set_option maxRecDepth 100000 in
theorem m_13 : Cond.selects RX11 yX11_rememberedIfDone yX11_rememberedIfDone ∈ WL := p_mt0 (i := 13) rfl rfl
set_option maxRecDepth 100000 in
theorem m_820 : Cond.code yX11_rememberedIfDone cX11_rememberedIfDone 2 (some .int) ∈ WL := p_mt4 (i := 3) rfl rfl
set_option maxRecDepth 100000 in
theorem wv_X11_223 : MV RX11 223 10 yX11_rememberedIfDone cX11_rememberedIfDone 2 (some .int) 1 := ⟨⟨TX11, 11, rfl⟩, m_817, m_819, m_13, m_98, m_820, by decide +kernel, by decide +kernel, by decide⟩
set_option maxRecDepth 100000 in
theorem m_794 : Cond.methodLink RX11 220 yX8_give ∈ WL := p_mt3 (i := 217) rfl rfl
set_option maxRecDepth 100000 in
theorem m_795 : Cond.instanceMethod yX8_give ∈ WL := p_mt3 (i := 218) rfl rfl
set_option maxRecDepth 100000 in
theorem m_796 : Cond.selects RX8 yX8_give yX8_give ∈ WL := p_mt3 (i := 219) rfl rfl
set_option maxRecDepth 100000 in
theorem m_797 : Cond.code yX8_give cX8_give 3 (some .int) ∈ WL := p_mt3 (i := 220) rfl rfl
set_option maxRecDepth 100000 in
theorem wv_X11_220 : MV RX11 220 7 yX8_give cX8_give 3 (some .int) 2 := ⟨⟨TX8, 4, rfl⟩, m_794, m_795, m_796, m_108, m_797, by decide +kernel, by decide +kernel, by decide⟩
set_option maxRecDepth 100000 in
theorem m_787 : Cond.methodLink RX11 216 yX8_copy ∈ WL := p_mt3 (i := 210) rfl rfl
set_option maxRecDepth 100000 in
theorem wv_X11_216 : MV RX11 216 7 yX8_copy cX8_copy 2 none 1 := ⟨⟨TX8, 4, rfl⟩, m_787, m_788, m_789, m_108, m_790, by decide +kernel, by decide +kernel, by decide⟩
set_option maxRecDepth 100000 in
theorem m_835 : Cond.methodLink RX11 226 yX8_takeBack ∈ WL := p_mt4 (i := 18) rfl rfl
set_option maxRecDepth 100000 in
theorem m_836 : Cond.instanceMethod yX8_takeBack ∈ WL := p_mt4 (i := 19) rfl rfl
set_option maxRecDepth 100000 in
theorem m_837 : Cond.selects RX8 yX8_takeBack yX8_takeBack ∈ WL := p_mt4 (i := 20) rfl rfl
set_option maxRecDepth 100000 in
theorem m_838 : Cond.code yX8_takeBack cX8_takeBack 3 (some .int) ∈ WL := p_mt4 (i := 21) rfl rfl
set_option maxRecDepth 100000 in
theorem wv_X11_226 : MV RX11 226 7 yX8_takeBack cX8_takeBack 3 (some .int) 2 := ⟨⟨TX8, 4, rfl⟩, m_835, m_836, m_837, m_108, m_838, by decide +kernel, by decide +kernel, by decide⟩
set_option maxRecDepth 100000 in
theorem m_847 : Cond.methodLink RX11 229 yX8_make ∈ WL := p_mt4 (i := 30) rfl rfl
set_option maxRecDepth 100000 in
theorem m_848 : Cond.instanceMethod yX8_make ∈ WL := p_mt4 (i := 31) rfl rfl
set_option maxRecDepth 100000 in
theorem m_849 : Cond.selects RX8 yX8_make yX8_make ∈ WL := p_mt4 (i := 32) rfl rfl
set_option maxRecDepth 100000 in
theorem m_850 : Cond.code yX8_make cX8_make 3 (some .int) ∈ WL := p_mt4 (i := 33) rfl rfl
set_option maxRecDepth 100000 in
theorem wv_X11_229 : MV RX11 229 7 yX8_make cX8_make 3 (some .int) 2 := ⟨⟨TX8, 4, rfl⟩, m_847, m_848, m_849, m_108, m_850, by decide +kernel, by decide +kernel, by decide⟩
set_option maxRecDepth 100000 in
theorem m_942 : Cond.methodLink RX11 251 yX8_wantsOfAll ∈ WL := p_mt4 (i := 125) rfl rfl
set_option maxRecDepth 100000 in
theorem m_943 : Cond.instanceMethod yX8_wantsOfAll ∈ WL := p_mt4 (i := 126) rfl rfl
set_option maxRecDepth 100000 in
theorem m_944 : Cond.selects RX8 yX8_wantsOfAll yX8_wantsOfAll ∈ WL := p_mt4 (i := 127) rfl rfl
set_option maxRecDepth 100000 in
theorem m_945 : Cond.code yX8_wantsOfAll cX8_wantsOfAll 3 (some .int) ∈ WL := p_mt4 (i := 128) rfl rfl
set_option maxRecDepth 100000 in
theorem wv_X11_251 : MV RX11 251 7 yX8_wantsOfAll cX8_wantsOfAll 3 (some .int) 0 := ⟨⟨TX8, 4, rfl⟩, m_942, m_943, m_944, m_108, m_945, by decide +kernel, by decide +kernel, by decide⟩
set_option maxRecDepth 100000 in
theorem m_938 : Cond.methodLink RX11 248 yX3_add ∈ WL := p_mt4 (i := 121) rfl rfl
set_option maxRecDepth 100000 in
theorem wv_X11_248 : MV RX11 248 2 yX3_add cX3_add 3 none 1 := ⟨⟨TX3, 2, rfl⟩, m_938, m_939, m_940, m_105, m_941, by decide +kernel, by decide +kernel, by decide⟩
set_option maxRecDepth 100000 in
theorem m_934 : Cond.methodLink RX11 245 yX8_humoursOfAll ∈ WL := p_mt4 (i := 117) rfl rfl
set_option maxRecDepth 100000 in
theorem m_935 : Cond.instanceMethod yX8_humoursOfAll ∈ WL := p_mt4 (i := 118) rfl rfl
set_option maxRecDepth 100000 in
theorem m_936 : Cond.selects RX8 yX8_humoursOfAll yX8_humoursOfAll ∈ WL := p_mt4 (i := 119) rfl rfl
set_option maxRecDepth 100000 in
theorem m_937 : Cond.code yX8_humoursOfAll cX8_humoursOfAll 4 (some .int) ∈ WL := p_mt4 (i := 120) rfl rfl
set_option maxRecDepth 100000 in
theorem wv_X11_245 : MV RX11 245 7 yX8_humoursOfAll cX8_humoursOfAll 4 (some .int) 0 := ⟨⟨TX8, 4, rfl⟩, m_934, m_935, m_936, m_108, m_937, by decide +kernel, by decide +kernel, by decide⟩
set_option maxRecDepth 100000 in
theorem m_930 : Cond.methodLink RX11 242 yX3_start ∈ WL := p_mt4 (i := 113) rfl rfl
set_option maxRecDepth 100000 in
theorem wv_X11_242 : MV RX11 242 2 yX3_start cX3_start 1 none 0 := ⟨⟨TX3, 2, rfl⟩, m_930, m_931, m_932, m_105, m_933, by decide +kernel, by decide +kernel, by decide⟩
set_option maxRecDepth 100000 in
theorem m_859 : Cond.methodLink RX11 238 yX8_spend ∈ WL := p_mt4 (i := 42) rfl rfl
set_option maxRecDepth 100000 in
theorem m_860 : Cond.instanceMethod yX8_spend ∈ WL := p_mt4 (i := 43) rfl rfl
set_option maxRecDepth 100000 in
theorem m_861 : Cond.selects RX8 yX8_spend yX8_spend ∈ WL := p_mt4 (i := 44) rfl rfl
set_option maxRecDepth 100000 in
theorem m_862 : Cond.code yX8_spend cX8_spend 9 (some .int) ∈ WL := p_mt4 (i := 45) rfl rfl
set_option maxRecDepth 100000 in
theorem wv_X11_238 : MV RX11 238 7 yX8_spend cX8_spend 9 (some .int) 2 := ⟨⟨TX8, 4, rfl⟩, m_859, m_860, m_861, m_108, m_862, by decide +kernel, by decide +kernel, by decide⟩
set_option maxRecDepth 100000 in
theorem m_855 : Cond.methodLink RX11 235 yX0_presentRule ∈ WL := p_mt4 (i := 38) rfl rfl
set_option maxRecDepth 100000 in
theorem wv_X11_235 : MV RX11 235 0 yX0_presentRule cX0_presentRule 1 (some (.object "ReasonsSupplied$Rule")) 0 := ⟨⟨TX0, 12, rfl⟩, m_855, m_856, m_857, m_106, m_858, by decide +kernel, by decide +kernel, by decide⟩
set_option maxRecDepth 100000 in
theorem m_961 : Cond.methodLink RX11 261 yX7_at ∈ WL := p_mt4 (i := 144) rfl rfl
set_option maxRecDepth 100000 in
theorem wv_X11_261 : MV RX11 261 6 yX7_at cX7_at 2 (some .int) 1 := ⟨⟨TX7, 2, rfl⟩, m_961, m_480, m_481, m_99, m_482, by decide +kernel, by decide +kernel, by decide⟩
set_option maxRecDepth 100000 in
theorem m_957 : Cond.methodLink RX11 258 yX11_act ∈ WL := p_mt4 (i := 140) rfl rfl
set_option maxRecDepth 100000 in
theorem m_959 : Cond.instanceMethod yX11_act ∈ WL := p_mt4 (i := 142) rfl rfl
set_option maxRecDepth 100000 in
theorem m_18 : Cond.selects RX11 yX11_act yX11_act ∈ WL := p_mt0 (i := 18) rfl rfl
set_option maxRecDepth 100000 in
theorem m_960 : Cond.code yX11_act cX11_act 4 (some .int) ∈ WL := p_mt4 (i := 143) rfl rfl
set_option maxRecDepth 100000 in
theorem wv_X11_258 : MV RX11 258 10 yX11_act cX11_act 4 (some .int) 1 := ⟨⟨TX11, 11, rfl⟩, m_957, m_959, m_18, m_98, m_960, by decide +kernel, by decide +kernel, by decide⟩
set_option maxRecDepth 100000 in
theorem m_954 : Cond.methodLink RX11 257 ⟨RX10, "slip", "(LReasonsSupplied$Signs;I)I"⟩ ∈ WL := p_mt4 (i := 137) rfl rfl
set_option maxRecDepth 100000 in
theorem m_955 : Cond.sameMethod RX10 RX1 "slip" "(LReasonsSupplied$Signs;I)I" ∈ WL := p_mt4 (i := 138) rfl rfl
set_option maxRecDepth 100000 in
theorem m_956 : Cond.selects RX10 ⟨RX10, "slip", "(LReasonsSupplied$Signs;I)I"⟩ yX1_slip ∈ WL := p_mt4 (i := 139) rfl rfl
set_option maxRecDepth 100000 in
theorem wu_X11_257_X10 : MU RX11 257 9 RX10 RX1 ⟨RX10, "slip", "(LReasonsSupplied$Signs;I)I"⟩ yX1_slip cX1_slip 5 (some .int) 2 := ⟨⟨TX10, 3, rfl⟩, m_954, m_955, Or.inl m_459, m_956, m_461, m_100, m_462, by decide +kernel, by decide +kernel, by decide⟩
set_option maxRecDepth 100000 in
theorem m_950 : Cond.methodLink RX11 254 yX11_readYear ∈ WL := p_mt4 (i := 133) rfl rfl
set_option maxRecDepth 100000 in
theorem m_952 : Cond.instanceMethod yX11_readYear ∈ WL := p_mt4 (i := 135) rfl rfl
set_option maxRecDepth 100000 in
theorem m_17 : Cond.selects RX11 yX11_readYear yX11_readYear ∈ WL := p_mt0 (i := 17) rfl rfl
set_option maxRecDepth 100000 in
theorem m_953 : Cond.code yX11_readYear cX11_readYear 5 (some .int) ∈ WL := p_mt4 (i := 136) rfl rfl
set_option maxRecDepth 100000 in
theorem wv_X11_254 : MV RX11 254 10 yX11_readYear cX11_readYear 5 (some .int) 0 := ⟨⟨TX11, 11, rfl⟩, m_950, m_952, m_17, m_98, m_953, by decide +kernel, by decide +kernel, by decide⟩
set_option maxRecDepth 100000 in
theorem m_974 : Cond.methodLink RX11 268 yX5_size ∈ WL := p_mt4 (i := 157) rfl rfl
set_option maxRecDepth 100000 in
theorem m_975 : Cond.instanceMethod yX5_size ∈ WL := p_mt4 (i := 158) rfl rfl
set_option maxRecDepth 100000 in
theorem m_976 : Cond.selects RX5 yX5_size yX5_size ∈ WL := p_mt4 (i := 159) rfl rfl
set_option maxRecDepth 100000 in
theorem m_977 : Cond.code yX5_size cX5_size 1 (some .int) ∈ WL := p_mt4 (i := 160) rfl rfl
set_option maxRecDepth 100000 in
theorem wv_X11_268 : MV RX11 268 4 yX5_size cX5_size 1 (some .int) 0 := ⟨⟨TX5, 4, rfl⟩, m_974, m_975, m_976, m_104, m_977, by decide +kernel, by decide +kernel, by decide⟩
set_option maxRecDepth 100000 in
theorem m_966 : Cond.methodLink RX11 264 yX5_bringBack ∈ WL := p_mt4 (i := 149) rfl rfl
set_option maxRecDepth 100000 in
theorem m_967 : Cond.instanceMethod yX5_bringBack ∈ WL := p_mt4 (i := 150) rfl rfl
set_option maxRecDepth 100000 in
theorem m_968 : Cond.selects RX5 yX5_bringBack yX5_bringBack ∈ WL := p_mt4 (i := 151) rfl rfl
set_option maxRecDepth 100000 in
theorem m_969 : Cond.code yX5_bringBack cX5_bringBack 2 (some .boolean) ∈ WL := p_mt4 (i := 152) rfl rfl
set_option maxRecDepth 100000 in
theorem wv_X11_264 : MV RX11 264 4 yX5_bringBack cX5_bringBack 2 (some .boolean) 1 := ⟨⟨TX5, 4, rfl⟩, m_966, m_967, m_968, m_104, m_969, by decide +kernel, by decide +kernel, by decide⟩
set_option maxRecDepth 100000 in
theorem m_986 : Cond.methodLink RX11 273 yX11_tellHumours ∈ WL := p_mt4 (i := 169) rfl rfl
set_option maxRecDepth 100000 in
theorem m_988 : Cond.instanceMethod yX11_tellHumours ∈ WL := p_mt4 (i := 171) rfl rfl
set_option maxRecDepth 100000 in
theorem m_19 : Cond.selects RX11 yX11_tellHumours yX11_tellHumours ∈ WL := p_mt0 (i := 19) rfl rfl
set_option maxRecDepth 100000 in
theorem m_989 : Cond.code yX11_tellHumours cX11_tellHumours 3 none ∈ WL := p_mt4 (i := 172) rfl rfl
set_option maxRecDepth 100000 in
theorem wv_X11_273 : MV RX11 273 10 yX11_tellHumours cX11_tellHumours 3 none 1 := ⟨⟨TX11, 11, rfl⟩, m_986, m_988, m_19, m_98, m_989, by decide +kernel, by decide +kernel, by decide⟩
set_option maxRecDepth 100000 in
theorem m_982 : Cond.methodLink RX11 269 yX8_pass ∈ WL := p_mt4 (i := 165) rfl rfl
set_option maxRecDepth 100000 in
theorem wv_X11_269 : MV RX11 269 7 yX8_pass cX8_pass 5 none 3 := ⟨⟨TX8, 4, rfl⟩, m_982, m_983, m_984, m_108, m_985, by decide +kernel, by decide +kernel, by decide⟩
set_option maxRecDepth 100000 in
theorem m_996 : Cond.methodLink RX11 276 yX8_humoursTogether ∈ WL := p_mt4 (i := 179) rfl rfl
set_option maxRecDepth 100000 in
theorem m_997 : Cond.instanceMethod yX8_humoursTogether ∈ WL := p_mt4 (i := 180) rfl rfl
set_option maxRecDepth 100000 in
theorem m_998 : Cond.selects RX8 yX8_humoursTogether yX8_humoursTogether ∈ WL := p_mt4 (i := 181) rfl rfl
set_option maxRecDepth 100000 in
theorem m_999 : Cond.code yX8_humoursTogether cX8_humoursTogether 4 (some .int) ∈ WL := p_mt4 (i := 182) rfl rfl
set_option maxRecDepth 100000 in
theorem wv_X11_276 : MV RX11 276 7 yX8_humoursTogether cX8_humoursTogether 4 (some .int) 1 := ⟨⟨TX8, 4, rfl⟩, m_996, m_997, m_998, m_108, m_999, by decide +kernel, by decide +kernel, by decide⟩
set_option maxRecDepth 100000 in
theorem m_1006 : Cond.methodLink RX11 285 yJ6_bitCount_0f7a4 ∈ WL := p_mt4 (i := 189) rfl rfl
set_option maxRecDepth 100000 in
theorem ws_X11_285 : MS RX11 285 yJ6_bitCount_0f7a4 cJ6_bitCount_0f7a4 1 (some .int) 1 := ⟨m_1006, m_812, m_122, m_813, by decide +kernel, by decide +kernel, by decide⟩
set_option maxRecDepth 100000 in
theorem m_1005 : Cond.methodLink RX11 282 yX11_isIn ∈ WL := p_mt4 (i := 188) rfl rfl
set_option maxRecDepth 100000 in
theorem ws_X11_282 : MS RX11 282 yX11_isIn cX11_isIn 2 (some .boolean) 2 := ⟨m_1005, m_616, m_98, m_617, by decide +kernel, by decide +kernel, by decide⟩
set_option maxRecDepth 100000 in
theorem m_1004 : Cond.methodLink RX11 279 yX0_hasWant ∈ WL := p_mt4 (i := 187) rfl rfl
set_option maxRecDepth 100000 in
theorem wv_X11_279 : MV RX11 279 0 yX0_hasWant cX0_hasWant 2 (some .boolean) 1 := ⟨⟨TX0, 12, rfl⟩, m_1004, m_878, m_879, m_106, m_880, by decide +kernel, by decide +kernel, by decide⟩
set_option maxRecDepth 100000 in
theorem m_1013 : Cond.methodLink RX11 296 yX0_offBy ∈ WL := p_mt4 (i := 196) rfl rfl
set_option maxRecDepth 100000 in
theorem wv_X11_296 : MV RX11 296 0 yX0_offBy cX0_offBy 6 (some .int) 3 := ⟨⟨TX0, 12, rfl⟩, m_1013, m_890, m_891, m_106, m_892, by decide +kernel, by decide +kernel, by decide⟩
set_option maxRecDepth 100000 in
theorem m_1012 : Cond.methodLink RX11 293 yX0_humourOfTerm ∈ WL := p_mt4 (i := 195) rfl rfl
set_option maxRecDepth 100000 in
theorem wv_X11_293 : MV RX11 293 0 yX0_humourOfTerm cX0_humourOfTerm 3 (some .int) 2 := ⟨⟨TX0, 12, rfl⟩, m_1012, m_882, m_883, m_106, m_884, by decide +kernel, by decide +kernel, by decide⟩
set_option maxRecDepth 100000 in
theorem m_1011 : Cond.methodLink RX11 290 yX0_termsOf ∈ WL := p_mt4 (i := 194) rfl rfl
set_option maxRecDepth 100000 in
theorem wv_X11_290 : MV RX11 290 0 yX0_termsOf cX0_termsOf 2 (some .int) 1 := ⟨⟨TX0, 12, rfl⟩, m_1011, m_874, m_875, m_106, m_876, by decide +kernel, by decide +kernel, by decide⟩
set_option maxRecDepth 100000 in
theorem m_1018 : Cond.methodLink RX11 299 yX0_allWants ∈ WL := p_mt4 (i := 201) rfl rfl
set_option maxRecDepth 100000 in
theorem wv_X11_299 : MV RX11 299 0 yX0_allWants cX0_allWants 1 (some .int) 0 := ⟨⟨TX0, 12, rfl⟩, m_1018, m_1019, m_1020, m_106, m_1021, by decide +kernel, by decide +kernel, by decide⟩
set_option maxRecDepth 100000 in
theorem m_1031 : Cond.methodLink RX11 306 Lib.Math.abs.name ∈ WL := p_mt4 (i := 214) rfl rfl
set_option maxRecDepth 100000 in
theorem wm_X11_306 : MM RX11 306 Lib.Math.abs.name Lib.Math.abs.code 1 := ⟨m_1031, m_1032, m_113, m_1033⟩
set_option maxRecDepth 100000 in
theorem m_1026 : Cond.methodLink RX11 302 yX8_passAll ∈ WL := p_mt4 (i := 209) rfl rfl
set_option maxRecDepth 100000 in
theorem m_1027 : Cond.instanceMethod yX8_passAll ∈ WL := p_mt4 (i := 210) rfl rfl
set_option maxRecDepth 100000 in
theorem m_1028 : Cond.selects RX8 yX8_passAll yX8_passAll ∈ WL := p_mt4 (i := 211) rfl rfl
set_option maxRecDepth 100000 in
theorem m_1029 : Cond.code yX8_passAll cX8_passAll 5 none ∈ WL := p_mt4 (i := 212) rfl rfl
set_option maxRecDepth 100000 in
theorem wv_X11_302 : MV RX11 302 7 yX8_passAll cX8_passAll 5 none 2 := ⟨⟨TX8, 4, rfl⟩, m_1026, m_1027, m_1028, m_108, m_1029, by decide +kernel, by decide +kernel, by decide⟩
set_option maxRecDepth 100000 in
theorem m_1038 : Cond.methodLink RX11 311 yX4_fewestFor ∈ WL := p_mt4 (i := 221) rfl rfl
set_option maxRecDepth 100000 in
theorem m_1039 : Cond.instanceMethod yX4_fewestFor ∈ WL := p_mt4 (i := 222) rfl rfl
set_option maxRecDepth 100000 in
theorem m_1040 : Cond.selects RX4 yX4_fewestFor yX4_fewestFor ∈ WL := p_mt4 (i := 223) rfl rfl
set_option maxRecDepth 100000 in
theorem m_1041 : Cond.code yX4_fewestFor cX4_fewestFor 8 (some .int) ∈ WL := p_mt4 (i := 224) rfl rfl
set_option maxRecDepth 100000 in
theorem wv_X11_311 : MV RX11 311 3 yX4_fewestFor cX4_fewestFor 8 (some .int) 3 := ⟨⟨TX4, 14, rfl⟩, m_1038, m_1039, m_1040, m_109, m_1041, by decide +kernel, by decide +kernel, by decide⟩
set_option maxRecDepth 100000 in
theorem m_1078 : Cond.methodLink RX11 314 yX4_bestServing ∈ WL := p_mt5 (i := 21) rfl rfl
set_option maxRecDepth 100000 in
theorem m_1079 : Cond.instanceMethod yX4_bestServing ∈ WL := p_mt5 (i := 22) rfl rfl
set_option maxRecDepth 100000 in
theorem m_1080 : Cond.selects RX4 yX4_bestServing yX4_bestServing ∈ WL := p_mt5 (i := 23) rfl rfl
set_option maxRecDepth 100000 in
theorem m_1081 : Cond.code yX4_bestServing cX4_bestServing 8 (some .int) ∈ WL := p_mt5 (i := 24) rfl rfl
set_option maxRecDepth 100000 in
theorem wv_X11_314 : MV RX11 314 3 yX4_bestServing cX4_bestServing 8 (some .int) 2 := ⟨⟨TX4, 14, rfl⟩, m_1078, m_1079, m_1080, m_109, m_1081, by decide +kernel, by decide +kernel, by decide⟩
set_option maxRecDepth 100000 in
theorem m_1086 : Cond.methodLink RX11 317 yX4_worstHeld ∈ WL := p_mt5 (i := 29) rfl rfl
set_option maxRecDepth 100000 in
theorem m_1087 : Cond.instanceMethod yX4_worstHeld ∈ WL := p_mt5 (i := 30) rfl rfl
set_option maxRecDepth 100000 in
theorem m_1088 : Cond.selects RX4 yX4_worstHeld yX4_worstHeld ∈ WL := p_mt5 (i := 31) rfl rfl
set_option maxRecDepth 100000 in
theorem m_1089 : Cond.code yX4_worstHeld cX4_worstHeld 7 (some .int) ∈ WL := p_mt5 (i := 32) rfl rfl
set_option maxRecDepth 100000 in
theorem wv_X11_317 : MV RX11 317 3 yX4_worstHeld cX4_worstHeld 7 (some .int) 2 := ⟨⟨TX4, 14, rfl⟩, m_1086, m_1087, m_1088, m_109, m_1089, by decide +kernel, by decide +kernel, by decide⟩
set_option maxRecDepth 100000 in
theorem m_1105 : Cond.methodLink RX11 323 yX11_tellFirstPair ∈ WL := p_mt5 (i := 48) rfl rfl
set_option maxRecDepth 100000 in
theorem m_1107 : Cond.instanceMethod yX11_tellFirstPair ∈ WL := p_mt5 (i := 50) rfl rfl
set_option maxRecDepth 100000 in
theorem m_25 : Cond.selects RX11 yX11_tellFirstPair yX11_tellFirstPair ∈ WL := p_mt0 (i := 25) rfl rfl
set_option maxRecDepth 100000 in
theorem m_1108 : Cond.code yX11_tellFirstPair cX11_tellFirstPair 4 none ∈ WL := p_mt5 (i := 51) rfl rfl
set_option maxRecDepth 100000 in
theorem wv_X11_323 : MV RX11 323 10 yX11_tellFirstPair cX11_tellFirstPair 4 none 3 := ⟨⟨TX11, 11, rfl⟩, m_1105, m_1107, m_25, m_98, m_1108, by decide +kernel, by decide +kernel, by decide⟩
set_option maxRecDepth 100000 in
theorem m_1099 : Cond.methodLink RX11 320 yX0_areAtOdds ∈ WL := p_mt5 (i := 42) rfl rfl
set_option maxRecDepth 100000 in
theorem wv_X11_320 : MV RX11 320 0 yX0_areAtOdds cX0_areAtOdds 7 (some .boolean) 3 := ⟨⟨TX0, 12, rfl⟩, m_1099, m_1100, m_1101, m_106, m_1102, by decide +kernel, by decide +kernel, by decide⟩
set_option maxRecDepth 100000 in
theorem m_1113 : Cond.methodLink RX11 326 yX0_areAtPeace ∈ WL := p_mt5 (i := 56) rfl rfl
set_option maxRecDepth 100000 in
theorem m_1114 : Cond.instanceMethod yX0_areAtPeace ∈ WL := p_mt5 (i := 57) rfl rfl
set_option maxRecDepth 100000 in
theorem m_1115 : Cond.selects RX0 yX0_areAtPeace yX0_areAtPeace ∈ WL := p_mt5 (i := 58) rfl rfl
set_option maxRecDepth 100000 in
theorem m_1116 : Cond.code yX0_areAtPeace cX0_areAtPeace 5 (some .boolean) ∈ WL := p_mt5 (i := 59) rfl rfl
set_option maxRecDepth 100000 in
theorem wv_X11_326 : MV RX11 326 0 yX0_areAtPeace cX0_areAtPeace 5 (some .boolean) 2 := ⟨⟨TX0, 12, rfl⟩, m_1113, m_1114, m_1115, m_106, m_1116, by decide +kernel, by decide +kernel, by decide⟩
set_option maxRecDepth 100000 in
theorem m_1123 : Cond.methodLink RX11 329 yX0_meanPull ∈ WL := p_mt5 (i := 66) rfl rfl
set_option maxRecDepth 100000 in
theorem m_1124 : Cond.instanceMethod yX0_meanPull ∈ WL := p_mt5 (i := 67) rfl rfl
set_option maxRecDepth 100000 in
theorem m_1125 : Cond.selects RX0 yX0_meanPull yX0_meanPull ∈ WL := p_mt5 (i := 68) rfl rfl
set_option maxRecDepth 100000 in
theorem m_1126 : Cond.code yX0_meanPull cX0_meanPull 6 (some .int) ∈ WL := p_mt5 (i := 69) rfl rfl
set_option maxRecDepth 100000 in
theorem wv_X11_329 : MV RX11 329 0 yX0_meanPull cX0_meanPull 6 (some .int) 2 := ⟨⟨TX0, 12, rfl⟩, m_1123, m_1124, m_1125, m_106, m_1126, by decide +kernel, by decide +kernel, by decide⟩
set_option maxRecDepth 100000 in
theorem m_1135 : Cond.methodLink RX11 335 yX4_notes ∈ WL := p_mt5 (i := 78) rfl rfl
set_option maxRecDepth 100000 in
theorem m_1136 : Cond.instanceMethod yX4_notes ∈ WL := p_mt5 (i := 79) rfl rfl
set_option maxRecDepth 100000 in
theorem m_1137 : Cond.selects RX4 yX4_notes yX4_notes ∈ WL := p_mt5 (i := 80) rfl rfl
set_option maxRecDepth 100000 in
theorem m_1138 : Cond.code yX4_notes cX4_notes 1 (some .int) ∈ WL := p_mt5 (i := 81) rfl rfl
set_option maxRecDepth 100000 in
theorem wv_X11_335 : MV RX11 335 3 yX4_notes cX4_notes 1 (some .int) 0 := ⟨⟨TX4, 14, rfl⟩, m_1135, m_1136, m_1137, m_109, m_1138, by decide +kernel, by decide +kernel, by decide⟩
set_option maxRecDepth 100000 in
theorem m_1131 : Cond.methodLink RX11 332 yX4_note ∈ WL := p_mt5 (i := 74) rfl rfl
set_option maxRecDepth 100000 in
theorem m_1132 : Cond.instanceMethod yX4_note ∈ WL := p_mt5 (i := 75) rfl rfl
set_option maxRecDepth 100000 in
theorem m_1133 : Cond.selects RX4 yX4_note yX4_note ∈ WL := p_mt5 (i := 76) rfl rfl
set_option maxRecDepth 100000 in
theorem m_1134 : Cond.code yX4_note cX4_note 4 (some .boolean) ∈ WL := p_mt5 (i := 77) rfl rfl
set_option maxRecDepth 100000 in
theorem wv_X11_332 : MV RX11 332 3 yX4_note cX4_note 4 (some .boolean) 3 := ⟨⟨TX4, 14, rfl⟩, m_1131, m_1132, m_1133, m_109, m_1134, by decide +kernel, by decide +kernel, by decide⟩
set_option maxRecDepth 100000 in
theorem m_1143 : Cond.methodLink RX11 338 yX4_dropNotes ∈ WL := p_mt5 (i := 86) rfl rfl
set_option maxRecDepth 100000 in
theorem m_1144 : Cond.instanceMethod yX4_dropNotes ∈ WL := p_mt5 (i := 87) rfl rfl
set_option maxRecDepth 100000 in
theorem m_1145 : Cond.selects RX4 yX4_dropNotes yX4_dropNotes ∈ WL := p_mt5 (i := 88) rfl rfl
set_option maxRecDepth 100000 in
theorem m_1146 : Cond.code yX4_dropNotes cX4_dropNotes 2 (some .int) ∈ WL := p_mt5 (i := 89) rfl rfl
set_option maxRecDepth 100000 in
theorem wv_X11_338 : MV RX11 338 3 yX4_dropNotes cX4_dropNotes 2 (some .int) 0 := ⟨⟨TX4, 14, rfl⟩, m_1143, m_1144, m_1145, m_109, m_1146, by decide +kernel, by decide +kernel, by decide⟩
set_option maxRecDepth 100000 in
theorem m_1161 : Cond.methodLink RX11 344 yX4_fitsBare ∈ WL := p_mt5 (i := 104) rfl rfl
set_option maxRecDepth 100000 in
theorem m_1162 : Cond.instanceMethod yX4_fitsBare ∈ WL := p_mt5 (i := 105) rfl rfl
set_option maxRecDepth 100000 in
theorem m_1163 : Cond.selects RX4 yX4_fitsBare yX4_fitsBare ∈ WL := p_mt5 (i := 106) rfl rfl
set_option maxRecDepth 100000 in
theorem m_1164 : Cond.code yX4_fitsBare cX4_fitsBare 2 (some .boolean) ∈ WL := p_mt5 (i := 107) rfl rfl
set_option maxRecDepth 100000 in
theorem wv_X11_344 : MV RX11 344 3 yX4_fitsBare cX4_fitsBare 2 (some .boolean) 1 := ⟨⟨TX4, 14, rfl⟩, m_1161, m_1162, m_1163, m_109, m_1164, by decide +kernel, by decide +kernel, by decide⟩
set_option maxRecDepth 100000 in
theorem m_1151 : Cond.methodLink RX11 341 yX4_fitting ∈ WL := p_mt5 (i := 94) rfl rfl
set_option maxRecDepth 100000 in
theorem m_1152 : Cond.instanceMethod yX4_fitting ∈ WL := p_mt5 (i := 95) rfl rfl
set_option maxRecDepth 100000 in
theorem m_1153 : Cond.selects RX4 yX4_fitting yX4_fitting ∈ WL := p_mt5 (i := 96) rfl rfl
set_option maxRecDepth 100000 in
theorem m_1154 : Cond.code yX4_fitting cX4_fitting 4 (some .int) ∈ WL := p_mt5 (i := 97) rfl rfl
set_option maxRecDepth 100000 in
theorem wv_X11_341 : MV RX11 341 3 yX4_fitting cX4_fitting 4 (some .int) 1 := ⟨⟨TX4, 14, rfl⟩, m_1151, m_1152, m_1153, m_109, m_1154, by decide +kernel, by decide +kernel, by decide⟩
set_option maxRecDepth 100000 in
theorem m_1169 : Cond.methodLink RX11 347 yX4_bestLook ∈ WL := p_mt5 (i := 112) rfl rfl
set_option maxRecDepth 100000 in
theorem m_1170 : Cond.instanceMethod yX4_bestLook ∈ WL := p_mt5 (i := 113) rfl rfl
set_option maxRecDepth 100000 in
theorem m_1171 : Cond.selects RX4 yX4_bestLook yX4_bestLook ∈ WL := p_mt5 (i := 114) rfl rfl
set_option maxRecDepth 100000 in
theorem m_1172 : Cond.code yX4_bestLook cX4_bestLook 6 (some .int) ∈ WL := p_mt5 (i := 115) rfl rfl
set_option maxRecDepth 100000 in
theorem wv_X11_347 : MV RX11 347 3 yX4_bestLook cX4_bestLook 6 (some .int) 3 := ⟨⟨TX4, 14, rfl⟩, m_1169, m_1170, m_1171, m_109, m_1172, by decide +kernel, by decide +kernel, by decide⟩
set_option maxRecDepth 100000 in
theorem m_1187 : Cond.methodLink RX11 350 yX4_fewestForAll ∈ WL := p_mt5 (i := 130) rfl rfl
set_option maxRecDepth 100000 in
theorem m_1188 : Cond.instanceMethod yX4_fewestForAll ∈ WL := p_mt5 (i := 131) rfl rfl
set_option maxRecDepth 100000 in
theorem m_1189 : Cond.selects RX4 yX4_fewestForAll yX4_fewestForAll ∈ WL := p_mt5 (i := 132) rfl rfl
set_option maxRecDepth 100000 in
theorem m_1190 : Cond.code yX4_fewestForAll cX4_fewestForAll 5 (some .int) ∈ WL := p_mt5 (i := 133) rfl rfl
set_option maxRecDepth 100000 in
theorem wv_X11_350 : MV RX11 350 3 yX4_fewestForAll cX4_fewestForAll 5 (some .int) 1 := ⟨⟨TX4, 14, rfl⟩, m_1187, m_1188, m_1189, m_109, m_1190, by decide +kernel, by decide +kernel, by decide⟩
set_option maxRecDepth 100000 in
theorem m_1205 : Cond.methodLink RX11 356 yX4_shareOut ∈ WL := p_mt5 (i := 148) rfl rfl
set_option maxRecDepth 100000 in
theorem m_1206 : Cond.instanceMethod yX4_shareOut ∈ WL := p_mt5 (i := 149) rfl rfl
set_option maxRecDepth 100000 in
theorem m_1207 : Cond.selects RX4 yX4_shareOut yX4_shareOut ∈ WL := p_mt5 (i := 150) rfl rfl
set_option maxRecDepth 100000 in
theorem m_1208 : Cond.code yX4_shareOut cX4_shareOut 5 (some .int) ∈ WL := p_mt5 (i := 151) rfl rfl
set_option maxRecDepth 100000 in
theorem wv_X11_356 : MV RX11 356 3 yX4_shareOut cX4_shareOut 5 (some .int) 0 := ⟨⟨TX4, 14, rfl⟩, m_1205, m_1206, m_1207, m_109, m_1208, by decide +kernel, by decide +kernel, by decide⟩
set_option maxRecDepth 100000 in
theorem m_1201 : Cond.methodLink RX11 353 yX4_reckonGains ∈ WL := p_mt5 (i := 144) rfl rfl
set_option maxRecDepth 100000 in
theorem m_1202 : Cond.instanceMethod yX4_reckonGains ∈ WL := p_mt5 (i := 145) rfl rfl
set_option maxRecDepth 100000 in
theorem m_1203 : Cond.selects RX4 yX4_reckonGains yX4_reckonGains ∈ WL := p_mt5 (i := 146) rfl rfl
set_option maxRecDepth 100000 in
theorem m_1204 : Cond.code yX4_reckonGains cX4_reckonGains 8 (some .int) ∈ WL := p_mt5 (i := 147) rfl rfl
set_option maxRecDepth 100000 in
theorem wv_X11_353 : MV RX11 353 3 yX4_reckonGains cX4_reckonGains 8 (some .int) 1 := ⟨⟨TX4, 14, rfl⟩, m_1201, m_1202, m_1203, m_109, m_1204, by decide +kernel, by decide +kernel, by decide⟩
set_option maxRecDepth 100000 in
theorem m_1229 : Cond.methodLink RX11 359 Lib.Math.max.name ∈ WL := p_mt5 (i := 172) rfl rfl
set_option maxRecDepth 100000 in
theorem wm_X11_359 : MM RX11 359 Lib.Math.max.name Lib.Math.max.code 2 := ⟨m_1229, m_539, m_113, m_540⟩
set_option maxRecDepth 100000 in
theorem m_1230 : Cond.methodLink RX11 362 Lib.Math.min.name ∈ WL := p_mt5 (i := 173) rfl rfl
set_option maxRecDepth 100000 in
theorem wm_X11_362 : MM RX11 362 Lib.Math.min.name Lib.Math.min.code 2 := ⟨m_1230, m_542, m_113, m_543⟩
set_option maxRecDepth 100000 in
theorem m_1231 : Cond.methodLink RX11 365 yX11_winsAt ∈ WL := p_mt5 (i := 174) rfl rfl
set_option maxRecDepth 100000 in
theorem m_1232 : Cond.static yX11_winsAt ∈ WL := p_mt5 (i := 175) rfl rfl
set_option maxRecDepth 100000 in
theorem m_1233 : Cond.code yX11_winsAt cX11_winsAt 7 (some .boolean) ∈ WL := p_mt5 (i := 176) rfl rfl
set_option maxRecDepth 100000 in
theorem ws_X11_365 : MS RX11 365 yX11_winsAt cX11_winsAt 7 (some .boolean) 2 := ⟨m_1231, m_1232, m_98, m_1233, by decide +kernel, by decide +kernel, by decide⟩
set_option maxRecDepth 100000 in
theorem m_1238 : Cond.methodLink RX11 368 yX11_tellFraction ∈ WL := p_mt5 (i := 181) rfl rfl
set_option maxRecDepth 100000 in
theorem m_1240 : Cond.instanceMethod yX11_tellFraction ∈ WL := p_mt5 (i := 183) rfl rfl
set_option maxRecDepth 100000 in
theorem m_34 : Cond.selects RX11 yX11_tellFraction yX11_tellFraction ∈ WL := p_mt0 (i := 34) rfl rfl
set_option maxRecDepth 100000 in
theorem m_1241 : Cond.code yX11_tellFraction cX11_tellFraction 12 none ∈ WL := p_mt5 (i := 184) rfl rfl
set_option maxRecDepth 100000 in
theorem wv_X11_368 : MV RX11 368 10 yX11_tellFraction cX11_tellFraction 12 none 2 := ⟨⟨TX11, 11, rfl⟩, m_1238, m_1240, m_34, m_98, m_1241, by decide +kernel, by decide +kernel, by decide⟩
set_option maxRecDepth 100000 in
theorem m_1242 : Cond.methodLink RX11 372 yX11_allAstray ∈ WL := p_mt5 (i := 185) rfl rfl
set_option maxRecDepth 100000 in
theorem m_1243 : Cond.static yX11_allAstray ∈ WL := p_mt5 (i := 186) rfl rfl
set_option maxRecDepth 100000 in
theorem m_1244 : Cond.code yX11_allAstray cX11_allAstray 4 (some .long) ∈ WL := p_mt5 (i := 187) rfl rfl
set_option maxRecDepth 100000 in
theorem ws_X11_372 : MS RX11 372 yX11_allAstray cX11_allAstray 4 (some .long) 1 := ⟨m_1242, m_1243, m_98, m_1244, by decide +kernel, by decide +kernel, by decide⟩
set_option maxRecDepth 100000 in
theorem m_1250 : Cond.methodLink RX11 376 yX11_drawings ∈ WL := p_mt5 (i := 193) rfl rfl
set_option maxRecDepth 100000 in
theorem m_1251 : Cond.static yX11_drawings ∈ WL := p_mt5 (i := 194) rfl rfl
set_option maxRecDepth 100000 in
theorem m_1252 : Cond.code yX11_drawings cX11_drawings 5 (some .long) ∈ WL := p_mt5 (i := 195) rfl rfl
set_option maxRecDepth 100000 in
theorem ws_X11_376 : MS RX11 376 yX11_drawings cX11_drawings 5 (some .long) 2 := ⟨m_1250, m_1251, m_98, m_1252, by decide +kernel, by decide +kernel, by decide⟩
set_option maxRecDepth 100000 in
theorem m_1260 : Cond.methodLink RX11 383 yX11_manStays ∈ WL := p_mt5 (i := 203) rfl rfl
set_option maxRecDepth 100000 in
theorem m_1261 : Cond.static yX11_manStays ∈ WL := p_mt5 (i := 204) rfl rfl
set_option maxRecDepth 100000 in
theorem m_1262 : Cond.code yX11_manStays cX11_manStays 6 (some .boolean) ∈ WL := p_mt5 (i := 205) rfl rfl
set_option maxRecDepth 100000 in
theorem ws_X11_383 : MS RX11 383 yX11_manStays cX11_manStays 6 (some .boolean) 4 := ⟨m_1260, m_1261, m_98, m_1262, by decide +kernel, by decide +kernel, by decide⟩
set_option maxRecDepth 100000 in
theorem m_1257 : Cond.methodLink RX11 380 yX11_clerkStays ∈ WL := p_mt5 (i := 200) rfl rfl
set_option maxRecDepth 100000 in
theorem m_1258 : Cond.static yX11_clerkStays ∈ WL := p_mt5 (i := 201) rfl rfl
set_option maxRecDepth 100000 in
theorem m_1259 : Cond.code yX11_clerkStays cX11_clerkStays 2 (some .boolean) ∈ WL := p_mt5 (i := 202) rfl rfl
set_option maxRecDepth 100000 in
theorem ws_X11_380 : MS RX11 380 yX11_clerkStays cX11_clerkStays 2 (some .boolean) 2 := ⟨m_1257, m_1258, m_98, m_1259, by decide +kernel, by decide +kernel, by decide⟩
set_option maxRecDepth 100000 in
theorem m_1267 : Cond.methodLink RX11 387 yX11_wantsHadBy ∈ WL := p_mt5 (i := 210) rfl rfl
set_option maxRecDepth 100000 in
theorem m_1269 : Cond.instanceMethod yX11_wantsHadBy ∈ WL := p_mt5 (i := 212) rfl rfl
set_option maxRecDepth 100000 in
theorem m_35 : Cond.selects RX11 yX11_wantsHadBy yX11_wantsHadBy ∈ WL := p_mt0 (i := 35) rfl rfl
set_option maxRecDepth 100000 in
theorem m_1270 : Cond.code yX11_wantsHadBy cX11_wantsHadBy 2 (some .int) ∈ WL := p_mt5 (i := 213) rfl rfl
set_option maxRecDepth 100000 in
theorem wv_X11_387 : MV RX11 387 10 yX11_wantsHadBy cX11_wantsHadBy 2 (some .int) 1 := ⟨⟨TX11, 11, rfl⟩, m_1267, m_1269, m_35, m_98, m_1270, by decide +kernel, by decide +kernel, by decide⟩
set_option maxRecDepth 100000 in
theorem m_1278 : Cond.constant RX11 403 (1103515245 : Int32) ∈ WL := p_mt5 (i := 221) rfl rfl
set_option maxRecDepth 100000 in
theorem m_1282 : Cond.methodLink RX11 397 yX11_drawnAct ∈ WL := p_mt5 (i := 225) rfl rfl
set_option maxRecDepth 100000 in
theorem m_1284 : Cond.instanceMethod yX11_drawnAct ∈ WL := p_mt5 (i := 227) rfl rfl
set_option maxRecDepth 100000 in
theorem m_36 : Cond.selects RX11 yX11_drawnAct yX11_drawnAct ∈ WL := p_mt0 (i := 36) rfl rfl
set_option maxRecDepth 100000 in
theorem m_1285 : Cond.code yX11_drawnAct cX11_drawnAct 4 none ∈ WL := p_mt5 (i := 228) rfl rfl
set_option maxRecDepth 100000 in
theorem wv_X11_397 : MV RX11 397 10 yX11_drawnAct cX11_drawnAct 4 none 3 := ⟨⟨TX11, 11, rfl⟩, m_1282, m_1284, m_36, m_98, m_1285, by decide +kernel, by decide +kernel, by decide⟩
set_option maxRecDepth 100000 in
theorem m_1279 : Cond.methodLink RX11 394 yX11_lot ∈ WL := p_mt5 (i := 222) rfl rfl
set_option maxRecDepth 100000 in
theorem m_1280 : Cond.static yX11_lot ∈ WL := p_mt5 (i := 223) rfl rfl
set_option maxRecDepth 100000 in
theorem m_1281 : Cond.code yX11_lot cX11_lot 2 (some .int) ∈ WL := p_mt5 (i := 224) rfl rfl
set_option maxRecDepth 100000 in
theorem ws_X11_394 : MS RX11 394 yX11_lot cX11_lot 2 (some .int) 2 := ⟨m_1279, m_1280, m_98, m_1281, by decide +kernel, by decide +kernel, by decide⟩
set_option maxRecDepth 100000 in
theorem m_1275 : Cond.methodLink RX11 391 yX11_drawn ∈ WL := p_mt5 (i := 218) rfl rfl
set_option maxRecDepth 100000 in
theorem m_1276 : Cond.static yX11_drawn ∈ WL := p_mt5 (i := 219) rfl rfl
set_option maxRecDepth 100000 in
theorem m_1277 : Cond.code yX11_drawn cX11_drawn 1 (some .int) ∈ WL := p_mt5 (i := 220) rfl rfl
set_option maxRecDepth 100000 in
theorem ws_X11_391 : MS RX11 391 yX11_drawn cX11_drawn 1 (some .int) 1 := ⟨m_1275, m_1276, m_98, m_1277, by decide +kernel, by decide +kernel, by decide⟩
set_option maxRecDepth 100000 in
theorem m_1286 : Cond.methodLink RX11 400 yX8_groundsOfAll ∈ WL := p_mt5 (i := 229) rfl rfl
set_option maxRecDepth 100000 in
theorem m_1287 : Cond.instanceMethod yX8_groundsOfAll ∈ WL := p_mt5 (i := 230) rfl rfl
set_option maxRecDepth 100000 in
theorem m_1288 : Cond.selects RX8 yX8_groundsOfAll yX8_groundsOfAll ∈ WL := p_mt5 (i := 231) rfl rfl
set_option maxRecDepth 100000 in
theorem m_1289 : Cond.code yX8_groundsOfAll cX8_groundsOfAll 3 (some .int) ∈ WL := p_mt5 (i := 232) rfl rfl
set_option maxRecDepth 100000 in
theorem wv_X11_400 : MV RX11 400 7 yX8_groundsOfAll cX8_groundsOfAll 3 (some .int) 0 := ⟨⟨TX8, 4, rfl⟩, m_1286, m_1287, m_1288, m_108, m_1289, by decide +kernel, by decide +kernel, by decide⟩
set_option maxRecDepth 100000 in
theorem m_1294 : Cond.methodLink RX11 404 yX5_keepAs ∈ WL := p_mt5 (i := 237) rfl rfl
set_option maxRecDepth 100000 in
theorem m_1295 : Cond.instanceMethod yX5_keepAs ∈ WL := p_mt5 (i := 238) rfl rfl
set_option maxRecDepth 100000 in
theorem m_1296 : Cond.selects RX5 yX5_keepAs yX5_keepAs ∈ WL := p_mt5 (i := 239) rfl rfl
set_option maxRecDepth 100000 in
theorem m_1297 : Cond.code yX5_keepAs cX5_keepAs 3 (some .boolean) ∈ WL := p_mt6 (i := 0) rfl rfl
set_option maxRecDepth 100000 in
theorem wv_X11_404 : MV RX11 404 4 yX5_keepAs cX5_keepAs 3 (some .boolean) 2 := ⟨⟨TX5, 4, rfl⟩, m_1294, m_1295, m_1296, m_104, m_1297, by decide +kernel, by decide +kernel, by decide⟩
set_option maxRecDepth 100000 in
theorem m_1303 : Cond.methodLink RX11 408 yX5_bringKept ∈ WL := p_mt6 (i := 6) rfl rfl
set_option maxRecDepth 100000 in
theorem m_1304 : Cond.instanceMethod yX5_bringKept ∈ WL := p_mt6 (i := 7) rfl rfl
set_option maxRecDepth 100000 in
theorem m_1305 : Cond.selects RX5 yX5_bringKept yX5_bringKept ∈ WL := p_mt6 (i := 8) rfl rfl
set_option maxRecDepth 100000 in
theorem m_1306 : Cond.code yX5_bringKept cX5_bringKept 3 (some .boolean) ∈ WL := p_mt6 (i := 9) rfl rfl
set_option maxRecDepth 100000 in
theorem wv_X11_408 : MV RX11 408 4 yX5_bringKept cX5_bringKept 3 (some .boolean) 2 := ⟨⟨TX5, 4, rfl⟩, m_1303, m_1304, m_1305, m_104, m_1306, by decide +kernel, by decide +kernel, by decide⟩
set_option maxRecDepth 100000 in
theorem m_1312 : Cond.methodLink RX11 411 yX8_dayNumber ∈ WL := p_mt6 (i := 15) rfl rfl
set_option maxRecDepth 100000 in
theorem m_1313 : Cond.instanceMethod yX8_dayNumber ∈ WL := p_mt6 (i := 16) rfl rfl
set_option maxRecDepth 100000 in
theorem m_1314 : Cond.selects RX8 yX8_dayNumber yX8_dayNumber ∈ WL := p_mt6 (i := 17) rfl rfl
set_option maxRecDepth 100000 in
theorem m_1315 : Cond.code yX8_dayNumber cX8_dayNumber 1 (some .int) ∈ WL := p_mt6 (i := 18) rfl rfl
set_option maxRecDepth 100000 in
theorem wv_X11_411 : MV RX11 411 7 yX8_dayNumber cX8_dayNumber 1 (some .int) 0 := ⟨⟨TX8, 4, rfl⟩, m_1312, m_1313, m_1314, m_108, m_1315, by decide +kernel, by decide +kernel, by decide⟩
set_option maxRecDepth 100000 in
theorem m_1316 : Cond.methodLink RX11 414 yX8_signedFor ∈ WL := p_mt6 (i := 19) rfl rfl
set_option maxRecDepth 100000 in
theorem m_1317 : Cond.instanceMethod yX8_signedFor ∈ WL := p_mt6 (i := 20) rfl rfl
set_option maxRecDepth 100000 in
theorem m_1318 : Cond.selects RX8 yX8_signedFor yX8_signedFor ∈ WL := p_mt6 (i := 21) rfl rfl
set_option maxRecDepth 100000 in
theorem m_1319 : Cond.code yX8_signedFor cX8_signedFor 1 (some .int) ∈ WL := p_mt6 (i := 22) rfl rfl
set_option maxRecDepth 100000 in
theorem wv_X11_414 : MV RX11 414 7 yX8_signedFor cX8_signedFor 1 (some .int) 0 := ⟨⟨TX8, 4, rfl⟩, m_1316, m_1317, m_1318, m_108, m_1319, by decide +kernel, by decide +kernel, by decide⟩
set_option maxRecDepth 100000 in
theorem m_1320 : Cond.methodLink RX11 417 yX3_size ∈ WL := p_mt6 (i := 23) rfl rfl
set_option maxRecDepth 100000 in
theorem m_1321 : Cond.instanceMethod yX3_size ∈ WL := p_mt6 (i := 24) rfl rfl
set_option maxRecDepth 100000 in
theorem m_1322 : Cond.selects RX3 yX3_size yX3_size ∈ WL := p_mt6 (i := 25) rfl rfl
set_option maxRecDepth 100000 in
theorem m_1323 : Cond.code yX3_size cX3_size 1 (some .int) ∈ WL := p_mt6 (i := 26) rfl rfl
set_option maxRecDepth 100000 in
theorem wv_X11_417 : MV RX11 417 2 yX3_size cX3_size 1 (some .int) 0 := ⟨⟨TX3, 2, rfl⟩, m_1320, m_1321, m_1322, m_105, m_1323, by decide +kernel, by decide +kernel, by decide⟩
set_option maxRecDepth 100000 in
theorem m_1415 : Cond.methodLink RX11 418 yX3_at ∈ WL := p_mt6 (i := 118) rfl rfl
set_option maxRecDepth 100000 in
theorem m_1416 : Cond.instanceMethod yX3_at ∈ WL := p_mt6 (i := 119) rfl rfl
set_option maxRecDepth 100000 in
theorem m_1417 : Cond.selects RX3 yX3_at yX3_at ∈ WL := p_mt6 (i := 120) rfl rfl
set_option maxRecDepth 100000 in
theorem m_1418 : Cond.code yX3_at cX3_at 2 (some .long) ∈ WL := p_mt6 (i := 121) rfl rfl
set_option maxRecDepth 100000 in
theorem wv_X11_418 : MV RX11 418 2 yX3_at cX3_at 2 (some .long) 1 := ⟨⟨TX3, 2, rfl⟩, m_1415, m_1416, m_1417, m_105, m_1418, by decide +kernel, by decide +kernel, by decide⟩
set_option maxRecDepth 100000 in
theorem m_1425 : Cond.methodLink RX12 3 objectInit ∈ WL := p_mt6 (i := 128) rfl rfl
set_option maxRecDepth 100000 in
theorem wo_X12_3 : MO RX12 3 := ⟨m_1425, m_130, m_131⟩
set_option maxRecDepth 100000 in
theorem m_1426 : Cond.fieldLink RX12 9 (TX12 0).1 (TX12 0).2.1 (TX12 0).2.2.1 ∈ WL := p_mt6 (i := 129) rfl rfl
set_option maxRecDepth 100000 in
theorem inW_X12 : ∀ w ∈ u_ws RX12 TX12 51, w ∈ WL := fun w hw => p_mem (of_decide_eq_true (List.all_eq_true.mp (show (u_ws RX12 TX12 51).all (fun w => decide (w ∈ lw_tbl)) = true by decide +kernel) w hw)) (List.all_eq_true.mp (show (u_ws RX12 TX12 51).all p_okw = true by decide +kernel) w hw)
set_option maxRecDepth 100000 in
theorem wf_X12_9_11 : FL RX12 9 11 0 (.array .int) true := ⟨RX12, TX12, 51, tyX12, rfl, inW_X12, by decide, m_1426, nmX12, tyX12_ok, by decide +kernel, rfl, fun h => by first | rfl | cases h⟩
set_option maxRecDepth 100000 in
theorem m_1430 : Cond.fieldLink RX12 13 (TX12 4).1 (TX12 4).2.1 (TX12 4).2.2.1 ∈ WL := p_mt6 (i := 133) rfl rfl
set_option maxRecDepth 100000 in
theorem wf_X12_13_11 : FL RX12 13 11 4 (.array .int) true := ⟨RX12, TX12, 51, tyX12, rfl, inW_X12, by decide, m_1430, nmX12, tyX12_ok, by decide +kernel, rfl, fun h => by first | rfl | cases h⟩
set_option maxRecDepth 100000 in
theorem m_1431 : Cond.fieldLink RX12 16 (TX12 5).1 (TX12 5).2.1 (TX12 5).2.2.1 ∈ WL := p_mt6 (i := 134) rfl rfl
set_option maxRecDepth 100000 in
theorem wf_X12_16_11 : FL RX12 16 11 5 (.array .int) true := ⟨RX12, TX12, 51, tyX12, rfl, inW_X12, by decide, m_1431, nmX12, tyX12_ok, by decide +kernel, rfl, fun h => by first | rfl | cases h⟩
set_option maxRecDepth 100000 in
theorem m_1432 : Cond.fieldLink RX12 19 (TX12 6).1 (TX12 6).2.1 (TX12 6).2.2.1 ∈ WL := p_mt6 (i := 135) rfl rfl
set_option maxRecDepth 100000 in
theorem wf_X12_19_11 : FL RX12 19 11 6 (.array .int) true := ⟨RX12, TX12, 51, tyX12, rfl, inW_X12, by decide, m_1432, nmX12, tyX12_ok, by decide +kernel, rfl, fun h => by first | rfl | cases h⟩
set_option maxRecDepth 100000 in
theorem m_1433 : Cond.fieldLink RX12 22 (TX12 7).1 (TX12 7).2.1 (TX12 7).2.2.1 ∈ WL := p_mt6 (i := 136) rfl rfl
set_option maxRecDepth 100000 in
theorem wf_X12_22_11 : FL RX12 22 11 7 (.array .int) true := ⟨RX12, TX12, 51, tyX12, rfl, inW_X12, by decide, m_1433, nmX12, tyX12_ok, by decide +kernel, rfl, fun h => by first | rfl | cases h⟩
set_option maxRecDepth 100000 in
theorem m_1434 : Cond.fieldLink RX12 25 (TX12 8).1 (TX12 8).2.1 (TX12 8).2.2.1 ∈ WL := p_mt6 (i := 137) rfl rfl
set_option maxRecDepth 100000 in
theorem wf_X12_25_11 : FL RX12 25 11 8 (.array .int) true := ⟨RX12, TX12, 51, tyX12, rfl, inW_X12, by decide, m_1434, nmX12, tyX12_ok, by decide +kernel, rfl, fun h => by first | rfl | cases h⟩
set_option maxRecDepth 100000 in
theorem m_673 : Cond.arrayClass .byte ∈ WL := p_mt3 (i := 96) rfl rfl
set_option maxRecDepth 100000 in
theorem m_1435 : Cond.fieldLink RX12 28 (TX12 9).1 (TX12 9).2.1 (TX12 9).2.2.1 ∈ WL := p_mt6 (i := 138) rfl rfl
set_option maxRecDepth 100000 in
theorem wf_X12_28_11 : FL RX12 28 11 9 (.array .byte) true := ⟨RX12, TX12, 51, tyX12, rfl, inW_X12, by decide, m_1435, nmX12, tyX12_ok, by decide +kernel, rfl, fun h => by first | rfl | cases h⟩
set_option maxRecDepth 100000 in
theorem m_1437 : Cond.fieldLink RX12 32 (TX12 11).1 (TX12 11).2.1 (TX12 11).2.2.1 ∈ WL := p_mt6 (i := 140) rfl rfl
set_option maxRecDepth 100000 in
theorem wf_X12_32_11 : FL RX12 32 11 11 (.array .long) true := ⟨RX12, TX12, 51, tyX12, rfl, inW_X12, by decide, m_1437, nmX12, tyX12_ok, by decide +kernel, rfl, fun h => by first | rfl | cases h⟩
set_option maxRecDepth 100000 in
theorem m_1445 : Cond.fieldLink RX12 36 (TX12 19).1 (TX12 19).2.1 (TX12 19).2.2.1 ∈ WL := p_mt6 (i := 148) rfl rfl
set_option maxRecDepth 100000 in
theorem wf_X12_36_11 : FL RX12 36 11 19 (.array .int) true := ⟨RX12, TX12, 51, tyX12, rfl, inW_X12, by decide, m_1445, nmX12, tyX12_ok, by decide +kernel, rfl, fun h => by first | rfl | cases h⟩
set_option maxRecDepth 100000 in
theorem m_1446 : Cond.fieldLink RX12 39 (TX12 20).1 (TX12 20).2.1 (TX12 20).2.2.1 ∈ WL := p_mt6 (i := 149) rfl rfl
set_option maxRecDepth 100000 in
theorem wf_X12_39_11 : FL RX12 39 11 20 (.array .int) true := ⟨RX12, TX12, 51, tyX12, rfl, inW_X12, by decide, m_1446, nmX12, tyX12_ok, by decide +kernel, rfl, fun h => by first | rfl | cases h⟩
set_option maxRecDepth 100000 in
theorem m_1447 : Cond.fieldLink RX12 42 (TX12 21).1 (TX12 21).2.1 (TX12 21).2.2.1 ∈ WL := p_mt6 (i := 150) rfl rfl
set_option maxRecDepth 100000 in
theorem wf_X12_42_11 : FL RX12 42 11 21 (.array .byte) false := ⟨RX12, TX12, 51, tyX12, rfl, inW_X12, by decide, m_1447, nmX12, tyX12_ok, by decide +kernel, rfl, fun h => by first | rfl | cases h⟩
set_option maxRecDepth 100000 in
theorem m_1448 : Cond.fieldLink RX12 45 (TX12 22).1 (TX12 22).2.1 (TX12 22).2.2.1 ∈ WL := p_mt6 (i := 151) rfl rfl
set_option maxRecDepth 100000 in
theorem wf_X12_45_11 : FL RX12 45 11 22 (.array .byte) false := ⟨RX12, TX12, 51, tyX12, rfl, inW_X12, by decide, m_1448, nmX12, tyX12_ok, by decide +kernel, rfl, fun h => by first | rfl | cases h⟩
set_option maxRecDepth 100000 in
theorem m_1451 : Cond.fieldLink RX12 48 (TX12 25).1 (TX12 25).2.1 (TX12 25).2.2.1 ∈ WL := p_mt6 (i := 154) rfl rfl
set_option maxRecDepth 100000 in
theorem wf_X12_48_11 : FL RX12 48 11 25 (.array .int) true := ⟨RX12, TX12, 51, tyX12, rfl, inW_X12, by decide, m_1451, nmX12, tyX12_ok, by decide +kernel, rfl, fun h => by first | rfl | cases h⟩
set_option maxRecDepth 100000 in
theorem m_1452 : Cond.fieldLink RX12 51 (TX12 26).1 (TX12 26).2.1 (TX12 26).2.2.1 ∈ WL := p_mt6 (i := 155) rfl rfl
set_option maxRecDepth 100000 in
theorem wf_X12_51_11 : FL RX12 51 11 26 (.array .int) true := ⟨RX12, TX12, 51, tyX12, rfl, inW_X12, by decide, m_1452, nmX12, tyX12_ok, by decide +kernel, rfl, fun h => by first | rfl | cases h⟩
set_option maxRecDepth 100000 in
theorem m_1454 : Cond.fieldLink RX12 54 (TX12 28).1 (TX12 28).2.1 (TX12 28).2.2.1 ∈ WL := p_mt6 (i := 157) rfl rfl
set_option maxRecDepth 100000 in
theorem wf_X12_54_11 : FL RX12 54 11 28 (.array .int) true := ⟨RX12, TX12, 51, tyX12, rfl, inW_X12, by decide, m_1454, nmX12, tyX12_ok, by decide +kernel, rfl, fun h => by first | rfl | cases h⟩
set_option maxRecDepth 100000 in
theorem m_1455 : Cond.fieldLink RX12 57 (TX12 29).1 (TX12 29).2.1 (TX12 29).2.2.1 ∈ WL := p_mt6 (i := 158) rfl rfl
set_option maxRecDepth 100000 in
theorem wf_X12_57_11 : FL RX12 57 11 29 (.array .int) true := ⟨RX12, TX12, 51, tyX12, rfl, inW_X12, by decide, m_1455, nmX12, tyX12_ok, by decide +kernel, rfl, fun h => by first | rfl | cases h⟩
set_option maxRecDepth 100000 in
theorem m_1456 : Cond.fieldLink RX12 60 (TX12 30).1 (TX12 30).2.1 (TX12 30).2.2.1 ∈ WL := p_mt6 (i := 159) rfl rfl
set_option maxRecDepth 100000 in
theorem wf_X12_60_11 : FL RX12 60 11 30 (.array .int) true := ⟨RX12, TX12, 51, tyX12, rfl, inW_X12, by decide, m_1456, nmX12, tyX12_ok, by decide +kernel, rfl, fun h => by first | rfl | cases h⟩
set_option maxRecDepth 100000 in
theorem m_1458 : Cond.fieldLink RX12 63 (TX12 32).1 (TX12 32).2.1 (TX12 32).2.2.1 ∈ WL := p_mt6 (i := 161) rfl rfl
set_option maxRecDepth 100000 in
theorem wf_X12_63_11 : FL RX12 63 11 32 (.array .int) true := ⟨RX12, TX12, 51, tyX12, rfl, inW_X12, by decide, m_1458, nmX12, tyX12_ok, by decide +kernel, rfl, fun h => by first | rfl | cases h⟩
set_option maxRecDepth 100000 in
theorem m_1459 : Cond.fieldLink RX12 66 (TX12 33).1 (TX12 33).2.1 (TX12 33).2.2.1 ∈ WL := p_mt6 (i := 162) rfl rfl
set_option maxRecDepth 100000 in
theorem wf_X12_66_11 : FL RX12 66 11 33 (.array .int) true := ⟨RX12, TX12, 51, tyX12, rfl, inW_X12, by decide, m_1459, nmX12, tyX12_ok, by decide +kernel, rfl, fun h => by first | rfl | cases h⟩
set_option maxRecDepth 100000 in
theorem m_1460 : Cond.fieldLink RX12 69 (TX12 34).1 (TX12 34).2.1 (TX12 34).2.2.1 ∈ WL := p_mt6 (i := 163) rfl rfl
set_option maxRecDepth 100000 in
theorem wf_X12_69_11 : FL RX12 69 11 34 (.array .int) true := ⟨RX12, TX12, 51, tyX12, rfl, inW_X12, by decide, m_1460, nmX12, tyX12_ok, by decide +kernel, rfl, fun h => by first | rfl | cases h⟩
set_option maxRecDepth 100000 in
theorem m_1461 : Cond.fieldLink RX12 72 (TX12 35).1 (TX12 35).2.1 (TX12 35).2.2.1 ∈ WL := p_mt6 (i := 164) rfl rfl
set_option maxRecDepth 100000 in
theorem wf_X12_72_11 : FL RX12 72 11 35 (.array .int) true := ⟨RX12, TX12, 51, tyX12, rfl, inW_X12, by decide, m_1461, nmX12, tyX12_ok, by decide +kernel, rfl, fun h => by first | rfl | cases h⟩
set_option maxRecDepth 100000 in
theorem m_1462 : Cond.fieldLink RX12 75 (TX12 36).1 (TX12 36).2.1 (TX12 36).2.2.1 ∈ WL := p_mt6 (i := 165) rfl rfl
set_option maxRecDepth 100000 in
theorem wf_X12_75_11 : FL RX12 75 11 36 (.array .int) true := ⟨RX12, TX12, 51, tyX12, rfl, inW_X12, by decide, m_1462, nmX12, tyX12_ok, by decide +kernel, rfl, fun h => by first | rfl | cases h⟩
set_option maxRecDepth 100000 in
theorem m_1464 : Cond.fieldLink RX12 78 (TX12 38).1 (TX12 38).2.1 (TX12 38).2.2.1 ∈ WL := p_mt6 (i := 167) rfl rfl
set_option maxRecDepth 100000 in
theorem wf_X12_78_11 : FL RX12 78 11 38 (.array .int) true := ⟨RX12, TX12, 51, tyX12, rfl, inW_X12, by decide, m_1464, nmX12, tyX12_ok, by decide +kernel, rfl, fun h => by first | rfl | cases h⟩
set_option maxRecDepth 100000 in
theorem m_1465 : Cond.fieldLink RX12 81 (TX12 39).1 (TX12 39).2.1 (TX12 39).2.2.1 ∈ WL := p_mt6 (i := 168) rfl rfl
set_option maxRecDepth 100000 in
theorem wf_X12_81_11 : FL RX12 81 11 39 (.array .int) true := ⟨RX12, TX12, 51, tyX12, rfl, inW_X12, by decide, m_1465, nmX12, tyX12_ok, by decide +kernel, rfl, fun h => by first | rfl | cases h⟩
set_option maxRecDepth 100000 in
theorem m_1466 : Cond.fieldLink RX12 84 (TX12 40).1 (TX12 40).2.1 (TX12 40).2.2.1 ∈ WL := p_mt6 (i := 169) rfl rfl
set_option maxRecDepth 100000 in
theorem wf_X12_84_11 : FL RX12 84 11 40 (.array .int) true := ⟨RX12, TX12, 51, tyX12, rfl, inW_X12, by decide, m_1466, nmX12, tyX12_ok, by decide +kernel, rfl, fun h => by first | rfl | cases h⟩
set_option maxRecDepth 100000 in
theorem m_1467 : Cond.fieldLink RX12 87 (TX12 41).1 (TX12 41).2.1 (TX12 41).2.2.1 ∈ WL := p_mt6 (i := 170) rfl rfl
set_option maxRecDepth 100000 in
theorem wf_X12_87_11 : FL RX12 87 11 41 (.array .int) true := ⟨RX12, TX12, 51, tyX12, rfl, inW_X12, by decide, m_1467, nmX12, tyX12_ok, by decide +kernel, rfl, fun h => by first | rfl | cases h⟩
set_option maxRecDepth 100000 in
theorem m_1468 : Cond.fieldLink RX12 90 (TX12 42).1 (TX12 42).2.1 (TX12 42).2.2.1 ∈ WL := p_mt6 (i := 171) rfl rfl
set_option maxRecDepth 100000 in
theorem wf_X12_90_11 : FL RX12 90 11 42 (.array .int) true := ⟨RX12, TX12, 51, tyX12, rfl, inW_X12, by decide, m_1468, nmX12, tyX12_ok, by decide +kernel, rfl, fun h => by first | rfl | cases h⟩
set_option maxRecDepth 100000 in
theorem m_1469 : Cond.fieldLink RX12 93 (TX12 43).1 (TX12 43).2.1 (TX12 43).2.2.1 ∈ WL := p_mt6 (i := 172) rfl rfl
set_option maxRecDepth 100000 in
theorem wf_X12_93_11 : FL RX12 93 11 43 (.array .int) true := ⟨RX12, TX12, 51, tyX12, rfl, inW_X12, by decide, m_1469, nmX12, tyX12_ok, by decide +kernel, rfl, fun h => by first | rfl | cases h⟩
set_option maxRecDepth 100000 in
theorem m_1471 : Cond.fieldLink RX12 96 (TX12 45).1 (TX12 45).2.1 (TX12 45).2.2.1 ∈ WL := p_mt6 (i := 174) rfl rfl
set_option maxRecDepth 100000 in
theorem wf_X12_96_11 : FL RX12 96 11 45 (.array .int) true := ⟨RX12, TX12, 51, tyX12, rfl, inW_X12, by decide, m_1471, nmX12, tyX12_ok, by decide +kernel, rfl, fun h => by first | rfl | cases h⟩
set_option maxRecDepth 100000 in
theorem m_1474 : Cond.fieldLink RX12 99 (TX12 48).1 (TX12 48).2.1 (TX12 48).2.2.1 ∈ WL := p_mt6 (i := 177) rfl rfl
set_option maxRecDepth 100000 in
theorem wf_X12_99_11 : FL RX12 99 11 48 (.array .int) true := ⟨RX12, TX12, 51, tyX12, rfl, inW_X12, by decide, m_1474, nmX12, tyX12_ok, by decide +kernel, rfl, fun h => by first | rfl | cases h⟩
set_option maxRecDepth 100000 in
theorem m_1580 : Cond.arrayClass .boolean ∈ WL := p_mt7 (i := 43) rfl rfl
set_option maxRecDepth 100000 in
theorem m_1475 : Cond.fieldLink RX12 102 (TX12 49).1 (TX12 49).2.1 (TX12 49).2.2.1 ∈ WL := p_mt6 (i := 178) rfl rfl
set_option maxRecDepth 100000 in
theorem wf_X12_102_11 : FL RX12 102 11 49 (.array .boolean) true := ⟨RX12, TX12, 51, tyX12, rfl, inW_X12, by decide, m_1475, nmX12, tyX12_ok, by decide +kernel, rfl, fun h => by first | rfl | cases h⟩
set_option maxRecDepth 100000 in
theorem m_1476 : Cond.fieldLink RX12 106 (TX12 50).1 (TX12 50).2.1 (TX12 50).2.2.1 ∈ WL := p_mt6 (i := 179) rfl rfl
set_option maxRecDepth 100000 in
theorem wf_X12_106_11 : FL RX12 106 11 50 (.array .int) true := ⟨RX12, TX12, 51, tyX12, rfl, inW_X12, by decide, m_1476, nmX12, tyX12_ok, by decide +kernel, rfl, fun h => by first | rfl | cases h⟩
set_option maxRecDepth 100000 in
theorem m_1439 : Cond.fieldLink RX12 109 (TX12 13).1 (TX12 13).2.1 (TX12 13).2.2.1 ∈ WL := p_mt6 (i := 142) rfl rfl
set_option maxRecDepth 100000 in
theorem wf_X12_109_11 : FL RX12 109 11 13 .int false := ⟨RX12, TX12, 51, tyX12, rfl, inW_X12, by decide, m_1439, nmX12, tyX12_ok, by decide +kernel, rfl, fun h => by first | rfl | cases h⟩
set_option maxRecDepth 100000 in
theorem m_1438 : Cond.fieldLink RX12 113 (TX12 12).1 (TX12 12).2.1 (TX12 12).2.2.1 ∈ WL := p_mt6 (i := 141) rfl rfl
set_option maxRecDepth 100000 in
theorem wf_X12_113_11 : FL RX12 113 11 12 .int false := ⟨RX12, TX12, 51, tyX12, rfl, inW_X12, by decide, m_1438, nmX12, tyX12_ok, by decide +kernel, rfl, fun h => by first | rfl | cases h⟩
set_option maxRecDepth 100000 in
theorem m_1427 : Cond.fieldLink RX12 116 (TX12 1).1 (TX12 1).2.1 (TX12 1).2.2.1 ∈ WL := p_mt6 (i := 130) rfl rfl
set_option maxRecDepth 100000 in
theorem wf_X12_116_11 : FL RX12 116 11 1 .int false := ⟨RX12, TX12, 51, tyX12, rfl, inW_X12, by decide, m_1427, nmX12, tyX12_ok, by decide +kernel, rfl, fun h => by first | rfl | cases h⟩
set_option maxRecDepth 100000 in
theorem m_1593 : Cond.methodLink RX12 119 yX12_in ∈ WL := p_mt7 (i := 56) rfl rfl
set_option maxRecDepth 100000 in
theorem m_1594 : Cond.static yX12_in ∈ WL := p_mt7 (i := 57) rfl rfl
set_option maxRecDepth 100000 in
theorem m_110 : Cond.initialized RX12 ∈ WL := p_mt1 (i := 13) rfl rfl
set_option maxRecDepth 100000 in
theorem m_1595 : Cond.code yX12_in cX12_in 3 (some .boolean) ∈ WL := p_mt7 (i := 58) rfl rfl
set_option maxRecDepth 100000 in
theorem ws_X12_119 : MS RX12 119 yX12_in cX12_in 3 (some .boolean) 3 := ⟨m_1593, m_1594, m_110, m_1595, by decide +kernel, by decide +kernel, by decide⟩
set_option maxRecDepth 100000 in
theorem m_1428 : Cond.fieldLink RX12 123 (TX12 2).1 (TX12 2).2.1 (TX12 2).2.2.1 ∈ WL := p_mt6 (i := 131) rfl rfl
set_option maxRecDepth 100000 in
theorem wf_X12_123_11 : FL RX12 123 11 2 .int false := ⟨RX12, TX12, 51, tyX12, rfl, inW_X12, by decide, m_1428, nmX12, tyX12_ok, by decide +kernel, rfl, fun h => by first | rfl | cases h⟩
set_option maxRecDepth 100000 in
theorem m_1429 : Cond.fieldLink RX12 126 (TX12 3).1 (TX12 3).2.1 (TX12 3).2.2.1 ∈ WL := p_mt6 (i := 132) rfl rfl
set_option maxRecDepth 100000 in
theorem wf_X12_126_11 : FL RX12 126 11 3 .int false := ⟨RX12, TX12, 51, tyX12, rfl, inW_X12, by decide, m_1429, nmX12, tyX12_ok, by decide +kernel, rfl, fun h => by first | rfl | cases h⟩
set_option maxRecDepth 100000 in
theorem m_1436 : Cond.fieldLink RX12 129 (TX12 10).1 (TX12 10).2.1 (TX12 10).2.2.1 ∈ WL := p_mt6 (i := 139) rfl rfl
set_option maxRecDepth 100000 in
theorem wf_X12_129_11 : FL RX12 129 11 10 .int false := ⟨RX12, TX12, 51, tyX12, rfl, inW_X12, by decide, m_1436, nmX12, tyX12_ok, by decide +kernel, rfl, fun h => by first | rfl | cases h⟩
set_option maxRecDepth 100000 in
theorem m_1440 : Cond.fieldLink RX12 132 (TX12 14).1 (TX12 14).2.1 (TX12 14).2.2.1 ∈ WL := p_mt6 (i := 143) rfl rfl
set_option maxRecDepth 100000 in
theorem wf_X12_132_11 : FL RX12 132 11 14 (.array .byte) false := ⟨RX12, TX12, 51, tyX12, rfl, inW_X12, by decide, m_1440, nmX12, tyX12_ok, by decide +kernel, rfl, fun h => by first | rfl | cases h⟩
set_option maxRecDepth 100000 in
theorem m_1441 : Cond.fieldLink RX12 135 (TX12 15).1 (TX12 15).2.1 (TX12 15).2.2.1 ∈ WL := p_mt6 (i := 144) rfl rfl
set_option maxRecDepth 100000 in
theorem wf_X12_135_11 : FL RX12 135 11 15 .int false := ⟨RX12, TX12, 51, tyX12, rfl, inW_X12, by decide, m_1441, nmX12, tyX12_ok, by decide +kernel, rfl, fun h => by first | rfl | cases h⟩
set_option maxRecDepth 100000 in
theorem m_1442 : Cond.fieldLink RX12 138 (TX12 16).1 (TX12 16).2.1 (TX12 16).2.2.1 ∈ WL := p_mt6 (i := 145) rfl rfl
set_option maxRecDepth 100000 in
theorem wf_X12_138_11 : FL RX12 138 11 16 .int false := ⟨RX12, TX12, 51, tyX12, rfl, inW_X12, by decide, m_1442, nmX12, tyX12_ok, by decide +kernel, rfl, fun h => by first | rfl | cases h⟩
set_option maxRecDepth 100000 in
theorem m_1443 : Cond.fieldLink RX12 141 (TX12 17).1 (TX12 17).2.1 (TX12 17).2.2.1 ∈ WL := p_mt6 (i := 146) rfl rfl
set_option maxRecDepth 100000 in
theorem wf_X12_141_11 : FL RX12 141 11 17 .int false := ⟨RX12, TX12, 51, tyX12, rfl, inW_X12, by decide, m_1443, nmX12, tyX12_ok, by decide +kernel, rfl, fun h => by first | rfl | cases h⟩
set_option maxRecDepth 100000 in
theorem m_1444 : Cond.fieldLink RX12 144 (TX12 18).1 (TX12 18).2.1 (TX12 18).2.2.1 ∈ WL := p_mt6 (i := 147) rfl rfl
set_option maxRecDepth 100000 in
theorem wf_X12_144_11 : FL RX12 144 11 18 .int false := ⟨RX12, TX12, 51, tyX12, rfl, inW_X12, by decide, m_1444, nmX12, tyX12_ok, by decide +kernel, rfl, fun h => by first | rfl | cases h⟩
set_option maxRecDepth 100000 in
theorem m_1604 : Cond.methodLink RX12 147 yX12_begin ∈ WL := p_mt7 (i := 67) rfl rfl
set_option maxRecDepth 100000 in
theorem m_1606 : Cond.instanceMethod yX12_begin ∈ WL := p_mt7 (i := 69) rfl rfl
set_option maxRecDepth 100000 in
theorem m_39 : Cond.selects RX12 yX12_begin yX12_begin ∈ WL := p_mt0 (i := 39) rfl rfl
set_option maxRecDepth 100000 in
theorem m_1607 : Cond.code yX12_begin cX12_begin 4 none ∈ WL := p_mt7 (i := 70) rfl rfl
set_option maxRecDepth 100000 in
theorem wv_X12_147 : MV RX12 147 11 yX12_begin cX12_begin 4 none 3 := ⟨⟨TX12, 51, rfl⟩, m_1604, m_1606, m_39, m_110, m_1607, by decide +kernel, by decide +kernel, by decide⟩
set_option maxRecDepth 100000 in
theorem m_1608 : Cond.methodLink RX12 151 yX12_fine ∈ WL := p_mt7 (i := 71) rfl rfl
set_option maxRecDepth 100000 in
theorem m_1610 : Cond.instanceMethod yX12_fine ∈ WL := p_mt7 (i := 73) rfl rfl
set_option maxRecDepth 100000 in
theorem m_40 : Cond.selects RX12 yX12_fine yX12_fine ∈ WL := p_mt0 (i := 40) rfl rfl
set_option maxRecDepth 100000 in
theorem m_1611 : Cond.code yX12_fine cX12_fine 1 (some .boolean) ∈ WL := p_mt7 (i := 74) rfl rfl
set_option maxRecDepth 100000 in
theorem wv_X12_151 : MV RX12 151 11 yX12_fine cX12_fine 1 (some .boolean) 0 := ⟨⟨TX12, 51, rfl⟩, m_1608, m_1610, m_40, m_110, m_1611, by decide +kernel, by decide +kernel, by decide⟩
set_option maxRecDepth 100000 in
theorem m_1624 : Cond.methodLink RX12 155 yX12_here ∈ WL := p_mt7 (i := 87) rfl rfl
set_option maxRecDepth 100000 in
theorem m_1626 : Cond.instanceMethod yX12_here ∈ WL := p_mt7 (i := 89) rfl rfl
set_option maxRecDepth 100000 in
theorem m_44 : Cond.selects RX12 yX12_here yX12_here ∈ WL := p_mt0 (i := 44) rfl rfl
set_option maxRecDepth 100000 in
theorem m_1627 : Cond.code yX12_here cX12_here 1 (some .int) ∈ WL := p_mt7 (i := 90) rfl rfl
set_option maxRecDepth 100000 in
theorem wv_X12_155 : MV RX12 155 11 yX12_here cX12_here 1 (some .int) 0 := ⟨⟨TX12, 51, rfl⟩, m_1624, m_1626, m_44, m_110, m_1627, by decide +kernel, by decide +kernel, by decide⟩
set_option maxRecDepth 100000 in
theorem m_1612 : Cond.methodLink RX12 163 yX12_fault ∈ WL := p_mt7 (i := 75) rfl rfl
set_option maxRecDepth 100000 in
theorem m_1614 : Cond.instanceMethod yX12_fault ∈ WL := p_mt7 (i := 77) rfl rfl
set_option maxRecDepth 100000 in
theorem m_41 : Cond.selects RX12 yX12_fault yX12_fault ∈ WL := p_mt0 (i := 41) rfl rfl
set_option maxRecDepth 100000 in
theorem m_1615 : Cond.code yX12_fault cX12_fault 2 none ∈ WL := p_mt7 (i := 78) rfl rfl
set_option maxRecDepth 100000 in
theorem wv_X12_163 : MV RX12 163 11 yX12_fault cX12_fault 2 none 1 := ⟨⟨TX12, 51, rfl⟩, m_1612, m_1614, m_41, m_110, m_1615, by decide +kernel, by decide +kernel, by decide⟩
set_option maxRecDepth 100000 in
theorem m_1628 : Cond.methodLink RX12 159 yX12_passes ∈ WL := p_mt7 (i := 91) rfl rfl
set_option maxRecDepth 100000 in
theorem m_1630 : Cond.instanceMethod yX12_passes ∈ WL := p_mt7 (i := 93) rfl rfl
set_option maxRecDepth 100000 in
theorem m_45 : Cond.selects RX12 yX12_passes yX12_passes ∈ WL := p_mt0 (i := 45) rfl rfl
set_option maxRecDepth 100000 in
theorem m_1631 : Cond.code yX12_passes cX12_passes 2 (some .boolean) ∈ WL := p_mt7 (i := 94) rfl rfl
set_option maxRecDepth 100000 in
theorem wv_X12_159 : MV RX12 159 11 yX12_passes cX12_passes 2 (some .boolean) 1 := ⟨⟨TX12, 51, rfl⟩, m_1628, m_1630, m_45, m_110, m_1631, by decide +kernel, by decide +kernel, by decide⟩
set_option maxRecDepth 100000 in
theorem m_1620 : Cond.methodLink RX12 167 yX12_oneOf ∈ WL := p_mt7 (i := 83) rfl rfl
set_option maxRecDepth 100000 in
theorem m_1622 : Cond.instanceMethod yX12_oneOf ∈ WL := p_mt7 (i := 85) rfl rfl
set_option maxRecDepth 100000 in
theorem m_43 : Cond.selects RX12 yX12_oneOf yX12_oneOf ∈ WL := p_mt0 (i := 43) rfl rfl
set_option maxRecDepth 100000 in
theorem m_1623 : Cond.code yX12_oneOf cX12_oneOf 3 (some .int) ∈ WL := p_mt7 (i := 86) rfl rfl
set_option maxRecDepth 100000 in
theorem wv_X12_167 : MV RX12 167 11 yX12_oneOf cX12_oneOf 3 (some .int) 2 := ⟨⟨TX12, 51, rfl⟩, m_1620, m_1622, m_43, m_110, m_1623, by decide +kernel, by decide +kernel, by decide⟩
set_option maxRecDepth 100000 in
theorem m_1453 : Cond.fieldLink RX12 171 (TX12 27).1 (TX12 27).2.1 (TX12 27).2.2.1 ∈ WL := p_mt6 (i := 156) rfl rfl
set_option maxRecDepth 100000 in
theorem wf_X12_171_11 : FL RX12 171 11 27 .int false := ⟨RX12, TX12, 51, tyX12, rfl, inW_X12, by decide, m_1453, nmX12, tyX12_ok, by decide +kernel, rfl, fun h => by first | rfl | cases h⟩
set_option maxRecDepth 100000 in
theorem m_1473 : Cond.fieldLink RX12 174 (TX12 47).1 (TX12 47).2.1 (TX12 47).2.2.1 ∈ WL := p_mt6 (i := 176) rfl rfl
set_option maxRecDepth 100000 in
theorem wf_X12_174_11 : FL RX12 174 11 47 .int false := ⟨RX12, TX12, 51, tyX12, rfl, inW_X12, by decide, m_1473, nmX12, tyX12_ok, by decide +kernel, rfl, fun h => by first | rfl | cases h⟩
set_option maxRecDepth 100000 in
theorem m_1616 : Cond.methodLink RX12 180 yX12_readGround ∈ WL := p_mt7 (i := 79) rfl rfl
set_option maxRecDepth 100000 in
theorem m_1618 : Cond.instanceMethod yX12_readGround ∈ WL := p_mt7 (i := 81) rfl rfl
set_option maxRecDepth 100000 in
theorem m_42 : Cond.selects RX12 yX12_readGround yX12_readGround ∈ WL := p_mt0 (i := 42) rfl rfl
set_option maxRecDepth 100000 in
theorem m_1619 : Cond.code yX12_readGround cX12_readGround 3 none ∈ WL := p_mt7 (i := 82) rfl rfl
set_option maxRecDepth 100000 in
theorem wv_X12_180 : MV RX12 180 11 yX12_readGround cX12_readGround 3 none 1 := ⟨⟨TX12, 51, rfl⟩, m_1616, m_1618, m_42, m_110, m_1619, by decide +kernel, by decide +kernel, by decide⟩
set_option maxRecDepth 100000 in
theorem m_1636 : Cond.methodLink RX12 186 yX12_told ∈ WL := p_mt7 (i := 99) rfl rfl
set_option maxRecDepth 100000 in
theorem m_1638 : Cond.instanceMethod yX12_told ∈ WL := p_mt7 (i := 101) rfl rfl
set_option maxRecDepth 100000 in
theorem m_47 : Cond.selects RX12 yX12_told yX12_told ∈ WL := p_mt0 (i := 47) rfl rfl
set_option maxRecDepth 100000 in
theorem m_1639 : Cond.code yX12_told cX12_told 1 none ∈ WL := p_mt7 (i := 102) rfl rfl
set_option maxRecDepth 100000 in
theorem wv_X12_186 : MV RX12 186 11 yX12_told cX12_told 1 none 0 := ⟨⟨TX12, 51, rfl⟩, m_1636, m_1638, m_47, m_110, m_1639, by decide +kernel, by decide +kernel, by decide⟩
set_option maxRecDepth 100000 in
theorem m_1632 : Cond.methodLink RX12 183 yX12_wasRight ∈ WL := p_mt7 (i := 95) rfl rfl
set_option maxRecDepth 100000 in
theorem m_1634 : Cond.instanceMethod yX12_wasRight ∈ WL := p_mt7 (i := 97) rfl rfl
set_option maxRecDepth 100000 in
theorem m_46 : Cond.selects RX12 yX12_wasRight yX12_wasRight ∈ WL := p_mt0 (i := 46) rfl rfl
set_option maxRecDepth 100000 in
theorem m_1635 : Cond.code yX12_wasRight cX12_wasRight 1 (some .boolean) ∈ WL := p_mt7 (i := 98) rfl rfl
set_option maxRecDepth 100000 in
theorem wv_X12_183 : MV RX12 183 11 yX12_wasRight cX12_wasRight 1 (some .boolean) 0 := ⟨⟨TX12, 51, rfl⟩, m_1632, m_1634, m_46, m_110, m_1635, by decide +kernel, by decide +kernel, by decide⟩
set_option maxRecDepth 100000 in
theorem m_1600 : Cond.methodLink RX12 177 yX12_beginText ∈ WL := p_mt7 (i := 63) rfl rfl
set_option maxRecDepth 100000 in
theorem m_1602 : Cond.instanceMethod yX12_beginText ∈ WL := p_mt7 (i := 65) rfl rfl
set_option maxRecDepth 100000 in
theorem m_38 : Cond.selects RX12 yX12_beginText yX12_beginText ∈ WL := p_mt0 (i := 38) rfl rfl
set_option maxRecDepth 100000 in
theorem m_1603 : Cond.code yX12_beginText cX12_beginText 2 none ∈ WL := p_mt7 (i := 66) rfl rfl
set_option maxRecDepth 100000 in
theorem wv_X12_177 : MV RX12 177 11 yX12_beginText cX12_beginText 2 none 1 := ⟨⟨TX12, 51, rfl⟩, m_1600, m_1602, m_38, m_110, m_1603, by decide +kernel, by decide +kernel, by decide⟩
set_option maxRecDepth 100000 in
theorem m_1644 : Cond.methodLink RX12 189 yX12_readMan ∈ WL := p_mt7 (i := 107) rfl rfl
set_option maxRecDepth 100000 in
theorem m_1646 : Cond.instanceMethod yX12_readMan ∈ WL := p_mt7 (i := 109) rfl rfl
set_option maxRecDepth 100000 in
theorem m_48 : Cond.selects RX12 yX12_readMan yX12_readMan ∈ WL := p_mt0 (i := 48) rfl rfl
set_option maxRecDepth 100000 in
theorem m_1647 : Cond.code yX12_readMan cX12_readMan 3 none ∈ WL := p_mt7 (i := 110) rfl rfl
set_option maxRecDepth 100000 in
theorem wv_X12_189 : MV RX12 189 11 yX12_readMan cX12_readMan 3 none 1 := ⟨⟨TX12, 51, rfl⟩, m_1644, m_1646, m_48, m_110, m_1647, by decide +kernel, by decide +kernel, by decide⟩
set_option maxRecDepth 100000 in
theorem m_1656 : Cond.methodLink RX12 192 yX12_isHumour ∈ WL := p_mt7 (i := 119) rfl rfl
set_option maxRecDepth 100000 in
theorem m_1657 : Cond.static yX12_isHumour ∈ WL := p_mt7 (i := 120) rfl rfl
set_option maxRecDepth 100000 in
theorem m_1658 : Cond.code yX12_isHumour cX12_isHumour 1 (some .boolean) ∈ WL := p_mt7 (i := 121) rfl rfl
set_option maxRecDepth 100000 in
theorem ws_X12_192 : MS RX12 192 yX12_isHumour cX12_isHumour 1 (some .boolean) 1 := ⟨m_1656, m_1657, m_110, m_1658, by decide +kernel, by decide +kernel, by decide⟩
set_option maxRecDepth 100000 in
theorem m_1652 : Cond.methodLink RX12 196 yX12_readWant ∈ WL := p_mt7 (i := 115) rfl rfl
set_option maxRecDepth 100000 in
theorem m_1654 : Cond.instanceMethod yX12_readWant ∈ WL := p_mt7 (i := 117) rfl rfl
set_option maxRecDepth 100000 in
theorem m_49 : Cond.selects RX12 yX12_readWant yX12_readWant ∈ WL := p_mt0 (i := 49) rfl rfl
set_option maxRecDepth 100000 in
theorem m_1655 : Cond.code yX12_readWant cX12_readWant 3 (some .int) ∈ WL := p_mt7 (i := 118) rfl rfl
set_option maxRecDepth 100000 in
theorem wv_X12_196 : MV RX12 196 11 yX12_readWant cX12_readWant 3 (some .int) 1 := ⟨⟨TX12, 51, rfl⟩, m_1652, m_1654, m_49, m_110, m_1655, by decide +kernel, by decide +kernel, by decide⟩
set_option maxRecDepth 100000 in
theorem m_1671 : Cond.methodLink RX12 200 yX12_sum ∈ WL := p_mt7 (i := 134) rfl rfl
set_option maxRecDepth 100000 in
theorem m_1673 : Cond.instanceMethod yX12_sum ∈ WL := p_mt7 (i := 136) rfl rfl
set_option maxRecDepth 100000 in
theorem m_52 : Cond.selects RX12 yX12_sum yX12_sum ∈ WL := p_mt0 (i := 52) rfl rfl
set_option maxRecDepth 100000 in
theorem m_1674 : Cond.code yX12_sum cX12_sum 5 (some .int) ∈ WL := p_mt7 (i := 137) rfl rfl
set_option maxRecDepth 100000 in
theorem wv_X12_200 : MV RX12 200 11 yX12_sum cX12_sum 5 (some .int) 1 := ⟨⟨TX12, 51, rfl⟩, m_1671, m_1673, m_52, m_110, m_1674, by decide +kernel, by decide +kernel, by decide⟩
set_option maxRecDepth 100000 in
theorem m_1450 : Cond.fieldLink RX12 222 (TX12 24).1 (TX12 24).2.1 (TX12 24).2.2.1 ∈ WL := p_mt6 (i := 153) rfl rfl
set_option maxRecDepth 100000 in
theorem wf_X12_222_11 : FL RX12 222 11 24 .boolean false := ⟨RX12, TX12, 51, tyX12, rfl, inW_X12, by decide, m_1450, nmX12, tyX12_ok, by decide +kernel, rfl, fun h => by first | rfl | cases h⟩
set_option maxRecDepth 100000 in
theorem m_1691 : Cond.methodLink RX12 219 yX12_letterOf ∈ WL := p_mt7 (i := 154) rfl rfl
set_option maxRecDepth 100000 in
theorem m_1692 : Cond.static yX12_letterOf ∈ WL := p_mt7 (i := 155) rfl rfl
set_option maxRecDepth 100000 in
theorem m_1693 : Cond.code yX12_letterOf cX12_letterOf 1 (some .int) ∈ WL := p_mt7 (i := 156) rfl rfl
set_option maxRecDepth 100000 in
theorem ws_X12_219 : MS RX12 219 yX12_letterOf cX12_letterOf 1 (some .int) 1 := ⟨m_1691, m_1692, m_110, m_1693, by decide +kernel, by decide +kernel, by decide⟩
set_option maxRecDepth 100000 in
theorem m_1687 : Cond.methodLink RX12 216 yX12_number ∈ WL := p_mt7 (i := 150) rfl rfl
set_option maxRecDepth 100000 in
theorem m_1689 : Cond.instanceMethod yX12_number ∈ WL := p_mt7 (i := 152) rfl rfl
set_option maxRecDepth 100000 in
theorem m_56 : Cond.selects RX12 yX12_number yX12_number ∈ WL := p_mt0 (i := 56) rfl rfl
set_option maxRecDepth 100000 in
theorem m_1690 : Cond.code yX12_number cX12_number 4 (some .int) ∈ WL := p_mt7 (i := 153) rfl rfl
set_option maxRecDepth 100000 in
theorem wv_X12_216 : MV RX12 216 11 yX12_number cX12_number 4 (some .int) 1 := ⟨⟨TX12, 51, rfl⟩, m_1687, m_1689, m_56, m_110, m_1690, by decide +kernel, by decide +kernel, by decide⟩
set_option maxRecDepth 100000 in
theorem m_1683 : Cond.methodLink RX12 212 yX12_need ∈ WL := p_mt7 (i := 146) rfl rfl
set_option maxRecDepth 100000 in
theorem m_1685 : Cond.instanceMethod yX12_need ∈ WL := p_mt7 (i := 148) rfl rfl
set_option maxRecDepth 100000 in
theorem m_55 : Cond.selects RX12 yX12_need yX12_need ∈ WL := p_mt0 (i := 55) rfl rfl
set_option maxRecDepth 100000 in
theorem m_1686 : Cond.code yX12_need cX12_need 2 none ∈ WL := p_mt7 (i := 149) rfl rfl
set_option maxRecDepth 100000 in
theorem wv_X12_212 : MV RX12 212 11 yX12_need cX12_need 2 none 1 := ⟨⟨TX12, 51, rfl⟩, m_1683, m_1685, m_55, m_110, m_1686, by decide +kernel, by decide +kernel, by decide⟩
set_option maxRecDepth 100000 in
theorem m_1667 : Cond.methodLink RX12 209 yX12_heldBy ∈ WL := p_mt7 (i := 130) rfl rfl
set_option maxRecDepth 100000 in
theorem m_1669 : Cond.instanceMethod yX12_heldBy ∈ WL := p_mt7 (i := 132) rfl rfl
set_option maxRecDepth 100000 in
theorem m_51 : Cond.selects RX12 yX12_heldBy yX12_heldBy ∈ WL := p_mt0 (i := 51) rfl rfl
set_option maxRecDepth 100000 in
theorem m_1670 : Cond.code yX12_heldBy cX12_heldBy 3 (some .int) ∈ WL := p_mt7 (i := 133) rfl rfl
set_option maxRecDepth 100000 in
theorem wv_X12_209 : MV RX12 209 11 yX12_heldBy cX12_heldBy 3 (some .int) 1 := ⟨⟨TX12, 51, rfl⟩, m_1667, m_1669, m_51, m_110, m_1670, by decide +kernel, by decide +kernel, by decide⟩
set_option maxRecDepth 100000 in
theorem m_1679 : Cond.methodLink RX12 206 yX12_thing ∈ WL := p_mt7 (i := 142) rfl rfl
set_option maxRecDepth 100000 in
theorem m_1681 : Cond.instanceMethod yX12_thing ∈ WL := p_mt7 (i := 144) rfl rfl
set_option maxRecDepth 100000 in
theorem m_54 : Cond.selects RX12 yX12_thing yX12_thing ∈ WL := p_mt0 (i := 54) rfl rfl
set_option maxRecDepth 100000 in
theorem m_1682 : Cond.code yX12_thing cX12_thing 4 (some .int) ∈ WL := p_mt7 (i := 145) rfl rfl
set_option maxRecDepth 100000 in
theorem wv_X12_206 : MV RX12 206 11 yX12_thing cX12_thing 4 (some .int) 1 := ⟨⟨TX12, 51, rfl⟩, m_1679, m_1681, m_54, m_110, m_1682, by decide +kernel, by decide +kernel, by decide⟩
set_option maxRecDepth 100000 in
theorem m_1675 : Cond.methodLink RX12 203 yX12_product ∈ WL := p_mt7 (i := 138) rfl rfl
set_option maxRecDepth 100000 in
theorem m_1677 : Cond.instanceMethod yX12_product ∈ WL := p_mt7 (i := 140) rfl rfl
set_option maxRecDepth 100000 in
theorem m_53 : Cond.selects RX12 yX12_product yX12_product ∈ WL := p_mt0 (i := 53) rfl rfl
set_option maxRecDepth 100000 in
theorem m_1678 : Cond.code yX12_product cX12_product 5 (some .int) ∈ WL := p_mt7 (i := 141) rfl rfl
set_option maxRecDepth 100000 in
theorem wv_X12_203 : MV RX12 203 11 yX12_product cX12_product 5 (some .int) 1 := ⟨⟨TX12, 51, rfl⟩, m_1675, m_1677, m_53, m_110, m_1678, by decide +kernel, by decide +kernel, by decide⟩
set_option maxRecDepth 100000 in
theorem m_1449 : Cond.fieldLink RX12 229 (TX12 23).1 (TX12 23).2.1 (TX12 23).2.2.1 ∈ WL := p_mt6 (i := 152) rfl rfl
set_option maxRecDepth 100000 in
theorem wf_X12_229_11 : FL RX12 229 11 23 .int false := ⟨RX12, TX12, 51, tyX12, rfl, inW_X12, by decide, m_1449, nmX12, tyX12_ok, by decide +kernel, rfl, fun h => by first | rfl | cases h⟩
set_option maxRecDepth 100000 in
theorem m_1663 : Cond.methodLink RX12 226 yX12_readRule ∈ WL := p_mt7 (i := 126) rfl rfl
set_option maxRecDepth 100000 in
theorem m_1665 : Cond.instanceMethod yX12_readRule ∈ WL := p_mt7 (i := 128) rfl rfl
set_option maxRecDepth 100000 in
theorem m_50 : Cond.selects RX12 yX12_readRule yX12_readRule ∈ WL := p_mt0 (i := 50) rfl rfl
set_option maxRecDepth 100000 in
theorem m_1666 : Cond.code yX12_readRule cX12_readRule 1 (some .boolean) ∈ WL := p_mt7 (i := 129) rfl rfl
set_option maxRecDepth 100000 in
theorem wv_X12_226 : MV RX12 226 11 yX12_readRule cX12_readRule 1 (some .boolean) 0 := ⟨⟨TX12, 51, rfl⟩, m_1663, m_1665, m_50, m_110, m_1666, by decide +kernel, by decide +kernel, by decide⟩
set_option maxRecDepth 100000 in
theorem m_1744 : Cond.methodLink RX12 245 Lib.Math.min.name ∈ WL := p_mt7 (i := 207) rfl rfl
set_option maxRecDepth 100000 in
theorem wm_X12_245 : MM RX12 245 Lib.Math.min.name Lib.Math.min.code 2 := ⟨m_1744, m_542, m_113, m_543⟩
set_option maxRecDepth 100000 in
theorem m_1745 : Cond.methodLink RX12 250 Lib.Math.max.name ∈ WL := p_mt7 (i := 208) rfl rfl
set_option maxRecDepth 100000 in
theorem wm_X12_250 : MM RX12 250 Lib.Math.max.name Lib.Math.max.code 2 := ⟨m_1745, m_539, m_113, m_540⟩
set_option maxRecDepth 100000 in
theorem m_1771 : Cond.methodLink RX12 242 yJ6_bitCount_0f7a4 ∈ WL := p_mt7 (i := 234) rfl rfl
set_option maxRecDepth 100000 in
theorem ws_X12_242 : MS RX12 242 yJ6_bitCount_0f7a4 cJ6_bitCount_0f7a4 1 (some .int) 1 := ⟨m_1771, m_812, m_122, m_813, by decide +kernel, by decide +kernel, by decide⟩
set_option maxRecDepth 100000 in
theorem m_1807 : Cond.methodLink RX12 236 yJ6_compare_7cf53 ∈ WL := p_mt8 (i := 30) rfl rfl
set_option maxRecDepth 100000 in
theorem m_1808 : Cond.static yJ6_compare_7cf53 ∈ WL := p_mt8 (i := 31) rfl rfl
set_option maxRecDepth 100000 in
theorem m_1809 : Cond.code yJ6_compare_7cf53 cJ6_compare_7cf53 2 (some .int) ∈ WL := p_mt8 (i := 32) rfl rfl
set_option maxRecDepth 100000 in
theorem ws_X12_236 : MS RX12 236 yJ6_compare_7cf53 cJ6_compare_7cf53 2 (some .int) 2 := ⟨m_1807, m_1808, m_122, m_1809, by decide +kernel, by decide +kernel, by decide⟩
set_option maxRecDepth 100000 in
theorem m_1733 : Cond.methodLink RX12 232 yX12_humour ∈ WL := p_mt7 (i := 196) rfl rfl
set_option maxRecDepth 100000 in
theorem m_1734 : Cond.static yX12_humour ∈ WL := p_mt7 (i := 197) rfl rfl
set_option maxRecDepth 100000 in
theorem m_1735 : Cond.code yX12_humour cX12_humour 3 (some .int) ∈ WL := p_mt7 (i := 198) rfl rfl
set_option maxRecDepth 100000 in
theorem ws_X12_232 : MS RX12 232 yX12_humour cX12_humour 3 (some .int) 3 := ⟨m_1733, m_1734, m_110, m_1735, by decide +kernel, by decide +kernel, by decide⟩
set_option maxRecDepth 100000 in
theorem m_1729 : Cond.methodLink RX12 253 yX12_isTerm ∈ WL := p_mt7 (i := 192) rfl rfl
set_option maxRecDepth 100000 in
theorem m_1731 : Cond.instanceMethod yX12_isTerm ∈ WL := p_mt7 (i := 194) rfl rfl
set_option maxRecDepth 100000 in
theorem m_63 : Cond.selects RX12 yX12_isTerm yX12_isTerm ∈ WL := p_mt0 (i := 63) rfl rfl
set_option maxRecDepth 100000 in
theorem m_1732 : Cond.code yX12_isTerm cX12_isTerm 7 (some .boolean) ∈ WL := p_mt7 (i := 195) rfl rfl
set_option maxRecDepth 100000 in
theorem wv_X12_253 : MV RX12 253 11 yX12_isTerm cX12_isTerm 7 (some .boolean) 4 := ⟨⟨TX12, 51, rfl⟩, m_1729, m_1731, m_63, m_110, m_1732, by decide +kernel, by decide +kernel, by decide⟩
set_option maxRecDepth 100000 in
theorem m_1725 : Cond.methodLink RX12 257 yX12_hasWant ∈ WL := p_mt7 (i := 188) rfl rfl
set_option maxRecDepth 100000 in
theorem m_1727 : Cond.instanceMethod yX12_hasWant ∈ WL := p_mt7 (i := 190) rfl rfl
set_option maxRecDepth 100000 in
theorem m_62 : Cond.selects RX12 yX12_hasWant yX12_hasWant ∈ WL := p_mt0 (i := 62) rfl rfl
set_option maxRecDepth 100000 in
theorem m_1728 : Cond.code yX12_hasWant cX12_hasWant 5 (some .boolean) ∈ WL := p_mt7 (i := 191) rfl rfl
set_option maxRecDepth 100000 in
theorem wv_X12_257 : MV RX12 257 11 yX12_hasWant cX12_hasWant 5 (some .boolean) 3 := ⟨⟨TX12, 51, rfl⟩, m_1725, m_1727, m_62, m_110, m_1728, by decide +kernel, by decide +kernel, by decide⟩
set_option maxRecDepth 100000 in
theorem m_1721 : Cond.methodLink RX12 261 yX12_had ∈ WL := p_mt7 (i := 184) rfl rfl
set_option maxRecDepth 100000 in
theorem m_1723 : Cond.instanceMethod yX12_had ∈ WL := p_mt7 (i := 186) rfl rfl
set_option maxRecDepth 100000 in
theorem m_61 : Cond.selects RX12 yX12_had yX12_had ∈ WL := p_mt0 (i := 61) rfl rfl
set_option maxRecDepth 100000 in
theorem m_1724 : Cond.code yX12_had cX12_had 5 (some .int) ∈ WL := p_mt7 (i := 187) rfl rfl
set_option maxRecDepth 100000 in
theorem wv_X12_261 : MV RX12 261 11 yX12_had cX12_had 5 (some .int) 2 := ⟨⟨TX12, 51, rfl⟩, m_1721, m_1723, m_61, m_110, m_1724, by decide +kernel, by decide +kernel, by decide⟩
set_option maxRecDepth 100000 in
theorem m_1710 : Cond.methodLink RX12 265 yX12_has ∈ WL := p_mt7 (i := 173) rfl rfl
set_option maxRecDepth 100000 in
theorem m_1711 : Cond.static yX12_has ∈ WL := p_mt7 (i := 174) rfl rfl
set_option maxRecDepth 100000 in
theorem m_1712 : Cond.code yX12_has cX12_has 2 (some .boolean) ∈ WL := p_mt7 (i := 175) rfl rfl
set_option maxRecDepth 100000 in
theorem ws_X12_265 : MS RX12 265 yX12_has cX12_has 2 (some .boolean) 2 := ⟨m_1710, m_1711, m_110, m_1712, by decide +kernel, by decide +kernel, by decide⟩
set_option maxRecDepth 100000 in
theorem m_1702 : Cond.methodLink RX12 272 yX12_lost ∈ WL := p_mt7 (i := 165) rfl rfl
set_option maxRecDepth 100000 in
theorem m_1704 : Cond.instanceMethod yX12_lost ∈ WL := p_mt7 (i := 167) rfl rfl
set_option maxRecDepth 100000 in
theorem m_58 : Cond.selects RX12 yX12_lost yX12_lost ∈ WL := p_mt0 (i := 58) rfl rfl
set_option maxRecDepth 100000 in
theorem m_1705 : Cond.code yX12_lost cX12_lost 1 (some .int) ∈ WL := p_mt7 (i := 168) rfl rfl
set_option maxRecDepth 100000 in
theorem wv_X12_272 : MV RX12 272 11 yX12_lost cX12_lost 1 (some .int) 0 := ⟨⟨TX12, 51, rfl⟩, m_1702, m_1704, m_58, m_110, m_1705, by decide +kernel, by decide +kernel, by decide⟩
set_option maxRecDepth 100000 in
theorem m_1706 : Cond.methodLink RX12 275 yX12_holders ∈ WL := p_mt7 (i := 169) rfl rfl
set_option maxRecDepth 100000 in
theorem m_1708 : Cond.instanceMethod yX12_holders ∈ WL := p_mt7 (i := 171) rfl rfl
set_option maxRecDepth 100000 in
theorem m_59 : Cond.selects RX12 yX12_holders yX12_holders ∈ WL := p_mt0 (i := 59) rfl rfl
set_option maxRecDepth 100000 in
theorem m_1709 : Cond.code yX12_holders cX12_holders 4 (some .int) ∈ WL := p_mt7 (i := 172) rfl rfl
set_option maxRecDepth 100000 in
theorem wv_X12_275 : MV RX12 275 11 yX12_holders cX12_holders 4 (some .int) 1 := ⟨⟨TX12, 51, rfl⟩, m_1706, m_1708, m_59, m_110, m_1709, by decide +kernel, by decide +kernel, by decide⟩
set_option maxRecDepth 100000 in
theorem m_1698 : Cond.methodLink RX12 269 yX12_isGround ∈ WL := p_mt7 (i := 161) rfl rfl
set_option maxRecDepth 100000 in
theorem m_1700 : Cond.instanceMethod yX12_isGround ∈ WL := p_mt7 (i := 163) rfl rfl
set_option maxRecDepth 100000 in
theorem m_57 : Cond.selects RX12 yX12_isGround yX12_isGround ∈ WL := p_mt0 (i := 57) rfl rfl
set_option maxRecDepth 100000 in
theorem m_1701 : Cond.code yX12_isGround cX12_isGround 2 (some .boolean) ∈ WL := p_mt7 (i := 164) rfl rfl
set_option maxRecDepth 100000 in
theorem wv_X12_269 : MV RX12 269 11 yX12_isGround cX12_isGround 2 (some .boolean) 1 := ⟨⟨TX12, 51, rfl⟩, m_1698, m_1700, m_57, m_110, m_1701, by decide +kernel, by decide +kernel, by decide⟩
set_option maxRecDepth 100000 in
theorem m_1717 : Cond.methodLink RX12 278 yX12_isMan ∈ WL := p_mt7 (i := 180) rfl rfl
set_option maxRecDepth 100000 in
theorem m_1719 : Cond.instanceMethod yX12_isMan ∈ WL := p_mt7 (i := 182) rfl rfl
set_option maxRecDepth 100000 in
theorem m_60 : Cond.selects RX12 yX12_isMan yX12_isMan ∈ WL := p_mt0 (i := 60) rfl rfl
set_option maxRecDepth 100000 in
theorem m_1720 : Cond.code yX12_isMan cX12_isMan 2 (some .boolean) ∈ WL := p_mt7 (i := 183) rfl rfl
set_option maxRecDepth 100000 in
theorem wv_X12_278 : MV RX12 278 11 yX12_isMan cX12_isMan 2 (some .boolean) 1 := ⟨⟨TX12, 51, rfl⟩, m_1717, m_1719, m_60, m_110, m_1720, by decide +kernel, by decide +kernel, by decide⟩
set_option maxRecDepth 100000 in
theorem m_1746 : Cond.methodLink RX12 281 yX12_stock ∈ WL := p_mt7 (i := 209) rfl rfl
set_option maxRecDepth 100000 in
theorem m_1748 : Cond.instanceMethod yX12_stock ∈ WL := p_mt7 (i := 211) rfl rfl
set_option maxRecDepth 100000 in
theorem m_64 : Cond.selects RX12 yX12_stock yX12_stock ∈ WL := p_mt0 (i := 64) rfl rfl
set_option maxRecDepth 100000 in
theorem m_1749 : Cond.code yX12_stock cX12_stock 3 (some .int) ∈ WL := p_mt7 (i := 212) rfl rfl
set_option maxRecDepth 100000 in
theorem wv_X12_281 : MV RX12 281 11 yX12_stock cX12_stock 3 (some .int) 0 := ⟨⟨TX12, 51, rfl⟩, m_1746, m_1748, m_64, m_110, m_1749, by decide +kernel, by decide +kernel, by decide⟩
set_option maxRecDepth 100000 in
theorem m_1762 : Cond.methodLink RX12 284 yX12_lay ∈ WL := p_mt7 (i := 225) rfl rfl
set_option maxRecDepth 100000 in
theorem m_1763 : Cond.static yX12_lay ∈ WL := p_mt7 (i := 226) rfl rfl
set_option maxRecDepth 100000 in
theorem m_1764 : Cond.code yX12_lay cX12_lay 4 none ∈ WL := p_mt7 (i := 227) rfl rfl
set_option maxRecDepth 100000 in
theorem ws_X12_284 : MS RX12 284 yX12_lay cX12_lay 4 none 3 := ⟨m_1762, m_1763, m_110, m_1764, by decide +kernel, by decide +kernel, by decide⟩
set_option maxRecDepth 100000 in
theorem m_1768 : Cond.methodLink RX12 288 yX12_hold ∈ WL := p_mt7 (i := 231) rfl rfl
set_option maxRecDepth 100000 in
theorem m_1769 : Cond.static yX12_hold ∈ WL := p_mt7 (i := 232) rfl rfl
set_option maxRecDepth 100000 in
theorem m_1770 : Cond.code yX12_hold cX12_hold 3 none ∈ WL := p_mt7 (i := 233) rfl rfl
set_option maxRecDepth 100000 in
theorem ws_X12_288 : MS RX12 288 yX12_hold cX12_hold 3 none 3 := ⟨m_1768, m_1769, m_110, m_1770, by decide +kernel, by decide +kernel, by decide⟩
set_option maxRecDepth 100000 in
theorem m_1765 : Cond.methodLink RX12 299 yX12_goGift ∈ WL := p_mt7 (i := 228) rfl rfl
set_option maxRecDepth 100000 in
theorem m_1766 : Cond.static yX12_goGift ∈ WL := p_mt7 (i := 229) rfl rfl
set_option maxRecDepth 100000 in
theorem m_1767 : Cond.code yX12_goGift cX12_goGift 3 none ∈ WL := p_mt7 (i := 230) rfl rfl
set_option maxRecDepth 100000 in
theorem ws_X12_299 : MS RX12 299 yX12_goGift cX12_goGift 3 none 3 := ⟨m_1765, m_1766, m_110, m_1767, by decide +kernel, by decide +kernel, by decide⟩
set_option maxRecDepth 100000 in
theorem m_1758 : Cond.methodLink RX12 295 yX12_remember ∈ WL := p_mt7 (i := 221) rfl rfl
set_option maxRecDepth 100000 in
theorem m_1760 : Cond.instanceMethod yX12_remember ∈ WL := p_mt7 (i := 223) rfl rfl
set_option maxRecDepth 100000 in
theorem m_66 : Cond.selects RX12 yX12_remember yX12_remember ∈ WL := p_mt0 (i := 66) rfl rfl
set_option maxRecDepth 100000 in
theorem m_1761 : Cond.code yX12_remember cX12_remember 3 none ∈ WL := p_mt7 (i := 224) rfl rfl
set_option maxRecDepth 100000 in
theorem wv_X12_295 : MV RX12 295 11 yX12_remember cX12_remember 3 none 1 := ⟨⟨TX12, 51, rfl⟩, m_1758, m_1760, m_66, m_110, m_1761, by decide +kernel, by decide +kernel, by decide⟩
set_option maxRecDepth 100000 in
theorem m_1754 : Cond.methodLink RX12 292 yX12_refusesGift ∈ WL := p_mt7 (i := 217) rfl rfl
set_option maxRecDepth 100000 in
theorem m_1756 : Cond.instanceMethod yX12_refusesGift ∈ WL := p_mt7 (i := 219) rfl rfl
set_option maxRecDepth 100000 in
theorem m_65 : Cond.selects RX12 yX12_refusesGift yX12_refusesGift ∈ WL := p_mt0 (i := 65) rfl rfl
set_option maxRecDepth 100000 in
theorem m_1757 : Cond.code yX12_refusesGift cX12_refusesGift 4 (some .int) ∈ WL := p_mt7 (i := 220) rfl rfl
set_option maxRecDepth 100000 in
theorem wv_X12_292 : MV RX12 292 11 yX12_refusesGift cX12_refusesGift 4 (some .int) 3 := ⟨⟨TX12, 51, rfl⟩, m_1754, m_1756, m_65, m_110, m_1757, by decide +kernel, by decide +kernel, by decide⟩
set_option maxRecDepth 100000 in
theorem m_1780 : Cond.methodLink RX12 305 yX12_goBack ∈ WL := p_mt8 (i := 3) rfl rfl
set_option maxRecDepth 100000 in
theorem m_1781 : Cond.static yX12_goBack ∈ WL := p_mt8 (i := 4) rfl rfl
set_option maxRecDepth 100000 in
theorem m_1782 : Cond.code yX12_goBack cX12_goBack 3 none ∈ WL := p_mt8 (i := 5) rfl rfl
set_option maxRecDepth 100000 in
theorem ws_X12_305 : MS RX12 305 yX12_goBack cX12_goBack 3 none 3 := ⟨m_1780, m_1781, m_110, m_1782, by decide +kernel, by decide +kernel, by decide⟩
set_option maxRecDepth 100000 in
theorem m_1776 : Cond.methodLink RX12 302 yX12_refusesBack ∈ WL := p_mt7 (i := 239) rfl rfl
set_option maxRecDepth 100000 in
theorem m_1778 : Cond.instanceMethod yX12_refusesBack ∈ WL := p_mt8 (i := 1) rfl rfl
set_option maxRecDepth 100000 in
theorem m_67 : Cond.selects RX12 yX12_refusesBack yX12_refusesBack ∈ WL := p_mt0 (i := 67) rfl rfl
set_option maxRecDepth 100000 in
theorem m_1779 : Cond.code yX12_refusesBack cX12_refusesBack 4 (some .int) ∈ WL := p_mt8 (i := 2) rfl rfl
set_option maxRecDepth 100000 in
theorem wv_X12_302 : MV RX12 302 11 yX12_refusesBack cX12_refusesBack 4 (some .int) 3 := ⟨⟨TX12, 51, rfl⟩, m_1776, m_1778, m_67, m_110, m_1779, by decide +kernel, by decide +kernel, by decide⟩
set_option maxRecDepth 100000 in
theorem m_1803 : Cond.methodLink RX12 308 yX12_pushOf ∈ WL := p_mt8 (i := 26) rfl rfl
set_option maxRecDepth 100000 in
theorem m_1805 : Cond.instanceMethod yX12_pushOf ∈ WL := p_mt8 (i := 28) rfl rfl
set_option maxRecDepth 100000 in
theorem m_71 : Cond.selects RX12 yX12_pushOf yX12_pushOf ∈ WL := p_mt0 (i := 71) rfl rfl
set_option maxRecDepth 100000 in
theorem m_1806 : Cond.code yX12_pushOf cX12_pushOf 8 (some .int) ∈ WL := p_mt8 (i := 29) rfl rfl
set_option maxRecDepth 100000 in
theorem wv_X12_308 : MV RX12 308 11 yX12_pushOf cX12_pushOf 8 (some .int) 4 := ⟨⟨TX12, 51, rfl⟩, m_1803, m_1805, m_71, m_110, m_1806, by decide +kernel, by decide +kernel, by decide⟩
set_option maxRecDepth 100000 in
theorem m_1457 : Cond.fieldLink RX12 316 (TX12 31).1 (TX12 31).2.1 (TX12 31).2.2.1 ∈ WL := p_mt6 (i := 160) rfl rfl
set_option maxRecDepth 100000 in
theorem wf_X12_316_11 : FL RX12 316 11 31 .int false := ⟨RX12, TX12, 51, tyX12, rfl, inW_X12, by decide, m_1457, nmX12, tyX12_ok, by decide +kernel, rfl, fun h => by first | rfl | cases h⟩
set_option maxRecDepth 100000 in
theorem m_1799 : Cond.methodLink RX12 312 yX12_goMan ∈ WL := p_mt8 (i := 22) rfl rfl
set_option maxRecDepth 100000 in
theorem m_1801 : Cond.instanceMethod yX12_goMan ∈ WL := p_mt8 (i := 24) rfl rfl
set_option maxRecDepth 100000 in
theorem m_70 : Cond.selects RX12 yX12_goMan yX12_goMan ∈ WL := p_mt0 (i := 70) rfl rfl
set_option maxRecDepth 100000 in
theorem m_1802 : Cond.code yX12_goMan cX12_goMan 5 none ∈ WL := p_mt8 (i := 25) rfl rfl
set_option maxRecDepth 100000 in
theorem wv_X12_312 : MV RX12 312 11 yX12_goMan cX12_goMan 5 none 2 := ⟨⟨TX12, 51, rfl⟩, m_1799, m_1801, m_70, m_110, m_1802, by decide +kernel, by decide +kernel, by decide⟩
set_option maxRecDepth 100000 in
theorem m_1795 : Cond.methodLink RX12 319 yX12_goDay ∈ WL := p_mt8 (i := 18) rfl rfl
set_option maxRecDepth 100000 in
theorem m_1797 : Cond.instanceMethod yX12_goDay ∈ WL := p_mt8 (i := 20) rfl rfl
set_option maxRecDepth 100000 in
theorem m_69 : Cond.selects RX12 yX12_goDay yX12_goDay ∈ WL := p_mt0 (i := 69) rfl rfl
set_option maxRecDepth 100000 in
theorem m_1798 : Cond.code yX12_goDay cX12_goDay 4 none ∈ WL := p_mt8 (i := 21) rfl rfl
set_option maxRecDepth 100000 in
theorem wv_X12_319 : MV RX12 319 11 yX12_goDay cX12_goDay 4 none 1 := ⟨⟨TX12, 51, rfl⟩, m_1795, m_1797, m_69, m_110, m_1798, by decide +kernel, by decide +kernel, by decide⟩
set_option maxRecDepth 100000 in
theorem m_1818 : Cond.methodLink RX12 333 yX12_hadByAll ∈ WL := p_mt8 (i := 41) rfl rfl
set_option maxRecDepth 100000 in
theorem m_1820 : Cond.instanceMethod yX12_hadByAll ∈ WL := p_mt8 (i := 43) rfl rfl
set_option maxRecDepth 100000 in
theorem m_74 : Cond.selects RX12 yX12_hadByAll yX12_hadByAll ∈ WL := p_mt0 (i := 74) rfl rfl
set_option maxRecDepth 100000 in
theorem m_1821 : Cond.code yX12_hadByAll cX12_hadByAll 4 (some .int) ∈ WL := p_mt8 (i := 44) rfl rfl
set_option maxRecDepth 100000 in
theorem wv_X12_333 : MV RX12 333 11 yX12_hadByAll cX12_hadByAll 4 (some .int) 1 := ⟨⟨TX12, 51, rfl⟩, m_1818, m_1820, m_74, m_110, m_1821, by decide +kernel, by decide +kernel, by decide⟩
set_option maxRecDepth 100000 in
theorem m_1814 : Cond.methodLink RX12 329 yX12_tell ∈ WL := p_mt8 (i := 37) rfl rfl
set_option maxRecDepth 100000 in
theorem m_1816 : Cond.instanceMethod yX12_tell ∈ WL := p_mt8 (i := 39) rfl rfl
set_option maxRecDepth 100000 in
theorem m_73 : Cond.selects RX12 yX12_tell yX12_tell ∈ WL := p_mt0 (i := 73) rfl rfl
set_option maxRecDepth 100000 in
theorem m_1817 : Cond.code yX12_tell cX12_tell 3 none ∈ WL := p_mt8 (i := 40) rfl rfl
set_option maxRecDepth 100000 in
theorem wv_X12_329 : MV RX12 329 11 yX12_tell cX12_tell 3 none 1 := ⟨⟨TX12, 51, rfl⟩, m_1814, m_1816, m_73, m_110, m_1817, by decide +kernel, by decide +kernel, by decide⟩
set_option maxRecDepth 100000 in
theorem m_1810 : Cond.methodLink RX12 325 yX12_humoursOfAll ∈ WL := p_mt8 (i := 33) rfl rfl
set_option maxRecDepth 100000 in
theorem m_1812 : Cond.instanceMethod yX12_humoursOfAll ∈ WL := p_mt8 (i := 35) rfl rfl
set_option maxRecDepth 100000 in
theorem m_72 : Cond.selects RX12 yX12_humoursOfAll yX12_humoursOfAll ∈ WL := p_mt0 (i := 72) rfl rfl
set_option maxRecDepth 100000 in
theorem m_1813 : Cond.code yX12_humoursOfAll cX12_humoursOfAll 4 (some .int) ∈ WL := p_mt8 (i := 36) rfl rfl
set_option maxRecDepth 100000 in
theorem wv_X12_325 : MV RX12 325 11 yX12_humoursOfAll cX12_humoursOfAll 4 (some .int) 1 := ⟨⟨TX12, 51, rfl⟩, m_1810, m_1812, m_72, m_110, m_1813, by decide +kernel, by decide +kernel, by decide⟩
set_option maxRecDepth 100000 in
theorem m_1791 : Cond.methodLink RX12 322 yX12_goDays ∈ WL := p_mt8 (i := 14) rfl rfl
set_option maxRecDepth 100000 in
theorem m_1793 : Cond.instanceMethod yX12_goDays ∈ WL := p_mt8 (i := 16) rfl rfl
set_option maxRecDepth 100000 in
theorem m_68 : Cond.selects RX12 yX12_goDays yX12_goDays ∈ WL := p_mt0 (i := 68) rfl rfl
set_option maxRecDepth 100000 in
theorem m_1794 : Cond.code yX12_goDays cX12_goDays 4 none ∈ WL := p_mt8 (i := 17) rfl rfl
set_option maxRecDepth 100000 in
theorem wv_X12_322 : MV RX12 322 11 yX12_goDays cX12_goDays 4 none 2 := ⟨⟨TX12, 51, rfl⟩, m_1791, m_1793, m_68, m_110, m_1794, by decide +kernel, by decide +kernel, by decide⟩
set_option maxRecDepth 100000 in
theorem m_1826 : Cond.methodLink RX12 336 yX12_readAct ∈ WL := p_mt8 (i := 49) rfl rfl
set_option maxRecDepth 100000 in
theorem m_1828 : Cond.instanceMethod yX12_readAct ∈ WL := p_mt8 (i := 51) rfl rfl
set_option maxRecDepth 100000 in
theorem m_75 : Cond.selects RX12 yX12_readAct yX12_readAct ∈ WL := p_mt0 (i := 75) rfl rfl
set_option maxRecDepth 100000 in
theorem m_1829 : Cond.code yX12_readAct cX12_readAct 3 none ∈ WL := p_mt8 (i := 52) rfl rfl
set_option maxRecDepth 100000 in
theorem wv_X12_336 : MV RX12 336 11 yX12_readAct cX12_readAct 3 none 1 := ⟨⟨TX12, 51, rfl⟩, m_1826, m_1828, m_75, m_110, m_1829, by decide +kernel, by decide +kernel, by decide⟩
set_option maxRecDepth 100000 in
theorem m_1830 : Cond.methodLink RX12 339 yX12_act ∈ WL := p_mt8 (i := 53) rfl rfl
set_option maxRecDepth 100000 in
theorem m_1832 : Cond.instanceMethod yX12_act ∈ WL := p_mt8 (i := 55) rfl rfl
set_option maxRecDepth 100000 in
theorem m_76 : Cond.selects RX12 yX12_act yX12_act ∈ WL := p_mt0 (i := 76) rfl rfl
set_option maxRecDepth 100000 in
theorem m_1833 : Cond.code yX12_act cX12_act 4 (some .boolean) ∈ WL := p_mt8 (i := 56) rfl rfl
set_option maxRecDepth 100000 in
theorem wv_X12_339 : MV RX12 339 11 yX12_act cX12_act 4 (some .boolean) 3 := ⟨⟨TX12, 51, rfl⟩, m_1830, m_1832, m_76, m_110, m_1833, by decide +kernel, by decide +kernel, by decide⟩
set_option maxRecDepth 100000 in
theorem m_1842 : Cond.methodLink RX12 342 yX12_tellHumours ∈ WL := p_mt8 (i := 65) rfl rfl
set_option maxRecDepth 100000 in
theorem m_1844 : Cond.instanceMethod yX12_tellHumours ∈ WL := p_mt8 (i := 67) rfl rfl
set_option maxRecDepth 100000 in
theorem m_77 : Cond.selects RX12 yX12_tellHumours yX12_tellHumours ∈ WL := p_mt0 (i := 77) rfl rfl
set_option maxRecDepth 100000 in
theorem m_1845 : Cond.code yX12_tellHumours cX12_tellHumours 4 none ∈ WL := p_mt8 (i := 68) rfl rfl
set_option maxRecDepth 100000 in
theorem wv_X12_342 : MV RX12 342 11 yX12_tellHumours cX12_tellHumours 4 none 2 := ⟨⟨TX12, 51, rfl⟩, m_1842, m_1844, m_77, m_110, m_1845, by decide +kernel, by decide +kernel, by decide⟩
set_option maxRecDepth 100000 in
theorem m_1854 : Cond.methodLink RX12 345 yX12_isWant ∈ WL := p_mt8 (i := 77) rfl rfl
set_option maxRecDepth 100000 in
theorem m_1856 : Cond.instanceMethod yX12_isWant ∈ WL := p_mt8 (i := 79) rfl rfl
set_option maxRecDepth 100000 in
theorem m_78 : Cond.selects RX12 yX12_isWant yX12_isWant ∈ WL := p_mt0 (i := 78) rfl rfl
set_option maxRecDepth 100000 in
theorem m_1857 : Cond.code yX12_isWant cX12_isWant 2 (some .boolean) ∈ WL := p_mt8 (i := 80) rfl rfl
set_option maxRecDepth 100000 in
theorem wv_X12_345 : MV RX12 345 11 yX12_isWant cX12_isWant 2 (some .boolean) 1 := ⟨⟨TX12, 51, rfl⟩, m_1854, m_1856, m_78, m_110, m_1857, by decide +kernel, by decide +kernel, by decide⟩
set_option maxRecDepth 100000 in
theorem m_1862 : Cond.methodLink RX12 348 Lib.Math.abs.name ∈ WL := p_mt8 (i := 85) rfl rfl
set_option maxRecDepth 100000 in
theorem wm_X12_348 : MM RX12 348 Lib.Math.abs.name Lib.Math.abs.code 1 := ⟨m_1862, m_1032, m_113, m_1033⟩
set_option maxRecDepth 100000 in
theorem m_1891 : Cond.methodLink RX12 351 yX12_goAlone ∈ WL := p_mt8 (i := 114) rfl rfl
set_option maxRecDepth 100000 in
theorem m_1893 : Cond.instanceMethod yX12_goAlone ∈ WL := p_mt8 (i := 116) rfl rfl
set_option maxRecDepth 100000 in
theorem m_83 : Cond.selects RX12 yX12_goAlone yX12_goAlone ∈ WL := p_mt0 (i := 83) rfl rfl
set_option maxRecDepth 100000 in
theorem m_1894 : Cond.code yX12_goAlone cX12_goAlone 3 none ∈ WL := p_mt8 (i := 117) rfl rfl
set_option maxRecDepth 100000 in
theorem wv_X12_351 : MV RX12 351 11 yX12_goAlone cX12_goAlone 3 none 1 := ⟨⟨TX12, 51, rfl⟩, m_1891, m_1893, m_83, m_110, m_1894, by decide +kernel, by decide +kernel, by decide⟩
set_option maxRecDepth 100000 in
theorem m_1887 : Cond.methodLink RX12 354 yX12_goWith ∈ WL := p_mt8 (i := 110) rfl rfl
set_option maxRecDepth 100000 in
theorem m_1889 : Cond.instanceMethod yX12_goWith ∈ WL := p_mt8 (i := 112) rfl rfl
set_option maxRecDepth 100000 in
theorem m_82 : Cond.selects RX12 yX12_goWith yX12_goWith ∈ WL := p_mt0 (i := 82) rfl rfl
set_option maxRecDepth 100000 in
theorem m_1890 : Cond.code yX12_goWith cX12_goWith 5 none ∈ WL := p_mt8 (i := 113) rfl rfl
set_option maxRecDepth 100000 in
theorem wv_X12_354 : MV RX12 354 11 yX12_goWith cX12_goWith 5 none 3 := ⟨⟨TX12, 51, rfl⟩, m_1887, m_1889, m_82, m_110, m_1890, by decide +kernel, by decide +kernel, by decide⟩
set_option maxRecDepth 100000 in
theorem m_1883 : Cond.methodLink RX12 364 yX12_hadWith ∈ WL := p_mt8 (i := 106) rfl rfl
set_option maxRecDepth 100000 in
theorem m_1885 : Cond.instanceMethod yX12_hadWith ∈ WL := p_mt8 (i := 108) rfl rfl
set_option maxRecDepth 100000 in
theorem m_81 : Cond.selects RX12 yX12_hadWith yX12_hadWith ∈ WL := p_mt0 (i := 81) rfl rfl
set_option maxRecDepth 100000 in
theorem m_1886 : Cond.code yX12_hadWith cX12_hadWith 4 (some .int) ∈ WL := p_mt8 (i := 109) rfl rfl
set_option maxRecDepth 100000 in
theorem wv_X12_364 : MV RX12 364 11 yX12_hadWith cX12_hadWith 4 (some .int) 3 := ⟨⟨TX12, 51, rfl⟩, m_1883, m_1885, m_81, m_110, m_1886, by decide +kernel, by decide +kernel, by decide⟩
set_option maxRecDepth 100000 in
theorem m_1879 : Cond.methodLink RX12 361 yX12_gradeOf ∈ WL := p_mt8 (i := 102) rfl rfl
set_option maxRecDepth 100000 in
theorem m_1881 : Cond.instanceMethod yX12_gradeOf ∈ WL := p_mt8 (i := 104) rfl rfl
set_option maxRecDepth 100000 in
theorem m_80 : Cond.selects RX12 yX12_gradeOf yX12_gradeOf ∈ WL := p_mt0 (i := 80) rfl rfl
set_option maxRecDepth 100000 in
theorem m_1882 : Cond.code yX12_gradeOf cX12_gradeOf 4 (some .int) ∈ WL := p_mt8 (i := 105) rfl rfl
set_option maxRecDepth 100000 in
theorem wv_X12_361 : MV RX12 361 11 yX12_gradeOf cX12_gradeOf 4 (some .int) 1 := ⟨⟨TX12, 51, rfl⟩, m_1879, m_1881, m_80, m_110, m_1882, by decide +kernel, by decide +kernel, by decide⟩
set_option maxRecDepth 100000 in
theorem m_1875 : Cond.methodLink RX12 358 yX12_free ∈ WL := p_mt8 (i := 98) rfl rfl
set_option maxRecDepth 100000 in
theorem m_1877 : Cond.instanceMethod yX12_free ∈ WL := p_mt8 (i := 100) rfl rfl
set_option maxRecDepth 100000 in
theorem m_79 : Cond.selects RX12 yX12_free yX12_free ∈ WL := p_mt0 (i := 79) rfl rfl
set_option maxRecDepth 100000 in
theorem m_1878 : Cond.code yX12_free cX12_free 4 (some .int) ∈ WL := p_mt8 (i := 101) rfl rfl
set_option maxRecDepth 100000 in
theorem wv_X12_358 : MV RX12 358 11 yX12_free cX12_free 4 (some .int) 1 := ⟨⟨TX12, 51, rfl⟩, m_1875, m_1877, m_79, m_110, m_1878, by decide +kernel, by decide +kernel, by decide⟩
set_option maxRecDepth 100000 in
theorem m_1907 : Cond.methodLink RX12 368 yX12_doQuarrel ∈ WL := p_mt8 (i := 130) rfl rfl
set_option maxRecDepth 100000 in
theorem m_1909 : Cond.instanceMethod yX12_doQuarrel ∈ WL := p_mt8 (i := 132) rfl rfl
set_option maxRecDepth 100000 in
theorem m_84 : Cond.selects RX12 yX12_doQuarrel yX12_doQuarrel ∈ WL := p_mt0 (i := 84) rfl rfl
set_option maxRecDepth 100000 in
theorem m_1910 : Cond.code yX12_doQuarrel cX12_doQuarrel 7 (some .boolean) ∈ WL := p_mt8 (i := 133) rfl rfl
set_option maxRecDepth 100000 in
theorem wv_X12_368 : MV RX12 368 11 yX12_doQuarrel cX12_doQuarrel 7 (some .boolean) 3 := ⟨⟨TX12, 51, rfl⟩, m_1907, m_1909, m_84, m_110, m_1910, by decide +kernel, by decide +kernel, by decide⟩
set_option maxRecDepth 100000 in
theorem m_1919 : Cond.methodLink RX12 374 yX12_isPeace ∈ WL := p_mt8 (i := 142) rfl rfl
set_option maxRecDepth 100000 in
theorem m_1921 : Cond.instanceMethod yX12_isPeace ∈ WL := p_mt8 (i := 144) rfl rfl
set_option maxRecDepth 100000 in
theorem m_86 : Cond.selects RX12 yX12_isPeace yX12_isPeace ∈ WL := p_mt0 (i := 86) rfl rfl
set_option maxRecDepth 100000 in
theorem m_1922 : Cond.code yX12_isPeace cX12_isPeace 5 (some .boolean) ∈ WL := p_mt8 (i := 145) rfl rfl
set_option maxRecDepth 100000 in
theorem wv_X12_374 : MV RX12 374 11 yX12_isPeace cX12_isPeace 5 (some .boolean) 2 := ⟨⟨TX12, 51, rfl⟩, m_1919, m_1921, m_86, m_110, m_1922, by decide +kernel, by decide +kernel, by decide⟩
set_option maxRecDepth 100000 in
theorem m_1915 : Cond.methodLink RX12 371 yX12_all ∈ WL := p_mt8 (i := 138) rfl rfl
set_option maxRecDepth 100000 in
theorem m_1917 : Cond.instanceMethod yX12_all ∈ WL := p_mt8 (i := 140) rfl rfl
set_option maxRecDepth 100000 in
theorem m_85 : Cond.selects RX12 yX12_all yX12_all ∈ WL := p_mt0 (i := 85) rfl rfl
set_option maxRecDepth 100000 in
theorem m_1918 : Cond.code yX12_all cX12_all 1 (some .int) ∈ WL := p_mt8 (i := 141) rfl rfl
set_option maxRecDepth 100000 in
theorem wv_X12_371 : MV RX12 371 11 yX12_all cX12_all 1 (some .int) 0 := ⟨⟨TX12, 51, rfl⟩, m_1915, m_1917, m_85, m_110, m_1918, by decide +kernel, by decide +kernel, by decide⟩
set_option maxRecDepth 100000 in
theorem m_1927 : Cond.constantLong RX12 377 (-1 : Int64) ∈ WL := p_mt8 (i := 150) rfl rfl
set_option maxRecDepth 100000 in
theorem m_1463 : Cond.fieldLink RX12 379 (TX12 37).1 (TX12 37).2.1 (TX12 37).2.2.1 ∈ WL := p_mt6 (i := 166) rfl rfl
set_option maxRecDepth 100000 in
theorem wf_X12_379_11 : FL RX12 379 11 37 .int false := ⟨RX12, TX12, 51, tyX12, rfl, inW_X12, by decide, m_1463, nmX12, tyX12_ok, by decide +kernel, rfl, fun h => by first | rfl | cases h⟩
set_option maxRecDepth 100000 in
theorem m_1944 : Cond.methodLink RX12 382 yX12_isSeen ∈ WL := p_mt8 (i := 167) rfl rfl
set_option maxRecDepth 100000 in
theorem m_1946 : Cond.instanceMethod yX12_isSeen ∈ WL := p_mt8 (i := 169) rfl rfl
set_option maxRecDepth 100000 in
theorem m_88 : Cond.selects RX12 yX12_isSeen yX12_isSeen ∈ WL := p_mt0 (i := 88) rfl rfl
set_option maxRecDepth 100000 in
theorem m_1947 : Cond.code yX12_isSeen cX12_isSeen 5 (some .boolean) ∈ WL := p_mt8 (i := 170) rfl rfl
set_option maxRecDepth 100000 in
theorem wv_X12_382 : MV RX12 382 11 yX12_isSeen cX12_isSeen 5 (some .boolean) 2 := ⟨⟨TX12, 51, rfl⟩, m_1944, m_1946, m_88, m_110, m_1947, by decide +kernel, by decide +kernel, by decide⟩
set_option maxRecDepth 100000 in
theorem m_1940 : Cond.methodLink RX12 385 yX12_fitting ∈ WL := p_mt8 (i := 163) rfl rfl
set_option maxRecDepth 100000 in
theorem m_1942 : Cond.instanceMethod yX12_fitting ∈ WL := p_mt8 (i := 165) rfl rfl
set_option maxRecDepth 100000 in
theorem m_87 : Cond.selects RX12 yX12_fitting yX12_fitting ∈ WL := p_mt0 (i := 87) rfl rfl
set_option maxRecDepth 100000 in
theorem m_1943 : Cond.code yX12_fitting cX12_fitting 4 (some .int) ∈ WL := p_mt8 (i := 166) rfl rfl
set_option maxRecDepth 100000 in
theorem wv_X12_385 : MV RX12 385 11 yX12_fitting cX12_fitting 4 (some .int) 1 := ⟨⟨TX12, 51, rfl⟩, m_1940, m_1942, m_87, m_110, m_1943, by decide +kernel, by decide +kernel, by decide⟩
set_option maxRecDepth 100000 in
theorem m_1952 : Cond.constant RX12 388 (1000000 : Int32) ∈ WL := p_mt8 (i := 175) rfl rfl
set_option maxRecDepth 100000 in
theorem m_1957 : Cond.methodLink RX12 389 yX12_layServed ∈ WL := p_mt8 (i := 180) rfl rfl
set_option maxRecDepth 100000 in
theorem m_1959 : Cond.instanceMethod yX12_layServed ∈ WL := p_mt8 (i := 182) rfl rfl
set_option maxRecDepth 100000 in
theorem m_89 : Cond.selects RX12 yX12_layServed yX12_layServed ∈ WL := p_mt0 (i := 89) rfl rfl
set_option maxRecDepth 100000 in
theorem m_1960 : Cond.code yX12_layServed cX12_layServed 4 none ∈ WL := p_mt8 (i := 183) rfl rfl
set_option maxRecDepth 100000 in
theorem wv_X12_389 : MV RX12 389 11 yX12_layServed cX12_layServed 4 none 1 := ⟨⟨TX12, 51, rfl⟩, m_1957, m_1959, m_89, m_110, m_1960, by decide +kernel, by decide +kernel, by decide⟩
set_option maxRecDepth 100000 in
theorem m_1470 : Cond.fieldLink RX12 392 (TX12 44).1 (TX12 44).2.1 (TX12 44).2.2.1 ∈ WL := p_mt6 (i := 173) rfl rfl
set_option maxRecDepth 100000 in
theorem wf_X12_392_11 : FL RX12 392 11 44 .int false := ⟨RX12, TX12, 51, tyX12, rfl, inW_X12, by decide, m_1470, nmX12, tyX12_ok, by decide +kernel, rfl, fun h => by first | rfl | cases h⟩
set_option maxRecDepth 100000 in
theorem m_1965 : Cond.methodLink RX12 398 yX12_goShares ∈ WL := p_mt8 (i := 188) rfl rfl
set_option maxRecDepth 100000 in
theorem m_1967 : Cond.instanceMethod yX12_goShares ∈ WL := p_mt8 (i := 190) rfl rfl
set_option maxRecDepth 100000 in
theorem m_90 : Cond.selects RX12 yX12_goShares yX12_goShares ∈ WL := p_mt0 (i := 90) rfl rfl
set_option maxRecDepth 100000 in
theorem m_1968 : Cond.code yX12_goShares cX12_goShares 4 none ∈ WL := p_mt8 (i := 191) rfl rfl
set_option maxRecDepth 100000 in
theorem wv_X12_398 : MV RX12 398 11 yX12_goShares cX12_goShares 4 none 2 := ⟨⟨TX12, 51, rfl⟩, m_1965, m_1967, m_90, m_110, m_1968, by decide +kernel, by decide +kernel, by decide⟩
set_option maxRecDepth 100000 in
theorem m_1969 : Cond.methodLink RX12 395 yX12_servedMany ∈ WL := p_mt8 (i := 192) rfl rfl
set_option maxRecDepth 100000 in
theorem m_1971 : Cond.instanceMethod yX12_servedMany ∈ WL := p_mt8 (i := 194) rfl rfl
set_option maxRecDepth 100000 in
theorem m_91 : Cond.selects RX12 yX12_servedMany yX12_servedMany ∈ WL := p_mt0 (i := 91) rfl rfl
set_option maxRecDepth 100000 in
theorem m_1972 : Cond.code yX12_servedMany cX12_servedMany 3 (some .int) ∈ WL := p_mt8 (i := 195) rfl rfl
set_option maxRecDepth 100000 in
theorem wv_X12_395 : MV RX12 395 11 yX12_servedMany cX12_servedMany 3 (some .int) 2 := ⟨⟨TX12, 51, rfl⟩, m_1969, m_1971, m_91, m_110, m_1972, by decide +kernel, by decide +kernel, by decide⟩
set_option maxRecDepth 100000 in
theorem m_1977 : Cond.methodLink RX12 402 yX12_timesBy ∈ WL := p_mt8 (i := 200) rfl rfl
set_option maxRecDepth 100000 in
theorem m_1979 : Cond.instanceMethod yX12_timesBy ∈ WL := p_mt8 (i := 202) rfl rfl
set_option maxRecDepth 100000 in
theorem m_92 : Cond.selects RX12 yX12_timesBy yX12_timesBy ∈ WL := p_mt0 (i := 92) rfl rfl
set_option maxRecDepth 100000 in
theorem m_1980 : Cond.code yX12_timesBy cX12_timesBy 7 (some .int) ∈ WL := p_mt8 (i := 203) rfl rfl
set_option maxRecDepth 100000 in
theorem wv_X12_402 : MV RX12 402 11 yX12_timesBy cX12_timesBy 7 (some .int) 2 := ⟨⟨TX12, 51, rfl⟩, m_1977, m_1979, m_92, m_110, m_1980, by decide +kernel, by decide +kernel, by decide⟩
set_option maxRecDepth 100000 in
theorem m_1995 : Cond.methodLink RX12 405 yX12_common ∈ WL := p_mt8 (i := 218) rfl rfl
set_option maxRecDepth 100000 in
theorem m_1996 : Cond.static yX12_common ∈ WL := p_mt8 (i := 219) rfl rfl
set_option maxRecDepth 100000 in
theorem m_1997 : Cond.code yX12_common cX12_common 4 (some .long) ∈ WL := p_mt8 (i := 220) rfl rfl
set_option maxRecDepth 100000 in
theorem ws_X12_405 : MS RX12 405 yX12_common cX12_common 4 (some .long) 2 := ⟨m_1995, m_1996, m_110, m_1997, by decide +kernel, by decide +kernel, by decide⟩
set_option maxRecDepth 100000 in
theorem m_1985 : Cond.methodLink RX12 409 yX12_orders ∈ WL := p_mt8 (i := 208) rfl rfl
set_option maxRecDepth 100000 in
theorem m_1986 : Cond.static yX12_orders ∈ WL := p_mt8 (i := 209) rfl rfl
set_option maxRecDepth 100000 in
theorem m_1987 : Cond.code yX12_orders cX12_orders 1 (some .long) ∈ WL := p_mt8 (i := 210) rfl rfl
set_option maxRecDepth 100000 in
theorem ws_X12_409 : MS RX12 409 yX12_orders cX12_orders 1 (some .long) 1 := ⟨m_1985, m_1986, m_110, m_1987, by decide +kernel, by decide +kernel, by decide⟩
set_option maxRecDepth 100000 in
theorem m_1988 : Cond.methodLink RX12 413 yX12_strays ∈ WL := p_mt8 (i := 211) rfl rfl
set_option maxRecDepth 100000 in
theorem m_1989 : Cond.static yX12_strays ∈ WL := p_mt8 (i := 212) rfl rfl
set_option maxRecDepth 100000 in
theorem m_1990 : Cond.code yX12_strays cX12_strays 1 (some .long) ∈ WL := p_mt8 (i := 213) rfl rfl
set_option maxRecDepth 100000 in
theorem ws_X12_413 : MS RX12 413 yX12_strays cX12_strays 1 (some .long) 1 := ⟨m_1988, m_1989, m_110, m_1990, by decide +kernel, by decide +kernel, by decide⟩
set_option maxRecDepth 100000 in
theorem m_1991 : Cond.methodLink RX12 416 yX12_tellPart ∈ WL := p_mt8 (i := 214) rfl rfl
set_option maxRecDepth 100000 in
theorem m_1993 : Cond.instanceMethod yX12_tellPart ∈ WL := p_mt8 (i := 216) rfl rfl
set_option maxRecDepth 100000 in
theorem m_93 : Cond.selects RX12 yX12_tellPart yX12_tellPart ∈ WL := p_mt0 (i := 93) rfl rfl
set_option maxRecDepth 100000 in
theorem m_1994 : Cond.code yX12_tellPart cX12_tellPart 7 none ∈ WL := p_mt8 (i := 217) rfl rfl
set_option maxRecDepth 100000 in
theorem wv_X12_416 : MV RX12 416 11 yX12_tellPart cX12_tellPart 7 none 2 := ⟨⟨TX12, 51, rfl⟩, m_1991, m_1993, m_93, m_110, m_1994, by decide +kernel, by decide +kernel, by decide⟩
set_option maxRecDepth 100000 in
theorem m_2002 : Cond.methodLink RX12 420 yX12_falling ∈ WL := p_mt8 (i := 225) rfl rfl
set_option maxRecDepth 100000 in
theorem m_2003 : Cond.static yX12_falling ∈ WL := p_mt8 (i := 226) rfl rfl
set_option maxRecDepth 100000 in
theorem m_2004 : Cond.code yX12_falling cX12_falling 5 (some .long) ∈ WL := p_mt8 (i := 227) rfl rfl
set_option maxRecDepth 100000 in
theorem ws_X12_420 : MS RX12 420 yX12_falling cX12_falling 5 (some .long) 2 := ⟨m_2002, m_2003, m_110, m_2004, by decide +kernel, by decide +kernel, by decide⟩
set_option maxRecDepth 100000 in
theorem m_2015 : Cond.methodLink RX12 427 yX12_manGets ∈ WL := p_mt8 (i := 238) rfl rfl
set_option maxRecDepth 100000 in
theorem m_2016 : Cond.static yX12_manGets ∈ WL := p_mt8 (i := 239) rfl rfl
set_option maxRecDepth 100000 in
theorem m_2017 : Cond.code yX12_manGets cX12_manGets 4 (some .int) ∈ WL := p_mt9 (i := 0) rfl rfl
set_option maxRecDepth 100000 in
theorem ws_X12_427 : MS RX12 427 yX12_manGets cX12_manGets 4 (some .int) 4 := ⟨m_2015, m_2016, m_110, m_2017, by decide +kernel, by decide +kernel, by decide⟩
set_option maxRecDepth 100000 in
theorem m_2012 : Cond.methodLink RX12 424 yX12_clerkGets ∈ WL := p_mt8 (i := 235) rfl rfl
set_option maxRecDepth 100000 in
theorem m_2013 : Cond.static yX12_clerkGets ∈ WL := p_mt8 (i := 236) rfl rfl
set_option maxRecDepth 100000 in
theorem m_2014 : Cond.code yX12_clerkGets cX12_clerkGets 2 (some .int) ∈ WL := p_mt8 (i := 237) rfl rfl
set_option maxRecDepth 100000 in
theorem ws_X12_424 : MS RX12 424 yX12_clerkGets cX12_clerkGets 2 (some .int) 2 := ⟨m_2012, m_2013, m_110, m_2014, by decide +kernel, by decide +kernel, by decide⟩
set_option maxRecDepth 100000 in
theorem m_2009 : Cond.methodLink RX12 431 yX12_isRest ∈ WL := p_mt8 (i := 232) rfl rfl
set_option maxRecDepth 100000 in
theorem m_2010 : Cond.static yX12_isRest ∈ WL := p_mt8 (i := 233) rfl rfl
set_option maxRecDepth 100000 in
theorem m_2011 : Cond.code yX12_isRest cX12_isRest 5 (some .boolean) ∈ WL := p_mt8 (i := 234) rfl rfl
set_option maxRecDepth 100000 in
theorem ws_X12_431 : MS RX12 431 yX12_isRest cX12_isRest 5 (some .boolean) 4 := ⟨m_2009, m_2010, m_110, m_2011, by decide +kernel, by decide +kernel, by decide⟩
set_option maxRecDepth 100000 in
theorem m_2022 : Cond.methodLink RX12 435 yX12_hadIn10 ∈ WL := p_mt9 (i := 5) rfl rfl
set_option maxRecDepth 100000 in
theorem m_2024 : Cond.instanceMethod yX12_hadIn10 ∈ WL := p_mt9 (i := 7) rfl rfl
set_option maxRecDepth 100000 in
theorem m_94 : Cond.selects RX12 yX12_hadIn10 yX12_hadIn10 ∈ WL := p_mt0 (i := 94) rfl rfl
set_option maxRecDepth 100000 in
theorem m_2025 : Cond.code yX12_hadIn10 cX12_hadIn10 1 (some .int) ∈ WL := p_mt9 (i := 8) rfl rfl
set_option maxRecDepth 100000 in
theorem wv_X12_435 : MV RX12 435 11 yX12_hadIn10 cX12_hadIn10 1 (some .int) 0 := ⟨⟨TX12, 51, rfl⟩, m_2022, m_2024, m_94, m_110, m_2025, by decide +kernel, by decide +kernel, by decide⟩
set_option maxRecDepth 100000 in
theorem m_1472 : Cond.fieldLink RX12 438 (TX12 46).1 (TX12 46).2.1 (TX12 46).2.2.1 ∈ WL := p_mt6 (i := 175) rfl rfl
set_option maxRecDepth 100000 in
theorem wf_X12_438_11 : FL RX12 438 11 46 .int false := ⟨RX12, TX12, 51, tyX12, rfl, inW_X12, by decide, m_1472, nmX12, tyX12_ok, by decide +kernel, rfl, fun h => by first | rfl | cases h⟩
set_option maxRecDepth 100000 in
theorem m_2034 : Cond.constant RX12 441 (1103515245 : Int32) ∈ WL := p_mt9 (i := 17) rfl rfl
set_option maxRecDepth 100000 in
theorem m_2030 : Cond.methodLink RX12 442 yX12_draw ∈ WL := p_mt9 (i := 13) rfl rfl
set_option maxRecDepth 100000 in
theorem m_2032 : Cond.instanceMethod yX12_draw ∈ WL := p_mt9 (i := 15) rfl rfl
set_option maxRecDepth 100000 in
theorem m_95 : Cond.selects RX12 yX12_draw yX12_draw ∈ WL := p_mt0 (i := 95) rfl rfl
set_option maxRecDepth 100000 in
theorem m_2033 : Cond.code yX12_draw cX12_draw 2 (some .int) ∈ WL := p_mt9 (i := 16) rfl rfl
set_option maxRecDepth 100000 in
theorem wv_X12_442 : MV RX12 442 11 yX12_draw cX12_draw 2 (some .int) 1 := ⟨⟨TX12, 51, rfl⟩, m_2030, m_2032, m_95, m_110, m_2033, by decide +kernel, by decide +kernel, by decide⟩
set_option maxRecDepth 100000 in
theorem m_2035 : Cond.methodLink RX12 445 yX12_heldByAll ∈ WL := p_mt9 (i := 18) rfl rfl
set_option maxRecDepth 100000 in
theorem m_2037 : Cond.instanceMethod yX12_heldByAll ∈ WL := p_mt9 (i := 20) rfl rfl
set_option maxRecDepth 100000 in
theorem m_96 : Cond.selects RX12 yX12_heldByAll yX12_heldByAll ∈ WL := p_mt0 (i := 96) rfl rfl
set_option maxRecDepth 100000 in
theorem m_2038 : Cond.code yX12_heldByAll cX12_heldByAll 4 (some .int) ∈ WL := p_mt9 (i := 21) rfl rfl
set_option maxRecDepth 100000 in
theorem wv_X12_445 : MV RX12 445 11 yX12_heldByAll cX12_heldByAll 4 (some .int) 1 := ⟨⟨TX12, 51, rfl⟩, m_2035, m_2037, m_96, m_110, m_2038, by decide +kernel, by decide +kernel, by decide⟩
