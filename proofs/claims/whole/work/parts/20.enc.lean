/-! THE CLASS'S HEAP over a raw state: I the int fields by cell and place, A the int arrays by cell, L the long array, pr and ot the two rules; T: what lies behind -/
def u1 {α : Type} (F : Nat → α) (o : Nat) (v : α) : Nat → α := fun o' => if o' = o then v else F o'
def u2 {α : Type} (F : Nat → Nat → α) (o k : Nat) (v : α) : Nat → Nat → α := fun o' k' => if o' = o ∧ k' = k then v else F o' k'
def encC (I : Nat → Nat → Int32) (A : Nat → Nat → Int32) (L : Nat → Int64) (pr ot : Nat) (T : PH) : PH :=
  .inr (10, [.ref 1, .ref 3, .ref 4, .ref 5, .ref 6, .ref 7, .ref 9, .ref 11, .ref 27, .ref 31, .ref 35]) ::
  .inr (6, [.ref 2, .int (I 1 1)]) ::
  .inl (.char, (80, .inl (A 2))) ::
  .inr (1, [.int (I 3 0), .int (I 3 1), .int (I 3 2), .int (I 3 3), .int (I 3 4), .int (I 3 5)]) ::
  .inr (1, [.int (I 4 0), .int (I 4 1), .int (I 4 2), .int (I 4 3), .int (I 4 4), .int (I 4 5)]) ::
  .inr (8, [.int (I 5 0), .int (I 5 1), .int (I 5 2), .int (I 5 3), .int (I 5 4)]) ::
  .inr (9, [.int (I 6 0), .int (I 6 1), .int (I 6 2)]) ::
  .inr (4, [.ref 8, .int (I 7 1), .int (I 7 2), .int (I 7 3)]) ::
  .inl (.int, (1148, .inl (A 8))) ::
  .inr (2, [.ref 10, .int (I 9 1)]) ::
  .inl (.long, (8, .inr (.inl L))) ::
  .inr (0, [.ref 12, .ref 13, .ref 14, .ref 15, .ref 16, .ref 17, .ref 18, .ref pr, .ref ot, .int (I 11 9), .int (I 11 10), .int (I 11 11)]) ::
  .inl (.int, (8, .inl (A 12))) ::
  .inl (.int, (32, .inl (A 13))) ::
  .inl (.int, (6, .inl (A 14))) ::
  .inl (.int, (6, .inl (A 15))) ::
  .inl (.int, (18, .inl (A 16))) ::
  .inl (.int, (18, .inl (A 17))) ::
  .inl (.int, (18, .inl (A 18))) ::
  .inr (5, [.int (I 19 0), .ref 20, .ref 21, .ref 22, .int (I 19 4), .int (I 19 5), .int (I 19 6), .int (I 19 7), .int (I 19 8), .int (I 19 9)]) ::
  .inl (.int, (40, .inl (A 20))) ::
  .inl (.int, (40, .inl (A 21))) ::
  .inl (.int, (40, .inl (A 22))) ::
  .inr (5, [.int (I 23 0), .ref 24, .ref 25, .ref 26, .int (I 23 4), .int (I 23 5), .int (I 23 6), .int (I 23 7), .int (I 23 8), .int (I 23 9)]) ::
  .inl (.int, (40, .inl (A 24))) ::
  .inl (.int, (40, .inl (A 25))) ::
  .inl (.int, (40, .inl (A 26))) ::
  .inr (7, [.ref 11, .ref 28, .ref 29, .ref 30]) ::
  .inl (.int, (82, .inl (A 28))) ::
  .inl (.int, (7, .inl (A 29))) ::
  .inl (.int, (4, .inl (A 30))) ::
  .inr (7, [.ref 11, .ref 32, .ref 33, .ref 34]) ::
  .inl (.int, (82, .inl (A 32))) ::
  .inl (.int, (7, .inl (A 33))) ::
  .inl (.int, (4, .inl (A 34))) ::
  .inr (3, [.ref 11, .ref 27, .ref 31, .ref 9, .ref 36, .ref 37, .ref 38, .ref 39, .ref 40, .ref 41, .ref 42, .ref 43, .ref 44, .int (I 35 13)]) ::
  .inl (.int, (12, .inl (A 36))) ::
  .inl (.int, (12, .inl (A 37))) ::
  .inl (.int, (12, .inl (A 38))) ::
  .inl (.int, (40, .inl (A 39))) ::
  .inl (.int, (8, .inl (A 40))) ::
  .inl (.int, (48, .inl (A 41))) ::
  .inl (.int, (8, .inl (A 42))) ::
  .inl (.int, (64, .inl (A 43))) ::
  .inl (.int, (64, .inl (A 44))) :: T
theorem eK_0 {I : Nat → Nat → Int32} {A : Nat → Nat → Int32} {L : Nat → Int64} {pr ot : Nat} {T : PH} : h_ck 10 (encC I A L pr ot T) 0 = some () := rfl
theorem eR_0_0 {I : Nat → Nat → Int32} {A : Nat → Nat → Int32} {L : Nat → Int64} {pr ot : Nat} {T : PH} : h_gr 10 0 (encC I A L pr ot T) 0 = some 1 := rfl
theorem eR_0_1 {I : Nat → Nat → Int32} {A : Nat → Nat → Int32} {L : Nat → Int64} {pr ot : Nat} {T : PH} : h_gr 10 1 (encC I A L pr ot T) 0 = some 3 := rfl
theorem eR_0_2 {I : Nat → Nat → Int32} {A : Nat → Nat → Int32} {L : Nat → Int64} {pr ot : Nat} {T : PH} : h_gr 10 2 (encC I A L pr ot T) 0 = some 4 := rfl
theorem eR_0_3 {I : Nat → Nat → Int32} {A : Nat → Nat → Int32} {L : Nat → Int64} {pr ot : Nat} {T : PH} : h_gr 10 3 (encC I A L pr ot T) 0 = some 5 := rfl
theorem eR_0_4 {I : Nat → Nat → Int32} {A : Nat → Nat → Int32} {L : Nat → Int64} {pr ot : Nat} {T : PH} : h_gr 10 4 (encC I A L pr ot T) 0 = some 6 := rfl
theorem eR_0_5 {I : Nat → Nat → Int32} {A : Nat → Nat → Int32} {L : Nat → Int64} {pr ot : Nat} {T : PH} : h_gr 10 5 (encC I A L pr ot T) 0 = some 7 := rfl
theorem eR_0_6 {I : Nat → Nat → Int32} {A : Nat → Nat → Int32} {L : Nat → Int64} {pr ot : Nat} {T : PH} : h_gr 10 6 (encC I A L pr ot T) 0 = some 9 := rfl
theorem eR_0_7 {I : Nat → Nat → Int32} {A : Nat → Nat → Int32} {L : Nat → Int64} {pr ot : Nat} {T : PH} : h_gr 10 7 (encC I A L pr ot T) 0 = some 11 := rfl
theorem eR_0_8 {I : Nat → Nat → Int32} {A : Nat → Nat → Int32} {L : Nat → Int64} {pr ot : Nat} {T : PH} : h_gr 10 8 (encC I A L pr ot T) 0 = some 27 := rfl
theorem eR_0_9 {I : Nat → Nat → Int32} {A : Nat → Nat → Int32} {L : Nat → Int64} {pr ot : Nat} {T : PH} : h_gr 10 9 (encC I A L pr ot T) 0 = some 31 := rfl
theorem eR_0_10 {I : Nat → Nat → Int32} {A : Nat → Nat → Int32} {L : Nat → Int64} {pr ot : Nat} {T : PH} : h_gr 10 10 (encC I A L pr ot T) 0 = some 35 := rfl
theorem eK_1 {I : Nat → Nat → Int32} {A : Nat → Nat → Int32} {L : Nat → Int64} {pr ot : Nat} {T : PH} : h_ck 6 (encC I A L pr ot T) 1 = some () := rfl
theorem eR_1_0 {I : Nat → Nat → Int32} {A : Nat → Nat → Int32} {L : Nat → Int64} {pr ot : Nat} {T : PH} : h_gr 6 0 (encC I A L pr ot T) 1 = some 2 := rfl
theorem eG_1_1 {I : Nat → Nat → Int32} {A : Nat → Nat → Int32} {L : Nat → Int64} {pr ot : Nat} {T : PH} : h_gi 6 1 (encC I A L pr ot T) 1 = some (I 1 1) := rfl
theorem eW_1_1 {I : Nat → Nat → Int32} {A : Nat → Nat → Int32} {L : Nat → Int64} {pr ot : Nat} {T : PH} {v : Int32} : h_pv 6 1 (encC I A L pr ot T) 1 (.int v) = some (encC (u2 I 1 1 v) A L pr ot T) := rfl
theorem eA_2 {I : Nat → Nat → Int32} {A : Nat → Nat → Int32} {L : Nat → Int64} {pr ot : Nat} {T : PH} {i : Int32} : h_ald .char (encC I A L pr ot T) 2 i = if ¬ (i < 0 ∨ 80 ≤ i.toNatClampNeg) then some (A 2 i.toNatClampNeg) else none := by
  simp only [h_ald, encC, List.getElem?_cons_succ, List.getElem?_cons_zero, true_and]
theorem eS_2 {I : Nat → Nat → Int32} {A : Nat → Nat → Int32} {L : Nat → Int64} {pr ot : Nat} {T : PH} {i v : Int32} : h_ast .char (encC I A L pr ot T) 2 i v = if ¬ (i < 0 ∨ 80 ≤ i.toNatClampNeg) then some (encC I (u1 A 2 (upd (A 2) i.toNatClampNeg v)) L pr ot T) else none := by
  simp only [h_ast, encC, List.getElem?_cons_succ, List.getElem?_cons_zero, true_and]
  rfl
theorem eN_2 {I : Nat → Nat → Int32} {A : Nat → Nat → Int32} {L : Nat → Int64} {pr ot : Nat} {T : PH} : h_al .char (encC I A L pr ot T) 2 = some 80 := rfl
theorem eK_3 {I : Nat → Nat → Int32} {A : Nat → Nat → Int32} {L : Nat → Int64} {pr ot : Nat} {T : PH} : h_ck 1 (encC I A L pr ot T) 3 = some () := rfl
theorem eG_3_0 {I : Nat → Nat → Int32} {A : Nat → Nat → Int32} {L : Nat → Int64} {pr ot : Nat} {T : PH} : h_gi 1 0 (encC I A L pr ot T) 3 = some (I 3 0) := rfl
theorem eW_3_0 {I : Nat → Nat → Int32} {A : Nat → Nat → Int32} {L : Nat → Int64} {pr ot : Nat} {T : PH} {v : Int32} : h_pv 1 0 (encC I A L pr ot T) 3 (.int v) = some (encC (u2 I 3 0 v) A L pr ot T) := rfl
theorem eG_3_1 {I : Nat → Nat → Int32} {A : Nat → Nat → Int32} {L : Nat → Int64} {pr ot : Nat} {T : PH} : h_gi 1 1 (encC I A L pr ot T) 3 = some (I 3 1) := rfl
theorem eW_3_1 {I : Nat → Nat → Int32} {A : Nat → Nat → Int32} {L : Nat → Int64} {pr ot : Nat} {T : PH} {v : Int32} : h_pv 1 1 (encC I A L pr ot T) 3 (.int v) = some (encC (u2 I 3 1 v) A L pr ot T) := rfl
theorem eG_3_2 {I : Nat → Nat → Int32} {A : Nat → Nat → Int32} {L : Nat → Int64} {pr ot : Nat} {T : PH} : h_gi 1 2 (encC I A L pr ot T) 3 = some (I 3 2) := rfl
theorem eW_3_2 {I : Nat → Nat → Int32} {A : Nat → Nat → Int32} {L : Nat → Int64} {pr ot : Nat} {T : PH} {v : Int32} : h_pv 1 2 (encC I A L pr ot T) 3 (.int v) = some (encC (u2 I 3 2 v) A L pr ot T) := rfl
theorem eG_3_3 {I : Nat → Nat → Int32} {A : Nat → Nat → Int32} {L : Nat → Int64} {pr ot : Nat} {T : PH} : h_gi 1 3 (encC I A L pr ot T) 3 = some (I 3 3) := rfl
theorem eW_3_3 {I : Nat → Nat → Int32} {A : Nat → Nat → Int32} {L : Nat → Int64} {pr ot : Nat} {T : PH} {v : Int32} : h_pv 1 3 (encC I A L pr ot T) 3 (.int v) = some (encC (u2 I 3 3 v) A L pr ot T) := rfl
theorem eG_3_4 {I : Nat → Nat → Int32} {A : Nat → Nat → Int32} {L : Nat → Int64} {pr ot : Nat} {T : PH} : h_gi 1 4 (encC I A L pr ot T) 3 = some (I 3 4) := rfl
theorem eW_3_4 {I : Nat → Nat → Int32} {A : Nat → Nat → Int32} {L : Nat → Int64} {pr ot : Nat} {T : PH} {v : Int32} : h_pv 1 4 (encC I A L pr ot T) 3 (.int v) = some (encC (u2 I 3 4 v) A L pr ot T) := rfl
theorem eG_3_5 {I : Nat → Nat → Int32} {A : Nat → Nat → Int32} {L : Nat → Int64} {pr ot : Nat} {T : PH} : h_gi 1 5 (encC I A L pr ot T) 3 = some (I 3 5) := rfl
theorem eW_3_5 {I : Nat → Nat → Int32} {A : Nat → Nat → Int32} {L : Nat → Int64} {pr ot : Nat} {T : PH} {v : Int32} : h_pv 1 5 (encC I A L pr ot T) 3 (.int v) = some (encC (u2 I 3 5 v) A L pr ot T) := rfl
theorem eK_4 {I : Nat → Nat → Int32} {A : Nat → Nat → Int32} {L : Nat → Int64} {pr ot : Nat} {T : PH} : h_ck 1 (encC I A L pr ot T) 4 = some () := rfl
theorem eG_4_0 {I : Nat → Nat → Int32} {A : Nat → Nat → Int32} {L : Nat → Int64} {pr ot : Nat} {T : PH} : h_gi 1 0 (encC I A L pr ot T) 4 = some (I 4 0) := rfl
theorem eW_4_0 {I : Nat → Nat → Int32} {A : Nat → Nat → Int32} {L : Nat → Int64} {pr ot : Nat} {T : PH} {v : Int32} : h_pv 1 0 (encC I A L pr ot T) 4 (.int v) = some (encC (u2 I 4 0 v) A L pr ot T) := rfl
theorem eG_4_1 {I : Nat → Nat → Int32} {A : Nat → Nat → Int32} {L : Nat → Int64} {pr ot : Nat} {T : PH} : h_gi 1 1 (encC I A L pr ot T) 4 = some (I 4 1) := rfl
theorem eW_4_1 {I : Nat → Nat → Int32} {A : Nat → Nat → Int32} {L : Nat → Int64} {pr ot : Nat} {T : PH} {v : Int32} : h_pv 1 1 (encC I A L pr ot T) 4 (.int v) = some (encC (u2 I 4 1 v) A L pr ot T) := rfl
theorem eG_4_2 {I : Nat → Nat → Int32} {A : Nat → Nat → Int32} {L : Nat → Int64} {pr ot : Nat} {T : PH} : h_gi 1 2 (encC I A L pr ot T) 4 = some (I 4 2) := rfl
theorem eW_4_2 {I : Nat → Nat → Int32} {A : Nat → Nat → Int32} {L : Nat → Int64} {pr ot : Nat} {T : PH} {v : Int32} : h_pv 1 2 (encC I A L pr ot T) 4 (.int v) = some (encC (u2 I 4 2 v) A L pr ot T) := rfl
theorem eG_4_3 {I : Nat → Nat → Int32} {A : Nat → Nat → Int32} {L : Nat → Int64} {pr ot : Nat} {T : PH} : h_gi 1 3 (encC I A L pr ot T) 4 = some (I 4 3) := rfl
theorem eW_4_3 {I : Nat → Nat → Int32} {A : Nat → Nat → Int32} {L : Nat → Int64} {pr ot : Nat} {T : PH} {v : Int32} : h_pv 1 3 (encC I A L pr ot T) 4 (.int v) = some (encC (u2 I 4 3 v) A L pr ot T) := rfl
theorem eG_4_4 {I : Nat → Nat → Int32} {A : Nat → Nat → Int32} {L : Nat → Int64} {pr ot : Nat} {T : PH} : h_gi 1 4 (encC I A L pr ot T) 4 = some (I 4 4) := rfl
theorem eW_4_4 {I : Nat → Nat → Int32} {A : Nat → Nat → Int32} {L : Nat → Int64} {pr ot : Nat} {T : PH} {v : Int32} : h_pv 1 4 (encC I A L pr ot T) 4 (.int v) = some (encC (u2 I 4 4 v) A L pr ot T) := rfl
theorem eG_4_5 {I : Nat → Nat → Int32} {A : Nat → Nat → Int32} {L : Nat → Int64} {pr ot : Nat} {T : PH} : h_gi 1 5 (encC I A L pr ot T) 4 = some (I 4 5) := rfl
theorem eW_4_5 {I : Nat → Nat → Int32} {A : Nat → Nat → Int32} {L : Nat → Int64} {pr ot : Nat} {T : PH} {v : Int32} : h_pv 1 5 (encC I A L pr ot T) 4 (.int v) = some (encC (u2 I 4 5 v) A L pr ot T) := rfl
theorem eK_5 {I : Nat → Nat → Int32} {A : Nat → Nat → Int32} {L : Nat → Int64} {pr ot : Nat} {T : PH} : h_ck 8 (encC I A L pr ot T) 5 = some () := rfl
theorem eG_5_0 {I : Nat → Nat → Int32} {A : Nat → Nat → Int32} {L : Nat → Int64} {pr ot : Nat} {T : PH} : h_gi 8 0 (encC I A L pr ot T) 5 = some (I 5 0) := rfl
theorem eW_5_0 {I : Nat → Nat → Int32} {A : Nat → Nat → Int32} {L : Nat → Int64} {pr ot : Nat} {T : PH} {v : Int32} : h_pv 8 0 (encC I A L pr ot T) 5 (.int v) = some (encC (u2 I 5 0 v) A L pr ot T) := rfl
theorem eG_5_1 {I : Nat → Nat → Int32} {A : Nat → Nat → Int32} {L : Nat → Int64} {pr ot : Nat} {T : PH} : h_gi 8 1 (encC I A L pr ot T) 5 = some (I 5 1) := rfl
theorem eW_5_1 {I : Nat → Nat → Int32} {A : Nat → Nat → Int32} {L : Nat → Int64} {pr ot : Nat} {T : PH} {v : Int32} : h_pv 8 1 (encC I A L pr ot T) 5 (.int v) = some (encC (u2 I 5 1 v) A L pr ot T) := rfl
theorem eG_5_2 {I : Nat → Nat → Int32} {A : Nat → Nat → Int32} {L : Nat → Int64} {pr ot : Nat} {T : PH} : h_gi 8 2 (encC I A L pr ot T) 5 = some (I 5 2) := rfl
theorem eW_5_2 {I : Nat → Nat → Int32} {A : Nat → Nat → Int32} {L : Nat → Int64} {pr ot : Nat} {T : PH} {v : Int32} : h_pv 8 2 (encC I A L pr ot T) 5 (.int v) = some (encC (u2 I 5 2 v) A L pr ot T) := rfl
theorem eG_5_3 {I : Nat → Nat → Int32} {A : Nat → Nat → Int32} {L : Nat → Int64} {pr ot : Nat} {T : PH} : h_gi 8 3 (encC I A L pr ot T) 5 = some (I 5 3) := rfl
theorem eW_5_3 {I : Nat → Nat → Int32} {A : Nat → Nat → Int32} {L : Nat → Int64} {pr ot : Nat} {T : PH} {v : Int32} : h_pv 8 3 (encC I A L pr ot T) 5 (.int v) = some (encC (u2 I 5 3 v) A L pr ot T) := rfl
theorem eG_5_4 {I : Nat → Nat → Int32} {A : Nat → Nat → Int32} {L : Nat → Int64} {pr ot : Nat} {T : PH} : h_gi 8 4 (encC I A L pr ot T) 5 = some (I 5 4) := rfl
theorem eW_5_4 {I : Nat → Nat → Int32} {A : Nat → Nat → Int32} {L : Nat → Int64} {pr ot : Nat} {T : PH} {v : Int32} : h_pv 8 4 (encC I A L pr ot T) 5 (.int v) = some (encC (u2 I 5 4 v) A L pr ot T) := rfl
theorem eK_6 {I : Nat → Nat → Int32} {A : Nat → Nat → Int32} {L : Nat → Int64} {pr ot : Nat} {T : PH} : h_ck 9 (encC I A L pr ot T) 6 = some () := rfl
theorem eG_6_0 {I : Nat → Nat → Int32} {A : Nat → Nat → Int32} {L : Nat → Int64} {pr ot : Nat} {T : PH} : h_gi 9 0 (encC I A L pr ot T) 6 = some (I 6 0) := rfl
theorem eW_6_0 {I : Nat → Nat → Int32} {A : Nat → Nat → Int32} {L : Nat → Int64} {pr ot : Nat} {T : PH} {v : Int32} : h_pv 9 0 (encC I A L pr ot T) 6 (.int v) = some (encC (u2 I 6 0 v) A L pr ot T) := rfl
theorem eG_6_1 {I : Nat → Nat → Int32} {A : Nat → Nat → Int32} {L : Nat → Int64} {pr ot : Nat} {T : PH} : h_gi 9 1 (encC I A L pr ot T) 6 = some (I 6 1) := rfl
theorem eW_6_1 {I : Nat → Nat → Int32} {A : Nat → Nat → Int32} {L : Nat → Int64} {pr ot : Nat} {T : PH} {v : Int32} : h_pv 9 1 (encC I A L pr ot T) 6 (.int v) = some (encC (u2 I 6 1 v) A L pr ot T) := rfl
theorem eG_6_2 {I : Nat → Nat → Int32} {A : Nat → Nat → Int32} {L : Nat → Int64} {pr ot : Nat} {T : PH} : h_gi 9 2 (encC I A L pr ot T) 6 = some (I 6 2) := rfl
theorem eW_6_2 {I : Nat → Nat → Int32} {A : Nat → Nat → Int32} {L : Nat → Int64} {pr ot : Nat} {T : PH} {v : Int32} : h_pv 9 2 (encC I A L pr ot T) 6 (.int v) = some (encC (u2 I 6 2 v) A L pr ot T) := rfl
theorem eK_7 {I : Nat → Nat → Int32} {A : Nat → Nat → Int32} {L : Nat → Int64} {pr ot : Nat} {T : PH} : h_ck 4 (encC I A L pr ot T) 7 = some () := rfl
theorem eR_7_0 {I : Nat → Nat → Int32} {A : Nat → Nat → Int32} {L : Nat → Int64} {pr ot : Nat} {T : PH} : h_gr 4 0 (encC I A L pr ot T) 7 = some 8 := rfl
theorem eG_7_1 {I : Nat → Nat → Int32} {A : Nat → Nat → Int32} {L : Nat → Int64} {pr ot : Nat} {T : PH} : h_gi 4 1 (encC I A L pr ot T) 7 = some (I 7 1) := rfl
theorem eW_7_1 {I : Nat → Nat → Int32} {A : Nat → Nat → Int32} {L : Nat → Int64} {pr ot : Nat} {T : PH} {v : Int32} : h_pv 4 1 (encC I A L pr ot T) 7 (.int v) = some (encC (u2 I 7 1 v) A L pr ot T) := rfl
theorem eG_7_2 {I : Nat → Nat → Int32} {A : Nat → Nat → Int32} {L : Nat → Int64} {pr ot : Nat} {T : PH} : h_gi 4 2 (encC I A L pr ot T) 7 = some (I 7 2) := rfl
theorem eW_7_2 {I : Nat → Nat → Int32} {A : Nat → Nat → Int32} {L : Nat → Int64} {pr ot : Nat} {T : PH} {v : Int32} : h_pv 4 2 (encC I A L pr ot T) 7 (.int v) = some (encC (u2 I 7 2 v) A L pr ot T) := rfl
theorem eG_7_3 {I : Nat → Nat → Int32} {A : Nat → Nat → Int32} {L : Nat → Int64} {pr ot : Nat} {T : PH} : h_gi 4 3 (encC I A L pr ot T) 7 = some (I 7 3) := rfl
theorem eW_7_3 {I : Nat → Nat → Int32} {A : Nat → Nat → Int32} {L : Nat → Int64} {pr ot : Nat} {T : PH} {v : Int32} : h_pv 4 3 (encC I A L pr ot T) 7 (.int v) = some (encC (u2 I 7 3 v) A L pr ot T) := rfl
theorem eA_8 {I : Nat → Nat → Int32} {A : Nat → Nat → Int32} {L : Nat → Int64} {pr ot : Nat} {T : PH} {i : Int32} : h_ald .int (encC I A L pr ot T) 8 i = if ¬ (i < 0 ∨ 1148 ≤ i.toNatClampNeg) then some (A 8 i.toNatClampNeg) else none := by
  simp only [h_ald, encC, List.getElem?_cons_succ, List.getElem?_cons_zero, true_and]
theorem eS_8 {I : Nat → Nat → Int32} {A : Nat → Nat → Int32} {L : Nat → Int64} {pr ot : Nat} {T : PH} {i v : Int32} : h_ast .int (encC I A L pr ot T) 8 i v = if ¬ (i < 0 ∨ 1148 ≤ i.toNatClampNeg) then some (encC I (u1 A 8 (upd (A 8) i.toNatClampNeg v)) L pr ot T) else none := by
  simp only [h_ast, encC, List.getElem?_cons_succ, List.getElem?_cons_zero, true_and]
  rfl
theorem eN_8 {I : Nat → Nat → Int32} {A : Nat → Nat → Int32} {L : Nat → Int64} {pr ot : Nat} {T : PH} : h_al .int (encC I A L pr ot T) 8 = some 1148 := rfl
theorem eK_9 {I : Nat → Nat → Int32} {A : Nat → Nat → Int32} {L : Nat → Int64} {pr ot : Nat} {T : PH} : h_ck 2 (encC I A L pr ot T) 9 = some () := rfl
theorem eR_9_0 {I : Nat → Nat → Int32} {A : Nat → Nat → Int32} {L : Nat → Int64} {pr ot : Nat} {T : PH} : h_gr 2 0 (encC I A L pr ot T) 9 = some 10 := rfl
theorem eG_9_1 {I : Nat → Nat → Int32} {A : Nat → Nat → Int32} {L : Nat → Int64} {pr ot : Nat} {T : PH} : h_gi 2 1 (encC I A L pr ot T) 9 = some (I 9 1) := rfl
theorem eW_9_1 {I : Nat → Nat → Int32} {A : Nat → Nat → Int32} {L : Nat → Int64} {pr ot : Nat} {T : PH} {v : Int32} : h_pv 2 1 (encC I A L pr ot T) 9 (.int v) = some (encC (u2 I 9 1 v) A L pr ot T) := rfl
theorem eA_10 {I : Nat → Nat → Int32} {A : Nat → Nat → Int32} {L : Nat → Int64} {pr ot : Nat} {T : PH} {i : Int32} : h_lld (encC I A L pr ot T) 10 i = if ¬ (i < 0 ∨ 8 ≤ i.toNatClampNeg) then some (L i.toNatClampNeg) else none := by
  simp only [h_lld, encC, List.getElem?_cons_succ, List.getElem?_cons_zero, true_and]
theorem eS_10 {I : Nat → Nat → Int32} {A : Nat → Nat → Int32} {L : Nat → Int64} {pr ot : Nat} {T : PH} {i : Int32} {v : Int64} : h_lst (encC I A L pr ot T) 10 i v = if ¬ (i < 0 ∨ 8 ≤ i.toNatClampNeg) then some (encC I A (vp_updL L i.toNatClampNeg v) pr ot T) else none := by
  simp only [h_lst, encC, List.getElem?_cons_succ, List.getElem?_cons_zero, true_and]
  rfl
theorem eK_11 {I : Nat → Nat → Int32} {A : Nat → Nat → Int32} {L : Nat → Int64} {pr ot : Nat} {T : PH} : h_ck 0 (encC I A L pr ot T) 11 = some () := rfl
theorem eR_11_0 {I : Nat → Nat → Int32} {A : Nat → Nat → Int32} {L : Nat → Int64} {pr ot : Nat} {T : PH} : h_gr 0 0 (encC I A L pr ot T) 11 = some 12 := rfl
theorem eR_11_1 {I : Nat → Nat → Int32} {A : Nat → Nat → Int32} {L : Nat → Int64} {pr ot : Nat} {T : PH} : h_gr 0 1 (encC I A L pr ot T) 11 = some 13 := rfl
theorem eR_11_2 {I : Nat → Nat → Int32} {A : Nat → Nat → Int32} {L : Nat → Int64} {pr ot : Nat} {T : PH} : h_gr 0 2 (encC I A L pr ot T) 11 = some 14 := rfl
theorem eR_11_3 {I : Nat → Nat → Int32} {A : Nat → Nat → Int32} {L : Nat → Int64} {pr ot : Nat} {T : PH} : h_gr 0 3 (encC I A L pr ot T) 11 = some 15 := rfl
theorem eR_11_4 {I : Nat → Nat → Int32} {A : Nat → Nat → Int32} {L : Nat → Int64} {pr ot : Nat} {T : PH} : h_gr 0 4 (encC I A L pr ot T) 11 = some 16 := rfl
theorem eR_11_5 {I : Nat → Nat → Int32} {A : Nat → Nat → Int32} {L : Nat → Int64} {pr ot : Nat} {T : PH} : h_gr 0 5 (encC I A L pr ot T) 11 = some 17 := rfl
theorem eR_11_6 {I : Nat → Nat → Int32} {A : Nat → Nat → Int32} {L : Nat → Int64} {pr ot : Nat} {T : PH} : h_gr 0 6 (encC I A L pr ot T) 11 = some 18 := rfl
theorem eR_11_7 {I : Nat → Nat → Int32} {A : Nat → Nat → Int32} {L : Nat → Int64} {pr ot : Nat} {T : PH} : h_gr 0 7 (encC I A L pr ot T) 11 = some pr := rfl
theorem eV_11_7 {I : Nat → Nat → Int32} {A : Nat → Nat → Int32} {L : Nat → Int64} {pr ot : Nat} {T : PH} {v : Nat} : h_pv 0 7 (encC I A L pr ot T) 11 (.ref v) = some (encC I A L v ot T) := rfl
theorem eR_11_8 {I : Nat → Nat → Int32} {A : Nat → Nat → Int32} {L : Nat → Int64} {pr ot : Nat} {T : PH} : h_gr 0 8 (encC I A L pr ot T) 11 = some ot := rfl
theorem eV_11_8 {I : Nat → Nat → Int32} {A : Nat → Nat → Int32} {L : Nat → Int64} {pr ot : Nat} {T : PH} {v : Nat} : h_pv 0 8 (encC I A L pr ot T) 11 (.ref v) = some (encC I A L pr v T) := rfl
theorem eG_11_9 {I : Nat → Nat → Int32} {A : Nat → Nat → Int32} {L : Nat → Int64} {pr ot : Nat} {T : PH} : h_gi 0 9 (encC I A L pr ot T) 11 = some (I 11 9) := rfl
theorem eW_11_9 {I : Nat → Nat → Int32} {A : Nat → Nat → Int32} {L : Nat → Int64} {pr ot : Nat} {T : PH} {v : Int32} : h_pv 0 9 (encC I A L pr ot T) 11 (.int v) = some (encC (u2 I 11 9 v) A L pr ot T) := rfl
theorem eG_11_10 {I : Nat → Nat → Int32} {A : Nat → Nat → Int32} {L : Nat → Int64} {pr ot : Nat} {T : PH} : h_gi 0 10 (encC I A L pr ot T) 11 = some (I 11 10) := rfl
theorem eW_11_10 {I : Nat → Nat → Int32} {A : Nat → Nat → Int32} {L : Nat → Int64} {pr ot : Nat} {T : PH} {v : Int32} : h_pv 0 10 (encC I A L pr ot T) 11 (.int v) = some (encC (u2 I 11 10 v) A L pr ot T) := rfl
theorem eG_11_11 {I : Nat → Nat → Int32} {A : Nat → Nat → Int32} {L : Nat → Int64} {pr ot : Nat} {T : PH} : h_gi 0 11 (encC I A L pr ot T) 11 = some (I 11 11) := rfl
theorem eW_11_11 {I : Nat → Nat → Int32} {A : Nat → Nat → Int32} {L : Nat → Int64} {pr ot : Nat} {T : PH} {v : Int32} : h_pv 0 11 (encC I A L pr ot T) 11 (.int v) = some (encC (u2 I 11 11 v) A L pr ot T) := rfl
theorem eA_12 {I : Nat → Nat → Int32} {A : Nat → Nat → Int32} {L : Nat → Int64} {pr ot : Nat} {T : PH} {i : Int32} : h_ald .int (encC I A L pr ot T) 12 i = if ¬ (i < 0 ∨ 8 ≤ i.toNatClampNeg) then some (A 12 i.toNatClampNeg) else none := by
  simp only [h_ald, encC, List.getElem?_cons_succ, List.getElem?_cons_zero, true_and]
theorem eS_12 {I : Nat → Nat → Int32} {A : Nat → Nat → Int32} {L : Nat → Int64} {pr ot : Nat} {T : PH} {i v : Int32} : h_ast .int (encC I A L pr ot T) 12 i v = if ¬ (i < 0 ∨ 8 ≤ i.toNatClampNeg) then some (encC I (u1 A 12 (upd (A 12) i.toNatClampNeg v)) L pr ot T) else none := by
  simp only [h_ast, encC, List.getElem?_cons_succ, List.getElem?_cons_zero, true_and]
  rfl
theorem eN_12 {I : Nat → Nat → Int32} {A : Nat → Nat → Int32} {L : Nat → Int64} {pr ot : Nat} {T : PH} : h_al .int (encC I A L pr ot T) 12 = some 8 := rfl
theorem eA_13 {I : Nat → Nat → Int32} {A : Nat → Nat → Int32} {L : Nat → Int64} {pr ot : Nat} {T : PH} {i : Int32} : h_ald .int (encC I A L pr ot T) 13 i = if ¬ (i < 0 ∨ 32 ≤ i.toNatClampNeg) then some (A 13 i.toNatClampNeg) else none := by
  simp only [h_ald, encC, List.getElem?_cons_succ, List.getElem?_cons_zero, true_and]
theorem eS_13 {I : Nat → Nat → Int32} {A : Nat → Nat → Int32} {L : Nat → Int64} {pr ot : Nat} {T : PH} {i v : Int32} : h_ast .int (encC I A L pr ot T) 13 i v = if ¬ (i < 0 ∨ 32 ≤ i.toNatClampNeg) then some (encC I (u1 A 13 (upd (A 13) i.toNatClampNeg v)) L pr ot T) else none := by
  simp only [h_ast, encC, List.getElem?_cons_succ, List.getElem?_cons_zero, true_and]
  rfl
theorem eN_13 {I : Nat → Nat → Int32} {A : Nat → Nat → Int32} {L : Nat → Int64} {pr ot : Nat} {T : PH} : h_al .int (encC I A L pr ot T) 13 = some 32 := rfl
theorem eA_14 {I : Nat → Nat → Int32} {A : Nat → Nat → Int32} {L : Nat → Int64} {pr ot : Nat} {T : PH} {i : Int32} : h_ald .int (encC I A L pr ot T) 14 i = if ¬ (i < 0 ∨ 6 ≤ i.toNatClampNeg) then some (A 14 i.toNatClampNeg) else none := by
  simp only [h_ald, encC, List.getElem?_cons_succ, List.getElem?_cons_zero, true_and]
theorem eS_14 {I : Nat → Nat → Int32} {A : Nat → Nat → Int32} {L : Nat → Int64} {pr ot : Nat} {T : PH} {i v : Int32} : h_ast .int (encC I A L pr ot T) 14 i v = if ¬ (i < 0 ∨ 6 ≤ i.toNatClampNeg) then some (encC I (u1 A 14 (upd (A 14) i.toNatClampNeg v)) L pr ot T) else none := by
  simp only [h_ast, encC, List.getElem?_cons_succ, List.getElem?_cons_zero, true_and]
  rfl
theorem eN_14 {I : Nat → Nat → Int32} {A : Nat → Nat → Int32} {L : Nat → Int64} {pr ot : Nat} {T : PH} : h_al .int (encC I A L pr ot T) 14 = some 6 := rfl
theorem eA_15 {I : Nat → Nat → Int32} {A : Nat → Nat → Int32} {L : Nat → Int64} {pr ot : Nat} {T : PH} {i : Int32} : h_ald .int (encC I A L pr ot T) 15 i = if ¬ (i < 0 ∨ 6 ≤ i.toNatClampNeg) then some (A 15 i.toNatClampNeg) else none := by
  simp only [h_ald, encC, List.getElem?_cons_succ, List.getElem?_cons_zero, true_and]
theorem eS_15 {I : Nat → Nat → Int32} {A : Nat → Nat → Int32} {L : Nat → Int64} {pr ot : Nat} {T : PH} {i v : Int32} : h_ast .int (encC I A L pr ot T) 15 i v = if ¬ (i < 0 ∨ 6 ≤ i.toNatClampNeg) then some (encC I (u1 A 15 (upd (A 15) i.toNatClampNeg v)) L pr ot T) else none := by
  simp only [h_ast, encC, List.getElem?_cons_succ, List.getElem?_cons_zero, true_and]
  rfl
theorem eN_15 {I : Nat → Nat → Int32} {A : Nat → Nat → Int32} {L : Nat → Int64} {pr ot : Nat} {T : PH} : h_al .int (encC I A L pr ot T) 15 = some 6 := rfl
theorem eA_16 {I : Nat → Nat → Int32} {A : Nat → Nat → Int32} {L : Nat → Int64} {pr ot : Nat} {T : PH} {i : Int32} : h_ald .int (encC I A L pr ot T) 16 i = if ¬ (i < 0 ∨ 18 ≤ i.toNatClampNeg) then some (A 16 i.toNatClampNeg) else none := by
  simp only [h_ald, encC, List.getElem?_cons_succ, List.getElem?_cons_zero, true_and]
theorem eS_16 {I : Nat → Nat → Int32} {A : Nat → Nat → Int32} {L : Nat → Int64} {pr ot : Nat} {T : PH} {i v : Int32} : h_ast .int (encC I A L pr ot T) 16 i v = if ¬ (i < 0 ∨ 18 ≤ i.toNatClampNeg) then some (encC I (u1 A 16 (upd (A 16) i.toNatClampNeg v)) L pr ot T) else none := by
  simp only [h_ast, encC, List.getElem?_cons_succ, List.getElem?_cons_zero, true_and]
  rfl
theorem eN_16 {I : Nat → Nat → Int32} {A : Nat → Nat → Int32} {L : Nat → Int64} {pr ot : Nat} {T : PH} : h_al .int (encC I A L pr ot T) 16 = some 18 := rfl
theorem eA_17 {I : Nat → Nat → Int32} {A : Nat → Nat → Int32} {L : Nat → Int64} {pr ot : Nat} {T : PH} {i : Int32} : h_ald .int (encC I A L pr ot T) 17 i = if ¬ (i < 0 ∨ 18 ≤ i.toNatClampNeg) then some (A 17 i.toNatClampNeg) else none := by
  simp only [h_ald, encC, List.getElem?_cons_succ, List.getElem?_cons_zero, true_and]
theorem eS_17 {I : Nat → Nat → Int32} {A : Nat → Nat → Int32} {L : Nat → Int64} {pr ot : Nat} {T : PH} {i v : Int32} : h_ast .int (encC I A L pr ot T) 17 i v = if ¬ (i < 0 ∨ 18 ≤ i.toNatClampNeg) then some (encC I (u1 A 17 (upd (A 17) i.toNatClampNeg v)) L pr ot T) else none := by
  simp only [h_ast, encC, List.getElem?_cons_succ, List.getElem?_cons_zero, true_and]
  rfl
theorem eN_17 {I : Nat → Nat → Int32} {A : Nat → Nat → Int32} {L : Nat → Int64} {pr ot : Nat} {T : PH} : h_al .int (encC I A L pr ot T) 17 = some 18 := rfl
theorem eA_18 {I : Nat → Nat → Int32} {A : Nat → Nat → Int32} {L : Nat → Int64} {pr ot : Nat} {T : PH} {i : Int32} : h_ald .int (encC I A L pr ot T) 18 i = if ¬ (i < 0 ∨ 18 ≤ i.toNatClampNeg) then some (A 18 i.toNatClampNeg) else none := by
  simp only [h_ald, encC, List.getElem?_cons_succ, List.getElem?_cons_zero, true_and]
theorem eS_18 {I : Nat → Nat → Int32} {A : Nat → Nat → Int32} {L : Nat → Int64} {pr ot : Nat} {T : PH} {i v : Int32} : h_ast .int (encC I A L pr ot T) 18 i v = if ¬ (i < 0 ∨ 18 ≤ i.toNatClampNeg) then some (encC I (u1 A 18 (upd (A 18) i.toNatClampNeg v)) L pr ot T) else none := by
  simp only [h_ast, encC, List.getElem?_cons_succ, List.getElem?_cons_zero, true_and]
  rfl
theorem eN_18 {I : Nat → Nat → Int32} {A : Nat → Nat → Int32} {L : Nat → Int64} {pr ot : Nat} {T : PH} : h_al .int (encC I A L pr ot T) 18 = some 18 := rfl
theorem eK_19 {I : Nat → Nat → Int32} {A : Nat → Nat → Int32} {L : Nat → Int64} {pr ot : Nat} {T : PH} : h_ck 5 (encC I A L pr ot T) 19 = some () := rfl
theorem eG_19_0 {I : Nat → Nat → Int32} {A : Nat → Nat → Int32} {L : Nat → Int64} {pr ot : Nat} {T : PH} : h_gi 5 0 (encC I A L pr ot T) 19 = some (I 19 0) := rfl
theorem eW_19_0 {I : Nat → Nat → Int32} {A : Nat → Nat → Int32} {L : Nat → Int64} {pr ot : Nat} {T : PH} {v : Int32} : h_pv 5 0 (encC I A L pr ot T) 19 (.int v) = some (encC (u2 I 19 0 v) A L pr ot T) := rfl
theorem eR_19_1 {I : Nat → Nat → Int32} {A : Nat → Nat → Int32} {L : Nat → Int64} {pr ot : Nat} {T : PH} : h_gr 5 1 (encC I A L pr ot T) 19 = some 20 := rfl
theorem eR_19_2 {I : Nat → Nat → Int32} {A : Nat → Nat → Int32} {L : Nat → Int64} {pr ot : Nat} {T : PH} : h_gr 5 2 (encC I A L pr ot T) 19 = some 21 := rfl
theorem eR_19_3 {I : Nat → Nat → Int32} {A : Nat → Nat → Int32} {L : Nat → Int64} {pr ot : Nat} {T : PH} : h_gr 5 3 (encC I A L pr ot T) 19 = some 22 := rfl
theorem eG_19_4 {I : Nat → Nat → Int32} {A : Nat → Nat → Int32} {L : Nat → Int64} {pr ot : Nat} {T : PH} : h_gi 5 4 (encC I A L pr ot T) 19 = some (I 19 4) := rfl
theorem eW_19_4 {I : Nat → Nat → Int32} {A : Nat → Nat → Int32} {L : Nat → Int64} {pr ot : Nat} {T : PH} {v : Int32} : h_pv 5 4 (encC I A L pr ot T) 19 (.int v) = some (encC (u2 I 19 4 v) A L pr ot T) := rfl
theorem eG_19_5 {I : Nat → Nat → Int32} {A : Nat → Nat → Int32} {L : Nat → Int64} {pr ot : Nat} {T : PH} : h_gi 5 5 (encC I A L pr ot T) 19 = some (I 19 5) := rfl
theorem eW_19_5 {I : Nat → Nat → Int32} {A : Nat → Nat → Int32} {L : Nat → Int64} {pr ot : Nat} {T : PH} {v : Int32} : h_pv 5 5 (encC I A L pr ot T) 19 (.int v) = some (encC (u2 I 19 5 v) A L pr ot T) := rfl
theorem eG_19_6 {I : Nat → Nat → Int32} {A : Nat → Nat → Int32} {L : Nat → Int64} {pr ot : Nat} {T : PH} : h_gi 5 6 (encC I A L pr ot T) 19 = some (I 19 6) := rfl
theorem eW_19_6 {I : Nat → Nat → Int32} {A : Nat → Nat → Int32} {L : Nat → Int64} {pr ot : Nat} {T : PH} {v : Int32} : h_pv 5 6 (encC I A L pr ot T) 19 (.int v) = some (encC (u2 I 19 6 v) A L pr ot T) := rfl
theorem eG_19_7 {I : Nat → Nat → Int32} {A : Nat → Nat → Int32} {L : Nat → Int64} {pr ot : Nat} {T : PH} : h_gi 5 7 (encC I A L pr ot T) 19 = some (I 19 7) := rfl
theorem eW_19_7 {I : Nat → Nat → Int32} {A : Nat → Nat → Int32} {L : Nat → Int64} {pr ot : Nat} {T : PH} {v : Int32} : h_pv 5 7 (encC I A L pr ot T) 19 (.int v) = some (encC (u2 I 19 7 v) A L pr ot T) := rfl
theorem eG_19_8 {I : Nat → Nat → Int32} {A : Nat → Nat → Int32} {L : Nat → Int64} {pr ot : Nat} {T : PH} : h_gi 5 8 (encC I A L pr ot T) 19 = some (I 19 8) := rfl
theorem eW_19_8 {I : Nat → Nat → Int32} {A : Nat → Nat → Int32} {L : Nat → Int64} {pr ot : Nat} {T : PH} {v : Int32} : h_pv 5 8 (encC I A L pr ot T) 19 (.int v) = some (encC (u2 I 19 8 v) A L pr ot T) := rfl
theorem eG_19_9 {I : Nat → Nat → Int32} {A : Nat → Nat → Int32} {L : Nat → Int64} {pr ot : Nat} {T : PH} : h_gi 5 9 (encC I A L pr ot T) 19 = some (I 19 9) := rfl
theorem eW_19_9 {I : Nat → Nat → Int32} {A : Nat → Nat → Int32} {L : Nat → Int64} {pr ot : Nat} {T : PH} {v : Int32} : h_pv 5 9 (encC I A L pr ot T) 19 (.int v) = some (encC (u2 I 19 9 v) A L pr ot T) := rfl
theorem eA_20 {I : Nat → Nat → Int32} {A : Nat → Nat → Int32} {L : Nat → Int64} {pr ot : Nat} {T : PH} {i : Int32} : h_ald .int (encC I A L pr ot T) 20 i = if ¬ (i < 0 ∨ 40 ≤ i.toNatClampNeg) then some (A 20 i.toNatClampNeg) else none := by
  simp only [h_ald, encC, List.getElem?_cons_succ, List.getElem?_cons_zero, true_and]
theorem eS_20 {I : Nat → Nat → Int32} {A : Nat → Nat → Int32} {L : Nat → Int64} {pr ot : Nat} {T : PH} {i v : Int32} : h_ast .int (encC I A L pr ot T) 20 i v = if ¬ (i < 0 ∨ 40 ≤ i.toNatClampNeg) then some (encC I (u1 A 20 (upd (A 20) i.toNatClampNeg v)) L pr ot T) else none := by
  simp only [h_ast, encC, List.getElem?_cons_succ, List.getElem?_cons_zero, true_and]
  rfl
theorem eN_20 {I : Nat → Nat → Int32} {A : Nat → Nat → Int32} {L : Nat → Int64} {pr ot : Nat} {T : PH} : h_al .int (encC I A L pr ot T) 20 = some 40 := rfl
theorem eA_21 {I : Nat → Nat → Int32} {A : Nat → Nat → Int32} {L : Nat → Int64} {pr ot : Nat} {T : PH} {i : Int32} : h_ald .int (encC I A L pr ot T) 21 i = if ¬ (i < 0 ∨ 40 ≤ i.toNatClampNeg) then some (A 21 i.toNatClampNeg) else none := by
  simp only [h_ald, encC, List.getElem?_cons_succ, List.getElem?_cons_zero, true_and]
theorem eS_21 {I : Nat → Nat → Int32} {A : Nat → Nat → Int32} {L : Nat → Int64} {pr ot : Nat} {T : PH} {i v : Int32} : h_ast .int (encC I A L pr ot T) 21 i v = if ¬ (i < 0 ∨ 40 ≤ i.toNatClampNeg) then some (encC I (u1 A 21 (upd (A 21) i.toNatClampNeg v)) L pr ot T) else none := by
  simp only [h_ast, encC, List.getElem?_cons_succ, List.getElem?_cons_zero, true_and]
  rfl
theorem eN_21 {I : Nat → Nat → Int32} {A : Nat → Nat → Int32} {L : Nat → Int64} {pr ot : Nat} {T : PH} : h_al .int (encC I A L pr ot T) 21 = some 40 := rfl
theorem eA_22 {I : Nat → Nat → Int32} {A : Nat → Nat → Int32} {L : Nat → Int64} {pr ot : Nat} {T : PH} {i : Int32} : h_ald .int (encC I A L pr ot T) 22 i = if ¬ (i < 0 ∨ 40 ≤ i.toNatClampNeg) then some (A 22 i.toNatClampNeg) else none := by
  simp only [h_ald, encC, List.getElem?_cons_succ, List.getElem?_cons_zero, true_and]
theorem eS_22 {I : Nat → Nat → Int32} {A : Nat → Nat → Int32} {L : Nat → Int64} {pr ot : Nat} {T : PH} {i v : Int32} : h_ast .int (encC I A L pr ot T) 22 i v = if ¬ (i < 0 ∨ 40 ≤ i.toNatClampNeg) then some (encC I (u1 A 22 (upd (A 22) i.toNatClampNeg v)) L pr ot T) else none := by
  simp only [h_ast, encC, List.getElem?_cons_succ, List.getElem?_cons_zero, true_and]
  rfl
theorem eN_22 {I : Nat → Nat → Int32} {A : Nat → Nat → Int32} {L : Nat → Int64} {pr ot : Nat} {T : PH} : h_al .int (encC I A L pr ot T) 22 = some 40 := rfl
theorem eK_23 {I : Nat → Nat → Int32} {A : Nat → Nat → Int32} {L : Nat → Int64} {pr ot : Nat} {T : PH} : h_ck 5 (encC I A L pr ot T) 23 = some () := rfl
theorem eG_23_0 {I : Nat → Nat → Int32} {A : Nat → Nat → Int32} {L : Nat → Int64} {pr ot : Nat} {T : PH} : h_gi 5 0 (encC I A L pr ot T) 23 = some (I 23 0) := rfl
theorem eW_23_0 {I : Nat → Nat → Int32} {A : Nat → Nat → Int32} {L : Nat → Int64} {pr ot : Nat} {T : PH} {v : Int32} : h_pv 5 0 (encC I A L pr ot T) 23 (.int v) = some (encC (u2 I 23 0 v) A L pr ot T) := rfl
theorem eR_23_1 {I : Nat → Nat → Int32} {A : Nat → Nat → Int32} {L : Nat → Int64} {pr ot : Nat} {T : PH} : h_gr 5 1 (encC I A L pr ot T) 23 = some 24 := rfl
theorem eR_23_2 {I : Nat → Nat → Int32} {A : Nat → Nat → Int32} {L : Nat → Int64} {pr ot : Nat} {T : PH} : h_gr 5 2 (encC I A L pr ot T) 23 = some 25 := rfl
theorem eR_23_3 {I : Nat → Nat → Int32} {A : Nat → Nat → Int32} {L : Nat → Int64} {pr ot : Nat} {T : PH} : h_gr 5 3 (encC I A L pr ot T) 23 = some 26 := rfl
theorem eG_23_4 {I : Nat → Nat → Int32} {A : Nat → Nat → Int32} {L : Nat → Int64} {pr ot : Nat} {T : PH} : h_gi 5 4 (encC I A L pr ot T) 23 = some (I 23 4) := rfl
theorem eW_23_4 {I : Nat → Nat → Int32} {A : Nat → Nat → Int32} {L : Nat → Int64} {pr ot : Nat} {T : PH} {v : Int32} : h_pv 5 4 (encC I A L pr ot T) 23 (.int v) = some (encC (u2 I 23 4 v) A L pr ot T) := rfl
theorem eG_23_5 {I : Nat → Nat → Int32} {A : Nat → Nat → Int32} {L : Nat → Int64} {pr ot : Nat} {T : PH} : h_gi 5 5 (encC I A L pr ot T) 23 = some (I 23 5) := rfl
theorem eW_23_5 {I : Nat → Nat → Int32} {A : Nat → Nat → Int32} {L : Nat → Int64} {pr ot : Nat} {T : PH} {v : Int32} : h_pv 5 5 (encC I A L pr ot T) 23 (.int v) = some (encC (u2 I 23 5 v) A L pr ot T) := rfl
theorem eG_23_6 {I : Nat → Nat → Int32} {A : Nat → Nat → Int32} {L : Nat → Int64} {pr ot : Nat} {T : PH} : h_gi 5 6 (encC I A L pr ot T) 23 = some (I 23 6) := rfl
theorem eW_23_6 {I : Nat → Nat → Int32} {A : Nat → Nat → Int32} {L : Nat → Int64} {pr ot : Nat} {T : PH} {v : Int32} : h_pv 5 6 (encC I A L pr ot T) 23 (.int v) = some (encC (u2 I 23 6 v) A L pr ot T) := rfl
theorem eG_23_7 {I : Nat → Nat → Int32} {A : Nat → Nat → Int32} {L : Nat → Int64} {pr ot : Nat} {T : PH} : h_gi 5 7 (encC I A L pr ot T) 23 = some (I 23 7) := rfl
theorem eW_23_7 {I : Nat → Nat → Int32} {A : Nat → Nat → Int32} {L : Nat → Int64} {pr ot : Nat} {T : PH} {v : Int32} : h_pv 5 7 (encC I A L pr ot T) 23 (.int v) = some (encC (u2 I 23 7 v) A L pr ot T) := rfl
theorem eG_23_8 {I : Nat → Nat → Int32} {A : Nat → Nat → Int32} {L : Nat → Int64} {pr ot : Nat} {T : PH} : h_gi 5 8 (encC I A L pr ot T) 23 = some (I 23 8) := rfl
theorem eW_23_8 {I : Nat → Nat → Int32} {A : Nat → Nat → Int32} {L : Nat → Int64} {pr ot : Nat} {T : PH} {v : Int32} : h_pv 5 8 (encC I A L pr ot T) 23 (.int v) = some (encC (u2 I 23 8 v) A L pr ot T) := rfl
theorem eG_23_9 {I : Nat → Nat → Int32} {A : Nat → Nat → Int32} {L : Nat → Int64} {pr ot : Nat} {T : PH} : h_gi 5 9 (encC I A L pr ot T) 23 = some (I 23 9) := rfl
theorem eW_23_9 {I : Nat → Nat → Int32} {A : Nat → Nat → Int32} {L : Nat → Int64} {pr ot : Nat} {T : PH} {v : Int32} : h_pv 5 9 (encC I A L pr ot T) 23 (.int v) = some (encC (u2 I 23 9 v) A L pr ot T) := rfl
theorem eA_24 {I : Nat → Nat → Int32} {A : Nat → Nat → Int32} {L : Nat → Int64} {pr ot : Nat} {T : PH} {i : Int32} : h_ald .int (encC I A L pr ot T) 24 i = if ¬ (i < 0 ∨ 40 ≤ i.toNatClampNeg) then some (A 24 i.toNatClampNeg) else none := by
  simp only [h_ald, encC, List.getElem?_cons_succ, List.getElem?_cons_zero, true_and]
theorem eS_24 {I : Nat → Nat → Int32} {A : Nat → Nat → Int32} {L : Nat → Int64} {pr ot : Nat} {T : PH} {i v : Int32} : h_ast .int (encC I A L pr ot T) 24 i v = if ¬ (i < 0 ∨ 40 ≤ i.toNatClampNeg) then some (encC I (u1 A 24 (upd (A 24) i.toNatClampNeg v)) L pr ot T) else none := by
  simp only [h_ast, encC, List.getElem?_cons_succ, List.getElem?_cons_zero, true_and]
  rfl
theorem eN_24 {I : Nat → Nat → Int32} {A : Nat → Nat → Int32} {L : Nat → Int64} {pr ot : Nat} {T : PH} : h_al .int (encC I A L pr ot T) 24 = some 40 := rfl
theorem eA_25 {I : Nat → Nat → Int32} {A : Nat → Nat → Int32} {L : Nat → Int64} {pr ot : Nat} {T : PH} {i : Int32} : h_ald .int (encC I A L pr ot T) 25 i = if ¬ (i < 0 ∨ 40 ≤ i.toNatClampNeg) then some (A 25 i.toNatClampNeg) else none := by
  simp only [h_ald, encC, List.getElem?_cons_succ, List.getElem?_cons_zero, true_and]
theorem eS_25 {I : Nat → Nat → Int32} {A : Nat → Nat → Int32} {L : Nat → Int64} {pr ot : Nat} {T : PH} {i v : Int32} : h_ast .int (encC I A L pr ot T) 25 i v = if ¬ (i < 0 ∨ 40 ≤ i.toNatClampNeg) then some (encC I (u1 A 25 (upd (A 25) i.toNatClampNeg v)) L pr ot T) else none := by
  simp only [h_ast, encC, List.getElem?_cons_succ, List.getElem?_cons_zero, true_and]
  rfl
theorem eN_25 {I : Nat → Nat → Int32} {A : Nat → Nat → Int32} {L : Nat → Int64} {pr ot : Nat} {T : PH} : h_al .int (encC I A L pr ot T) 25 = some 40 := rfl
theorem eA_26 {I : Nat → Nat → Int32} {A : Nat → Nat → Int32} {L : Nat → Int64} {pr ot : Nat} {T : PH} {i : Int32} : h_ald .int (encC I A L pr ot T) 26 i = if ¬ (i < 0 ∨ 40 ≤ i.toNatClampNeg) then some (A 26 i.toNatClampNeg) else none := by
  simp only [h_ald, encC, List.getElem?_cons_succ, List.getElem?_cons_zero, true_and]
theorem eS_26 {I : Nat → Nat → Int32} {A : Nat → Nat → Int32} {L : Nat → Int64} {pr ot : Nat} {T : PH} {i v : Int32} : h_ast .int (encC I A L pr ot T) 26 i v = if ¬ (i < 0 ∨ 40 ≤ i.toNatClampNeg) then some (encC I (u1 A 26 (upd (A 26) i.toNatClampNeg v)) L pr ot T) else none := by
  simp only [h_ast, encC, List.getElem?_cons_succ, List.getElem?_cons_zero, true_and]
  rfl
theorem eN_26 {I : Nat → Nat → Int32} {A : Nat → Nat → Int32} {L : Nat → Int64} {pr ot : Nat} {T : PH} : h_al .int (encC I A L pr ot T) 26 = some 40 := rfl
theorem eK_27 {I : Nat → Nat → Int32} {A : Nat → Nat → Int32} {L : Nat → Int64} {pr ot : Nat} {T : PH} : h_ck 7 (encC I A L pr ot T) 27 = some () := rfl
theorem eR_27_0 {I : Nat → Nat → Int32} {A : Nat → Nat → Int32} {L : Nat → Int64} {pr ot : Nat} {T : PH} : h_gr 7 0 (encC I A L pr ot T) 27 = some 11 := rfl
theorem eR_27_1 {I : Nat → Nat → Int32} {A : Nat → Nat → Int32} {L : Nat → Int64} {pr ot : Nat} {T : PH} : h_gr 7 1 (encC I A L pr ot T) 27 = some 28 := rfl
theorem eR_27_2 {I : Nat → Nat → Int32} {A : Nat → Nat → Int32} {L : Nat → Int64} {pr ot : Nat} {T : PH} : h_gr 7 2 (encC I A L pr ot T) 27 = some 29 := rfl
theorem eR_27_3 {I : Nat → Nat → Int32} {A : Nat → Nat → Int32} {L : Nat → Int64} {pr ot : Nat} {T : PH} : h_gr 7 3 (encC I A L pr ot T) 27 = some 30 := rfl
theorem eA_28 {I : Nat → Nat → Int32} {A : Nat → Nat → Int32} {L : Nat → Int64} {pr ot : Nat} {T : PH} {i : Int32} : h_ald .int (encC I A L pr ot T) 28 i = if ¬ (i < 0 ∨ 82 ≤ i.toNatClampNeg) then some (A 28 i.toNatClampNeg) else none := by
  simp only [h_ald, encC, List.getElem?_cons_succ, List.getElem?_cons_zero, true_and]
theorem eS_28 {I : Nat → Nat → Int32} {A : Nat → Nat → Int32} {L : Nat → Int64} {pr ot : Nat} {T : PH} {i v : Int32} : h_ast .int (encC I A L pr ot T) 28 i v = if ¬ (i < 0 ∨ 82 ≤ i.toNatClampNeg) then some (encC I (u1 A 28 (upd (A 28) i.toNatClampNeg v)) L pr ot T) else none := by
  simp only [h_ast, encC, List.getElem?_cons_succ, List.getElem?_cons_zero, true_and]
  rfl
theorem eN_28 {I : Nat → Nat → Int32} {A : Nat → Nat → Int32} {L : Nat → Int64} {pr ot : Nat} {T : PH} : h_al .int (encC I A L pr ot T) 28 = some 82 := rfl
theorem eA_29 {I : Nat → Nat → Int32} {A : Nat → Nat → Int32} {L : Nat → Int64} {pr ot : Nat} {T : PH} {i : Int32} : h_ald .int (encC I A L pr ot T) 29 i = if ¬ (i < 0 ∨ 7 ≤ i.toNatClampNeg) then some (A 29 i.toNatClampNeg) else none := by
  simp only [h_ald, encC, List.getElem?_cons_succ, List.getElem?_cons_zero, true_and]
theorem eS_29 {I : Nat → Nat → Int32} {A : Nat → Nat → Int32} {L : Nat → Int64} {pr ot : Nat} {T : PH} {i v : Int32} : h_ast .int (encC I A L pr ot T) 29 i v = if ¬ (i < 0 ∨ 7 ≤ i.toNatClampNeg) then some (encC I (u1 A 29 (upd (A 29) i.toNatClampNeg v)) L pr ot T) else none := by
  simp only [h_ast, encC, List.getElem?_cons_succ, List.getElem?_cons_zero, true_and]
  rfl
theorem eN_29 {I : Nat → Nat → Int32} {A : Nat → Nat → Int32} {L : Nat → Int64} {pr ot : Nat} {T : PH} : h_al .int (encC I A L pr ot T) 29 = some 7 := rfl
theorem eA_30 {I : Nat → Nat → Int32} {A : Nat → Nat → Int32} {L : Nat → Int64} {pr ot : Nat} {T : PH} {i : Int32} : h_ald .int (encC I A L pr ot T) 30 i = if ¬ (i < 0 ∨ 4 ≤ i.toNatClampNeg) then some (A 30 i.toNatClampNeg) else none := by
  simp only [h_ald, encC, List.getElem?_cons_succ, List.getElem?_cons_zero, true_and]
theorem eS_30 {I : Nat → Nat → Int32} {A : Nat → Nat → Int32} {L : Nat → Int64} {pr ot : Nat} {T : PH} {i v : Int32} : h_ast .int (encC I A L pr ot T) 30 i v = if ¬ (i < 0 ∨ 4 ≤ i.toNatClampNeg) then some (encC I (u1 A 30 (upd (A 30) i.toNatClampNeg v)) L pr ot T) else none := by
  simp only [h_ast, encC, List.getElem?_cons_succ, List.getElem?_cons_zero, true_and]
  rfl
theorem eN_30 {I : Nat → Nat → Int32} {A : Nat → Nat → Int32} {L : Nat → Int64} {pr ot : Nat} {T : PH} : h_al .int (encC I A L pr ot T) 30 = some 4 := rfl
theorem eK_31 {I : Nat → Nat → Int32} {A : Nat → Nat → Int32} {L : Nat → Int64} {pr ot : Nat} {T : PH} : h_ck 7 (encC I A L pr ot T) 31 = some () := rfl
theorem eR_31_0 {I : Nat → Nat → Int32} {A : Nat → Nat → Int32} {L : Nat → Int64} {pr ot : Nat} {T : PH} : h_gr 7 0 (encC I A L pr ot T) 31 = some 11 := rfl
theorem eR_31_1 {I : Nat → Nat → Int32} {A : Nat → Nat → Int32} {L : Nat → Int64} {pr ot : Nat} {T : PH} : h_gr 7 1 (encC I A L pr ot T) 31 = some 32 := rfl
theorem eR_31_2 {I : Nat → Nat → Int32} {A : Nat → Nat → Int32} {L : Nat → Int64} {pr ot : Nat} {T : PH} : h_gr 7 2 (encC I A L pr ot T) 31 = some 33 := rfl
theorem eR_31_3 {I : Nat → Nat → Int32} {A : Nat → Nat → Int32} {L : Nat → Int64} {pr ot : Nat} {T : PH} : h_gr 7 3 (encC I A L pr ot T) 31 = some 34 := rfl
theorem eA_32 {I : Nat → Nat → Int32} {A : Nat → Nat → Int32} {L : Nat → Int64} {pr ot : Nat} {T : PH} {i : Int32} : h_ald .int (encC I A L pr ot T) 32 i = if ¬ (i < 0 ∨ 82 ≤ i.toNatClampNeg) then some (A 32 i.toNatClampNeg) else none := by
  simp only [h_ald, encC, List.getElem?_cons_succ, List.getElem?_cons_zero, true_and]
theorem eS_32 {I : Nat → Nat → Int32} {A : Nat → Nat → Int32} {L : Nat → Int64} {pr ot : Nat} {T : PH} {i v : Int32} : h_ast .int (encC I A L pr ot T) 32 i v = if ¬ (i < 0 ∨ 82 ≤ i.toNatClampNeg) then some (encC I (u1 A 32 (upd (A 32) i.toNatClampNeg v)) L pr ot T) else none := by
  simp only [h_ast, encC, List.getElem?_cons_succ, List.getElem?_cons_zero, true_and]
  rfl
theorem eN_32 {I : Nat → Nat → Int32} {A : Nat → Nat → Int32} {L : Nat → Int64} {pr ot : Nat} {T : PH} : h_al .int (encC I A L pr ot T) 32 = some 82 := rfl
theorem eA_33 {I : Nat → Nat → Int32} {A : Nat → Nat → Int32} {L : Nat → Int64} {pr ot : Nat} {T : PH} {i : Int32} : h_ald .int (encC I A L pr ot T) 33 i = if ¬ (i < 0 ∨ 7 ≤ i.toNatClampNeg) then some (A 33 i.toNatClampNeg) else none := by
  simp only [h_ald, encC, List.getElem?_cons_succ, List.getElem?_cons_zero, true_and]
theorem eS_33 {I : Nat → Nat → Int32} {A : Nat → Nat → Int32} {L : Nat → Int64} {pr ot : Nat} {T : PH} {i v : Int32} : h_ast .int (encC I A L pr ot T) 33 i v = if ¬ (i < 0 ∨ 7 ≤ i.toNatClampNeg) then some (encC I (u1 A 33 (upd (A 33) i.toNatClampNeg v)) L pr ot T) else none := by
  simp only [h_ast, encC, List.getElem?_cons_succ, List.getElem?_cons_zero, true_and]
  rfl
theorem eN_33 {I : Nat → Nat → Int32} {A : Nat → Nat → Int32} {L : Nat → Int64} {pr ot : Nat} {T : PH} : h_al .int (encC I A L pr ot T) 33 = some 7 := rfl
theorem eA_34 {I : Nat → Nat → Int32} {A : Nat → Nat → Int32} {L : Nat → Int64} {pr ot : Nat} {T : PH} {i : Int32} : h_ald .int (encC I A L pr ot T) 34 i = if ¬ (i < 0 ∨ 4 ≤ i.toNatClampNeg) then some (A 34 i.toNatClampNeg) else none := by
  simp only [h_ald, encC, List.getElem?_cons_succ, List.getElem?_cons_zero, true_and]
theorem eS_34 {I : Nat → Nat → Int32} {A : Nat → Nat → Int32} {L : Nat → Int64} {pr ot : Nat} {T : PH} {i v : Int32} : h_ast .int (encC I A L pr ot T) 34 i v = if ¬ (i < 0 ∨ 4 ≤ i.toNatClampNeg) then some (encC I (u1 A 34 (upd (A 34) i.toNatClampNeg v)) L pr ot T) else none := by
  simp only [h_ast, encC, List.getElem?_cons_succ, List.getElem?_cons_zero, true_and]
  rfl
theorem eN_34 {I : Nat → Nat → Int32} {A : Nat → Nat → Int32} {L : Nat → Int64} {pr ot : Nat} {T : PH} : h_al .int (encC I A L pr ot T) 34 = some 4 := rfl
theorem eK_35 {I : Nat → Nat → Int32} {A : Nat → Nat → Int32} {L : Nat → Int64} {pr ot : Nat} {T : PH} : h_ck 3 (encC I A L pr ot T) 35 = some () := rfl
theorem eR_35_0 {I : Nat → Nat → Int32} {A : Nat → Nat → Int32} {L : Nat → Int64} {pr ot : Nat} {T : PH} : h_gr 3 0 (encC I A L pr ot T) 35 = some 11 := rfl
theorem eR_35_1 {I : Nat → Nat → Int32} {A : Nat → Nat → Int32} {L : Nat → Int64} {pr ot : Nat} {T : PH} : h_gr 3 1 (encC I A L pr ot T) 35 = some 27 := rfl
theorem eR_35_2 {I : Nat → Nat → Int32} {A : Nat → Nat → Int32} {L : Nat → Int64} {pr ot : Nat} {T : PH} : h_gr 3 2 (encC I A L pr ot T) 35 = some 31 := rfl
theorem eR_35_3 {I : Nat → Nat → Int32} {A : Nat → Nat → Int32} {L : Nat → Int64} {pr ot : Nat} {T : PH} : h_gr 3 3 (encC I A L pr ot T) 35 = some 9 := rfl
theorem eR_35_4 {I : Nat → Nat → Int32} {A : Nat → Nat → Int32} {L : Nat → Int64} {pr ot : Nat} {T : PH} : h_gr 3 4 (encC I A L pr ot T) 35 = some 36 := rfl
theorem eR_35_5 {I : Nat → Nat → Int32} {A : Nat → Nat → Int32} {L : Nat → Int64} {pr ot : Nat} {T : PH} : h_gr 3 5 (encC I A L pr ot T) 35 = some 37 := rfl
theorem eR_35_6 {I : Nat → Nat → Int32} {A : Nat → Nat → Int32} {L : Nat → Int64} {pr ot : Nat} {T : PH} : h_gr 3 6 (encC I A L pr ot T) 35 = some 38 := rfl
theorem eR_35_7 {I : Nat → Nat → Int32} {A : Nat → Nat → Int32} {L : Nat → Int64} {pr ot : Nat} {T : PH} : h_gr 3 7 (encC I A L pr ot T) 35 = some 39 := rfl
theorem eR_35_8 {I : Nat → Nat → Int32} {A : Nat → Nat → Int32} {L : Nat → Int64} {pr ot : Nat} {T : PH} : h_gr 3 8 (encC I A L pr ot T) 35 = some 40 := rfl
theorem eR_35_9 {I : Nat → Nat → Int32} {A : Nat → Nat → Int32} {L : Nat → Int64} {pr ot : Nat} {T : PH} : h_gr 3 9 (encC I A L pr ot T) 35 = some 41 := rfl
theorem eR_35_10 {I : Nat → Nat → Int32} {A : Nat → Nat → Int32} {L : Nat → Int64} {pr ot : Nat} {T : PH} : h_gr 3 10 (encC I A L pr ot T) 35 = some 42 := rfl
theorem eR_35_11 {I : Nat → Nat → Int32} {A : Nat → Nat → Int32} {L : Nat → Int64} {pr ot : Nat} {T : PH} : h_gr 3 11 (encC I A L pr ot T) 35 = some 43 := rfl
theorem eR_35_12 {I : Nat → Nat → Int32} {A : Nat → Nat → Int32} {L : Nat → Int64} {pr ot : Nat} {T : PH} : h_gr 3 12 (encC I A L pr ot T) 35 = some 44 := rfl
theorem eG_35_13 {I : Nat → Nat → Int32} {A : Nat → Nat → Int32} {L : Nat → Int64} {pr ot : Nat} {T : PH} : h_gi 3 13 (encC I A L pr ot T) 35 = some (I 35 13) := rfl
theorem eW_35_13 {I : Nat → Nat → Int32} {A : Nat → Nat → Int32} {L : Nat → Int64} {pr ot : Nat} {T : PH} {v : Int32} : h_pv 3 13 (encC I A L pr ot T) 35 (.int v) = some (encC (u2 I 35 13 v) A L pr ot T) := rfl
theorem eA_36 {I : Nat → Nat → Int32} {A : Nat → Nat → Int32} {L : Nat → Int64} {pr ot : Nat} {T : PH} {i : Int32} : h_ald .int (encC I A L pr ot T) 36 i = if ¬ (i < 0 ∨ 12 ≤ i.toNatClampNeg) then some (A 36 i.toNatClampNeg) else none := by
  simp only [h_ald, encC, List.getElem?_cons_succ, List.getElem?_cons_zero, true_and]
theorem eS_36 {I : Nat → Nat → Int32} {A : Nat → Nat → Int32} {L : Nat → Int64} {pr ot : Nat} {T : PH} {i v : Int32} : h_ast .int (encC I A L pr ot T) 36 i v = if ¬ (i < 0 ∨ 12 ≤ i.toNatClampNeg) then some (encC I (u1 A 36 (upd (A 36) i.toNatClampNeg v)) L pr ot T) else none := by
  simp only [h_ast, encC, List.getElem?_cons_succ, List.getElem?_cons_zero, true_and]
  rfl
theorem eN_36 {I : Nat → Nat → Int32} {A : Nat → Nat → Int32} {L : Nat → Int64} {pr ot : Nat} {T : PH} : h_al .int (encC I A L pr ot T) 36 = some 12 := rfl
theorem eA_37 {I : Nat → Nat → Int32} {A : Nat → Nat → Int32} {L : Nat → Int64} {pr ot : Nat} {T : PH} {i : Int32} : h_ald .int (encC I A L pr ot T) 37 i = if ¬ (i < 0 ∨ 12 ≤ i.toNatClampNeg) then some (A 37 i.toNatClampNeg) else none := by
  simp only [h_ald, encC, List.getElem?_cons_succ, List.getElem?_cons_zero, true_and]
theorem eS_37 {I : Nat → Nat → Int32} {A : Nat → Nat → Int32} {L : Nat → Int64} {pr ot : Nat} {T : PH} {i v : Int32} : h_ast .int (encC I A L pr ot T) 37 i v = if ¬ (i < 0 ∨ 12 ≤ i.toNatClampNeg) then some (encC I (u1 A 37 (upd (A 37) i.toNatClampNeg v)) L pr ot T) else none := by
  simp only [h_ast, encC, List.getElem?_cons_succ, List.getElem?_cons_zero, true_and]
  rfl
theorem eN_37 {I : Nat → Nat → Int32} {A : Nat → Nat → Int32} {L : Nat → Int64} {pr ot : Nat} {T : PH} : h_al .int (encC I A L pr ot T) 37 = some 12 := rfl
theorem eA_38 {I : Nat → Nat → Int32} {A : Nat → Nat → Int32} {L : Nat → Int64} {pr ot : Nat} {T : PH} {i : Int32} : h_ald .int (encC I A L pr ot T) 38 i = if ¬ (i < 0 ∨ 12 ≤ i.toNatClampNeg) then some (A 38 i.toNatClampNeg) else none := by
  simp only [h_ald, encC, List.getElem?_cons_succ, List.getElem?_cons_zero, true_and]
theorem eS_38 {I : Nat → Nat → Int32} {A : Nat → Nat → Int32} {L : Nat → Int64} {pr ot : Nat} {T : PH} {i v : Int32} : h_ast .int (encC I A L pr ot T) 38 i v = if ¬ (i < 0 ∨ 12 ≤ i.toNatClampNeg) then some (encC I (u1 A 38 (upd (A 38) i.toNatClampNeg v)) L pr ot T) else none := by
  simp only [h_ast, encC, List.getElem?_cons_succ, List.getElem?_cons_zero, true_and]
  rfl
theorem eN_38 {I : Nat → Nat → Int32} {A : Nat → Nat → Int32} {L : Nat → Int64} {pr ot : Nat} {T : PH} : h_al .int (encC I A L pr ot T) 38 = some 12 := rfl
theorem eA_39 {I : Nat → Nat → Int32} {A : Nat → Nat → Int32} {L : Nat → Int64} {pr ot : Nat} {T : PH} {i : Int32} : h_ald .int (encC I A L pr ot T) 39 i = if ¬ (i < 0 ∨ 40 ≤ i.toNatClampNeg) then some (A 39 i.toNatClampNeg) else none := by
  simp only [h_ald, encC, List.getElem?_cons_succ, List.getElem?_cons_zero, true_and]
theorem eS_39 {I : Nat → Nat → Int32} {A : Nat → Nat → Int32} {L : Nat → Int64} {pr ot : Nat} {T : PH} {i v : Int32} : h_ast .int (encC I A L pr ot T) 39 i v = if ¬ (i < 0 ∨ 40 ≤ i.toNatClampNeg) then some (encC I (u1 A 39 (upd (A 39) i.toNatClampNeg v)) L pr ot T) else none := by
  simp only [h_ast, encC, List.getElem?_cons_succ, List.getElem?_cons_zero, true_and]
  rfl
theorem eN_39 {I : Nat → Nat → Int32} {A : Nat → Nat → Int32} {L : Nat → Int64} {pr ot : Nat} {T : PH} : h_al .int (encC I A L pr ot T) 39 = some 40 := rfl
theorem eA_40 {I : Nat → Nat → Int32} {A : Nat → Nat → Int32} {L : Nat → Int64} {pr ot : Nat} {T : PH} {i : Int32} : h_ald .int (encC I A L pr ot T) 40 i = if ¬ (i < 0 ∨ 8 ≤ i.toNatClampNeg) then some (A 40 i.toNatClampNeg) else none := by
  simp only [h_ald, encC, List.getElem?_cons_succ, List.getElem?_cons_zero, true_and]
theorem eS_40 {I : Nat → Nat → Int32} {A : Nat → Nat → Int32} {L : Nat → Int64} {pr ot : Nat} {T : PH} {i v : Int32} : h_ast .int (encC I A L pr ot T) 40 i v = if ¬ (i < 0 ∨ 8 ≤ i.toNatClampNeg) then some (encC I (u1 A 40 (upd (A 40) i.toNatClampNeg v)) L pr ot T) else none := by
  simp only [h_ast, encC, List.getElem?_cons_succ, List.getElem?_cons_zero, true_and]
  rfl
theorem eN_40 {I : Nat → Nat → Int32} {A : Nat → Nat → Int32} {L : Nat → Int64} {pr ot : Nat} {T : PH} : h_al .int (encC I A L pr ot T) 40 = some 8 := rfl
theorem eA_41 {I : Nat → Nat → Int32} {A : Nat → Nat → Int32} {L : Nat → Int64} {pr ot : Nat} {T : PH} {i : Int32} : h_ald .int (encC I A L pr ot T) 41 i = if ¬ (i < 0 ∨ 48 ≤ i.toNatClampNeg) then some (A 41 i.toNatClampNeg) else none := by
  simp only [h_ald, encC, List.getElem?_cons_succ, List.getElem?_cons_zero, true_and]
theorem eS_41 {I : Nat → Nat → Int32} {A : Nat → Nat → Int32} {L : Nat → Int64} {pr ot : Nat} {T : PH} {i v : Int32} : h_ast .int (encC I A L pr ot T) 41 i v = if ¬ (i < 0 ∨ 48 ≤ i.toNatClampNeg) then some (encC I (u1 A 41 (upd (A 41) i.toNatClampNeg v)) L pr ot T) else none := by
  simp only [h_ast, encC, List.getElem?_cons_succ, List.getElem?_cons_zero, true_and]
  rfl
theorem eN_41 {I : Nat → Nat → Int32} {A : Nat → Nat → Int32} {L : Nat → Int64} {pr ot : Nat} {T : PH} : h_al .int (encC I A L pr ot T) 41 = some 48 := rfl
theorem eA_42 {I : Nat → Nat → Int32} {A : Nat → Nat → Int32} {L : Nat → Int64} {pr ot : Nat} {T : PH} {i : Int32} : h_ald .int (encC I A L pr ot T) 42 i = if ¬ (i < 0 ∨ 8 ≤ i.toNatClampNeg) then some (A 42 i.toNatClampNeg) else none := by
  simp only [h_ald, encC, List.getElem?_cons_succ, List.getElem?_cons_zero, true_and]
theorem eS_42 {I : Nat → Nat → Int32} {A : Nat → Nat → Int32} {L : Nat → Int64} {pr ot : Nat} {T : PH} {i v : Int32} : h_ast .int (encC I A L pr ot T) 42 i v = if ¬ (i < 0 ∨ 8 ≤ i.toNatClampNeg) then some (encC I (u1 A 42 (upd (A 42) i.toNatClampNeg v)) L pr ot T) else none := by
  simp only [h_ast, encC, List.getElem?_cons_succ, List.getElem?_cons_zero, true_and]
  rfl
theorem eN_42 {I : Nat → Nat → Int32} {A : Nat → Nat → Int32} {L : Nat → Int64} {pr ot : Nat} {T : PH} : h_al .int (encC I A L pr ot T) 42 = some 8 := rfl
theorem eA_43 {I : Nat → Nat → Int32} {A : Nat → Nat → Int32} {L : Nat → Int64} {pr ot : Nat} {T : PH} {i : Int32} : h_ald .int (encC I A L pr ot T) 43 i = if ¬ (i < 0 ∨ 64 ≤ i.toNatClampNeg) then some (A 43 i.toNatClampNeg) else none := by
  simp only [h_ald, encC, List.getElem?_cons_succ, List.getElem?_cons_zero, true_and]
theorem eS_43 {I : Nat → Nat → Int32} {A : Nat → Nat → Int32} {L : Nat → Int64} {pr ot : Nat} {T : PH} {i v : Int32} : h_ast .int (encC I A L pr ot T) 43 i v = if ¬ (i < 0 ∨ 64 ≤ i.toNatClampNeg) then some (encC I (u1 A 43 (upd (A 43) i.toNatClampNeg v)) L pr ot T) else none := by
  simp only [h_ast, encC, List.getElem?_cons_succ, List.getElem?_cons_zero, true_and]
  rfl
theorem eN_43 {I : Nat → Nat → Int32} {A : Nat → Nat → Int32} {L : Nat → Int64} {pr ot : Nat} {T : PH} : h_al .int (encC I A L pr ot T) 43 = some 64 := rfl
theorem eA_44 {I : Nat → Nat → Int32} {A : Nat → Nat → Int32} {L : Nat → Int64} {pr ot : Nat} {T : PH} {i : Int32} : h_ald .int (encC I A L pr ot T) 44 i = if ¬ (i < 0 ∨ 64 ≤ i.toNatClampNeg) then some (A 44 i.toNatClampNeg) else none := by
  simp only [h_ald, encC, List.getElem?_cons_succ, List.getElem?_cons_zero, true_and]
theorem eS_44 {I : Nat → Nat → Int32} {A : Nat → Nat → Int32} {L : Nat → Int64} {pr ot : Nat} {T : PH} {i v : Int32} : h_ast .int (encC I A L pr ot T) 44 i v = if ¬ (i < 0 ∨ 64 ≤ i.toNatClampNeg) then some (encC I (u1 A 44 (upd (A 44) i.toNatClampNeg v)) L pr ot T) else none := by
  simp only [h_ast, encC, List.getElem?_cons_succ, List.getElem?_cons_zero, true_and]
  rfl
theorem eN_44 {I : Nat → Nat → Int32} {A : Nat → Nat → Int32} {L : Nat → Int64} {pr ot : Nat} {T : PH} : h_al .int (encC I A L pr ot T) 44 = some 64 := rfl
def I0 : Nat → Nat → Int32 := fun o k => if o = 3 ∧ k = 0 then 55 else if o = 3 ∧ k = 1 then 6 else if o = 3 ∧ k = 2 then 2 else if o = 4 ∧ k = 0 then 35 else if o = 4 ∧ k = 1 then 5 else if o = 4 ∧ k = 2 then 5 else if o = 5 ∧ k = 0 then 59 else if o = 6 ∧ k = 0 then 60 else if o = 19 ∧ k = 0 then 40 else if o = 23 ∧ k = 0 then 40 else 0
def A0 : Nat → Nat → Int32 := fun o k => if (o = 28 ∨ o = 32) ∧ 32 ≤ k ∧ k < 80 then -1 else 0
