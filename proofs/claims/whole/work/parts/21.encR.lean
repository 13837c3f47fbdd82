/-! THE MODEL'S HEAP, from place 45 on: J its int fields, B its int, byte and boolean arrays by the field that holds them first, M its row, rdv the field read, ru the field rule -/
def encR (J : Nat → Int32) (B : Nat → Nat → Int32) (M : Nat → Int64) (rdv : Value) (ru : Nat) (T : PH) : PH :=
  .inr (11, [.ref 46, .int (J 1), .int (J 2), .int (J 3), .ref 47, .ref 48, .ref 49, .ref 50, .ref 51, .ref 52, .int (J 10), .ref 53, .int (J 12), .int (J 13), rdv, .int (J 15), .int (J 16), .int (J 17), .int (J 18), .ref 54, .ref 55, .ref ru, .ref 57, .int (J 23), .int (J 24), .ref 58, .ref 59, .int (J 27), .ref 60, .ref 61, .ref 62, .int (J 31), .ref 63, .ref 64, .ref 65, .ref 66, .ref 67, .int (J 37), .ref 68, .ref 69, .ref 70, .ref 71, .ref 72, .ref 73, .int (J 44), .ref 74, .int (J 46), .int (J 47), .ref 75, .ref 76, .ref 77]) ::
  .inl (.int, (88, .inl (B 0))) ::
  .inl (.int, (8, .inl (B 4))) ::
  .inl (.int, (32, .inl (B 5))) ::
  .inl (.int, (6, .inl (B 6))) ::
  .inl (.int, (6, .inl (B 7))) ::
  .inl (.int, (54, .inl (B 8))) ::
  .inl (.byte, (80, .inl (B 9))) ::
  .inl (.long, (16, .inr (.inl M))) ::
  .inl (.int, (64, .inl (B 19))) ::
  .inl (.int, (6, .inl (B 20))) ::
  .inl (.byte, (40, .inl (B 21))) ::
  .inl (.byte, (40, .inl (B 22))) ::
  .inl (.int, (7, .inl (B 25))) ::
  .inl (.int, (1056, .inl (B 26))) ::
  .inl (.int, (88, .inl (B 28))) ::
  .inl (.int, (88, .inl (B 29))) ::
  .inl (.int, (4, .inl (B 30))) ::
  .inl (.int, (240, .inl (B 32))) ::
  .inl (.int, (4, .inl (B 33))) ::
  .inl (.int, (12, .inl (B 34))) ::
  .inl (.int, (12, .inl (B 35))) ::
  .inl (.int, (12, .inl (B 36))) ::
  .inl (.int, (32, .inl (B 38))) ::
  .inl (.int, (10, .inl (B 39))) ::
  .inl (.int, (54, .inl (B 40))) ::
  .inl (.int, (6, .inl (B 41))) ::
  .inl (.int, (6, .inl (B 42))) ::
  .inl (.int, (8, .inl (B 43))) ::
  .inl (.int, (10000, .inl (B 45))) ::
  .inl (.int, (176, .inl (B 48))) ::
  .inl (.boolean, (2, .inl (B 49))) ::
  .inl (.int, (2, .inl (B 50))) :: T
theorem rK {I : Nat → Nat → Int32} {A : Nat → Nat → Int32} {L : Nat → Int64} {pr ot : Nat} {J : Nat → Int32} {B : Nat → Nat → Int32} {M : Nat → Int64} {rdv : Value} {ru : Nat} {T : PH} : h_ck 11 (encC I A L pr ot (encR J B M rdv ru T)) 45 = some () := rfl
theorem rR_0 {I : Nat → Nat → Int32} {A : Nat → Nat → Int32} {L : Nat → Int64} {pr ot : Nat} {J : Nat → Int32} {B : Nat → Nat → Int32} {M : Nat → Int64} {rdv : Value} {ru : Nat} {T : PH} : h_gr 11 0 (encC I A L pr ot (encR J B M rdv ru T)) 45 = some 46 := rfl
theorem rG_1 {I : Nat → Nat → Int32} {A : Nat → Nat → Int32} {L : Nat → Int64} {pr ot : Nat} {J : Nat → Int32} {B : Nat → Nat → Int32} {M : Nat → Int64} {rdv : Value} {ru : Nat} {T : PH} : h_gi 11 1 (encC I A L pr ot (encR J B M rdv ru T)) 45 = some (J 1) := rfl
theorem rW_1 {I : Nat → Nat → Int32} {A : Nat → Nat → Int32} {L : Nat → Int64} {pr ot : Nat} {J : Nat → Int32} {B : Nat → Nat → Int32} {M : Nat → Int64} {rdv : Value} {ru : Nat} {T : PH} {v : Int32} : h_pv 11 1 (encC I A L pr ot (encR J B M rdv ru T)) 45 (.int v) = some (encC I A L pr ot (encR (u1 J 1 v) B M rdv ru T)) := rfl
theorem rG_2 {I : Nat → Nat → Int32} {A : Nat → Nat → Int32} {L : Nat → Int64} {pr ot : Nat} {J : Nat → Int32} {B : Nat → Nat → Int32} {M : Nat → Int64} {rdv : Value} {ru : Nat} {T : PH} : h_gi 11 2 (encC I A L pr ot (encR J B M rdv ru T)) 45 = some (J 2) := rfl
theorem rW_2 {I : Nat → Nat → Int32} {A : Nat → Nat → Int32} {L : Nat → Int64} {pr ot : Nat} {J : Nat → Int32} {B : Nat → Nat → Int32} {M : Nat → Int64} {rdv : Value} {ru : Nat} {T : PH} {v : Int32} : h_pv 11 2 (encC I A L pr ot (encR J B M rdv ru T)) 45 (.int v) = some (encC I A L pr ot (encR (u1 J 2 v) B M rdv ru T)) := rfl
theorem rG_3 {I : Nat → Nat → Int32} {A : Nat → Nat → Int32} {L : Nat → Int64} {pr ot : Nat} {J : Nat → Int32} {B : Nat → Nat → Int32} {M : Nat → Int64} {rdv : Value} {ru : Nat} {T : PH} : h_gi 11 3 (encC I A L pr ot (encR J B M rdv ru T)) 45 = some (J 3) := rfl
theorem rW_3 {I : Nat → Nat → Int32} {A : Nat → Nat → Int32} {L : Nat → Int64} {pr ot : Nat} {J : Nat → Int32} {B : Nat → Nat → Int32} {M : Nat → Int64} {rdv : Value} {ru : Nat} {T : PH} {v : Int32} : h_pv 11 3 (encC I A L pr ot (encR J B M rdv ru T)) 45 (.int v) = some (encC I A L pr ot (encR (u1 J 3 v) B M rdv ru T)) := rfl
theorem rR_4 {I : Nat → Nat → Int32} {A : Nat → Nat → Int32} {L : Nat → Int64} {pr ot : Nat} {J : Nat → Int32} {B : Nat → Nat → Int32} {M : Nat → Int64} {rdv : Value} {ru : Nat} {T : PH} : h_gr 11 4 (encC I A L pr ot (encR J B M rdv ru T)) 45 = some 47 := rfl
theorem rR_5 {I : Nat → Nat → Int32} {A : Nat → Nat → Int32} {L : Nat → Int64} {pr ot : Nat} {J : Nat → Int32} {B : Nat → Nat → Int32} {M : Nat → Int64} {rdv : Value} {ru : Nat} {T : PH} : h_gr 11 5 (encC I A L pr ot (encR J B M rdv ru T)) 45 = some 48 := rfl
theorem rR_6 {I : Nat → Nat → Int32} {A : Nat → Nat → Int32} {L : Nat → Int64} {pr ot : Nat} {J : Nat → Int32} {B : Nat → Nat → Int32} {M : Nat → Int64} {rdv : Value} {ru : Nat} {T : PH} : h_gr 11 6 (encC I A L pr ot (encR J B M rdv ru T)) 45 = some 49 := rfl
theorem rR_7 {I : Nat → Nat → Int32} {A : Nat → Nat → Int32} {L : Nat → Int64} {pr ot : Nat} {J : Nat → Int32} {B : Nat → Nat → Int32} {M : Nat → Int64} {rdv : Value} {ru : Nat} {T : PH} : h_gr 11 7 (encC I A L pr ot (encR J B M rdv ru T)) 45 = some 50 := rfl
theorem rR_8 {I : Nat → Nat → Int32} {A : Nat → Nat → Int32} {L : Nat → Int64} {pr ot : Nat} {J : Nat → Int32} {B : Nat → Nat → Int32} {M : Nat → Int64} {rdv : Value} {ru : Nat} {T : PH} : h_gr 11 8 (encC I A L pr ot (encR J B M rdv ru T)) 45 = some 51 := rfl
theorem rR_9 {I : Nat → Nat → Int32} {A : Nat → Nat → Int32} {L : Nat → Int64} {pr ot : Nat} {J : Nat → Int32} {B : Nat → Nat → Int32} {M : Nat → Int64} {rdv : Value} {ru : Nat} {T : PH} : h_gr 11 9 (encC I A L pr ot (encR J B M rdv ru T)) 45 = some 52 := rfl
theorem rG_10 {I : Nat → Nat → Int32} {A : Nat → Nat → Int32} {L : Nat → Int64} {pr ot : Nat} {J : Nat → Int32} {B : Nat → Nat → Int32} {M : Nat → Int64} {rdv : Value} {ru : Nat} {T : PH} : h_gi 11 10 (encC I A L pr ot (encR J B M rdv ru T)) 45 = some (J 10) := rfl
theorem rW_10 {I : Nat → Nat → Int32} {A : Nat → Nat → Int32} {L : Nat → Int64} {pr ot : Nat} {J : Nat → Int32} {B : Nat → Nat → Int32} {M : Nat → Int64} {rdv : Value} {ru : Nat} {T : PH} {v : Int32} : h_pv 11 10 (encC I A L pr ot (encR J B M rdv ru T)) 45 (.int v) = some (encC I A L pr ot (encR (u1 J 10 v) B M rdv ru T)) := rfl
theorem rR_11 {I : Nat → Nat → Int32} {A : Nat → Nat → Int32} {L : Nat → Int64} {pr ot : Nat} {J : Nat → Int32} {B : Nat → Nat → Int32} {M : Nat → Int64} {rdv : Value} {ru : Nat} {T : PH} : h_gr 11 11 (encC I A L pr ot (encR J B M rdv ru T)) 45 = some 53 := rfl
theorem rG_12 {I : Nat → Nat → Int32} {A : Nat → Nat → Int32} {L : Nat → Int64} {pr ot : Nat} {J : Nat → Int32} {B : Nat → Nat → Int32} {M : Nat → Int64} {rdv : Value} {ru : Nat} {T : PH} : h_gi 11 12 (encC I A L pr ot (encR J B M rdv ru T)) 45 = some (J 12) := rfl
theorem rW_12 {I : Nat → Nat → Int32} {A : Nat → Nat → Int32} {L : Nat → Int64} {pr ot : Nat} {J : Nat → Int32} {B : Nat → Nat → Int32} {M : Nat → Int64} {rdv : Value} {ru : Nat} {T : PH} {v : Int32} : h_pv 11 12 (encC I A L pr ot (encR J B M rdv ru T)) 45 (.int v) = some (encC I A L pr ot (encR (u1 J 12 v) B M rdv ru T)) := rfl
theorem rG_13 {I : Nat → Nat → Int32} {A : Nat → Nat → Int32} {L : Nat → Int64} {pr ot : Nat} {J : Nat → Int32} {B : Nat → Nat → Int32} {M : Nat → Int64} {rdv : Value} {ru : Nat} {T : PH} : h_gi 11 13 (encC I A L pr ot (encR J B M rdv ru T)) 45 = some (J 13) := rfl
theorem rW_13 {I : Nat → Nat → Int32} {A : Nat → Nat → Int32} {L : Nat → Int64} {pr ot : Nat} {J : Nat → Int32} {B : Nat → Nat → Int32} {M : Nat → Int64} {rdv : Value} {ru : Nat} {T : PH} {v : Int32} : h_pv 11 13 (encC I A L pr ot (encR J B M rdv ru T)) 45 (.int v) = some (encC I A L pr ot (encR (u1 J 13 v) B M rdv ru T)) := rfl
theorem rR_14 {I : Nat → Nat → Int32} {A : Nat → Nat → Int32} {L : Nat → Int64} {pr ot : Nat} {J : Nat → Int32} {B : Nat → Nat → Int32} {M : Nat → Int64} {rdv : Value} {ru : Nat} {T : PH} {q : Nat} : h_gr 11 14 (encC I A L pr ot (encR J B M (.ref q) ru T)) 45 = some q := rfl
theorem rV_14 {I : Nat → Nat → Int32} {A : Nat → Nat → Int32} {L : Nat → Int64} {pr ot : Nat} {J : Nat → Int32} {B : Nat → Nat → Int32} {M : Nat → Int64} {rdv : Value} {ru : Nat} {T : PH} {v : Nat} : h_pv 11 14 (encC I A L pr ot (encR J B M rdv ru T)) 45 (.ref v) = some (encC I A L pr ot (encR J B M (.ref v) ru T)) := rfl
theorem rG_15 {I : Nat → Nat → Int32} {A : Nat → Nat → Int32} {L : Nat → Int64} {pr ot : Nat} {J : Nat → Int32} {B : Nat → Nat → Int32} {M : Nat → Int64} {rdv : Value} {ru : Nat} {T : PH} : h_gi 11 15 (encC I A L pr ot (encR J B M rdv ru T)) 45 = some (J 15) := rfl
theorem rW_15 {I : Nat → Nat → Int32} {A : Nat → Nat → Int32} {L : Nat → Int64} {pr ot : Nat} {J : Nat → Int32} {B : Nat → Nat → Int32} {M : Nat → Int64} {rdv : Value} {ru : Nat} {T : PH} {v : Int32} : h_pv 11 15 (encC I A L pr ot (encR J B M rdv ru T)) 45 (.int v) = some (encC I A L pr ot (encR (u1 J 15 v) B M rdv ru T)) := rfl
theorem rG_16 {I : Nat → Nat → Int32} {A : Nat → Nat → Int32} {L : Nat → Int64} {pr ot : Nat} {J : Nat → Int32} {B : Nat → Nat → Int32} {M : Nat → Int64} {rdv : Value} {ru : Nat} {T : PH} : h_gi 11 16 (encC I A L pr ot (encR J B M rdv ru T)) 45 = some (J 16) := rfl
theorem rW_16 {I : Nat → Nat → Int32} {A : Nat → Nat → Int32} {L : Nat → Int64} {pr ot : Nat} {J : Nat → Int32} {B : Nat → Nat → Int32} {M : Nat → Int64} {rdv : Value} {ru : Nat} {T : PH} {v : Int32} : h_pv 11 16 (encC I A L pr ot (encR J B M rdv ru T)) 45 (.int v) = some (encC I A L pr ot (encR (u1 J 16 v) B M rdv ru T)) := rfl
theorem rG_17 {I : Nat → Nat → Int32} {A : Nat → Nat → Int32} {L : Nat → Int64} {pr ot : Nat} {J : Nat → Int32} {B : Nat → Nat → Int32} {M : Nat → Int64} {rdv : Value} {ru : Nat} {T : PH} : h_gi 11 17 (encC I A L pr ot (encR J B M rdv ru T)) 45 = some (J 17) := rfl
theorem rW_17 {I : Nat → Nat → Int32} {A : Nat → Nat → Int32} {L : Nat → Int64} {pr ot : Nat} {J : Nat → Int32} {B : Nat → Nat → Int32} {M : Nat → Int64} {rdv : Value} {ru : Nat} {T : PH} {v : Int32} : h_pv 11 17 (encC I A L pr ot (encR J B M rdv ru T)) 45 (.int v) = some (encC I A L pr ot (encR (u1 J 17 v) B M rdv ru T)) := rfl
theorem rG_18 {I : Nat → Nat → Int32} {A : Nat → Nat → Int32} {L : Nat → Int64} {pr ot : Nat} {J : Nat → Int32} {B : Nat → Nat → Int32} {M : Nat → Int64} {rdv : Value} {ru : Nat} {T : PH} : h_gi 11 18 (encC I A L pr ot (encR J B M rdv ru T)) 45 = some (J 18) := rfl
theorem rW_18 {I : Nat → Nat → Int32} {A : Nat → Nat → Int32} {L : Nat → Int64} {pr ot : Nat} {J : Nat → Int32} {B : Nat → Nat → Int32} {M : Nat → Int64} {rdv : Value} {ru : Nat} {T : PH} {v : Int32} : h_pv 11 18 (encC I A L pr ot (encR J B M rdv ru T)) 45 (.int v) = some (encC I A L pr ot (encR (u1 J 18 v) B M rdv ru T)) := rfl
theorem rR_19 {I : Nat → Nat → Int32} {A : Nat → Nat → Int32} {L : Nat → Int64} {pr ot : Nat} {J : Nat → Int32} {B : Nat → Nat → Int32} {M : Nat → Int64} {rdv : Value} {ru : Nat} {T : PH} : h_gr 11 19 (encC I A L pr ot (encR J B M rdv ru T)) 45 = some 54 := rfl
theorem rR_20 {I : Nat → Nat → Int32} {A : Nat → Nat → Int32} {L : Nat → Int64} {pr ot : Nat} {J : Nat → Int32} {B : Nat → Nat → Int32} {M : Nat → Int64} {rdv : Value} {ru : Nat} {T : PH} : h_gr 11 20 (encC I A L pr ot (encR J B M rdv ru T)) 45 = some 55 := rfl
theorem rR_21 {I : Nat → Nat → Int32} {A : Nat → Nat → Int32} {L : Nat → Int64} {pr ot : Nat} {J : Nat → Int32} {B : Nat → Nat → Int32} {M : Nat → Int64} {rdv : Value} {ru : Nat} {T : PH} : h_gr 11 21 (encC I A L pr ot (encR J B M rdv ru T)) 45 = some ru := rfl
theorem rV_21 {I : Nat → Nat → Int32} {A : Nat → Nat → Int32} {L : Nat → Int64} {pr ot : Nat} {J : Nat → Int32} {B : Nat → Nat → Int32} {M : Nat → Int64} {rdv : Value} {ru : Nat} {T : PH} {v : Nat} : h_pv 11 21 (encC I A L pr ot (encR J B M rdv ru T)) 45 (.ref v) = some (encC I A L pr ot (encR J B M rdv v T)) := rfl
theorem rR_22 {I : Nat → Nat → Int32} {A : Nat → Nat → Int32} {L : Nat → Int64} {pr ot : Nat} {J : Nat → Int32} {B : Nat → Nat → Int32} {M : Nat → Int64} {rdv : Value} {ru : Nat} {T : PH} : h_gr 11 22 (encC I A L pr ot (encR J B M rdv ru T)) 45 = some 57 := rfl
theorem rG_23 {I : Nat → Nat → Int32} {A : Nat → Nat → Int32} {L : Nat → Int64} {pr ot : Nat} {J : Nat → Int32} {B : Nat → Nat → Int32} {M : Nat → Int64} {rdv : Value} {ru : Nat} {T : PH} : h_gi 11 23 (encC I A L pr ot (encR J B M rdv ru T)) 45 = some (J 23) := rfl
theorem rW_23 {I : Nat → Nat → Int32} {A : Nat → Nat → Int32} {L : Nat → Int64} {pr ot : Nat} {J : Nat → Int32} {B : Nat → Nat → Int32} {M : Nat → Int64} {rdv : Value} {ru : Nat} {T : PH} {v : Int32} : h_pv 11 23 (encC I A L pr ot (encR J B M rdv ru T)) 45 (.int v) = some (encC I A L pr ot (encR (u1 J 23 v) B M rdv ru T)) := rfl
theorem rG_24 {I : Nat → Nat → Int32} {A : Nat → Nat → Int32} {L : Nat → Int64} {pr ot : Nat} {J : Nat → Int32} {B : Nat → Nat → Int32} {M : Nat → Int64} {rdv : Value} {ru : Nat} {T : PH} : h_gi 11 24 (encC I A L pr ot (encR J B M rdv ru T)) 45 = some (J 24) := rfl
theorem rW_24 {I : Nat → Nat → Int32} {A : Nat → Nat → Int32} {L : Nat → Int64} {pr ot : Nat} {J : Nat → Int32} {B : Nat → Nat → Int32} {M : Nat → Int64} {rdv : Value} {ru : Nat} {T : PH} {v : Int32} : h_pv 11 24 (encC I A L pr ot (encR J B M rdv ru T)) 45 (.int v) = some (encC I A L pr ot (encR (u1 J 24 v) B M rdv ru T)) := rfl
theorem rR_25 {I : Nat → Nat → Int32} {A : Nat → Nat → Int32} {L : Nat → Int64} {pr ot : Nat} {J : Nat → Int32} {B : Nat → Nat → Int32} {M : Nat → Int64} {rdv : Value} {ru : Nat} {T : PH} : h_gr 11 25 (encC I A L pr ot (encR J B M rdv ru T)) 45 = some 58 := rfl
theorem rR_26 {I : Nat → Nat → Int32} {A : Nat → Nat → Int32} {L : Nat → Int64} {pr ot : Nat} {J : Nat → Int32} {B : Nat → Nat → Int32} {M : Nat → Int64} {rdv : Value} {ru : Nat} {T : PH} : h_gr 11 26 (encC I A L pr ot (encR J B M rdv ru T)) 45 = some 59 := rfl
theorem rG_27 {I : Nat → Nat → Int32} {A : Nat → Nat → Int32} {L : Nat → Int64} {pr ot : Nat} {J : Nat → Int32} {B : Nat → Nat → Int32} {M : Nat → Int64} {rdv : Value} {ru : Nat} {T : PH} : h_gi 11 27 (encC I A L pr ot (encR J B M rdv ru T)) 45 = some (J 27) := rfl
theorem rW_27 {I : Nat → Nat → Int32} {A : Nat → Nat → Int32} {L : Nat → Int64} {pr ot : Nat} {J : Nat → Int32} {B : Nat → Nat → Int32} {M : Nat → Int64} {rdv : Value} {ru : Nat} {T : PH} {v : Int32} : h_pv 11 27 (encC I A L pr ot (encR J B M rdv ru T)) 45 (.int v) = some (encC I A L pr ot (encR (u1 J 27 v) B M rdv ru T)) := rfl
theorem rR_28 {I : Nat → Nat → Int32} {A : Nat → Nat → Int32} {L : Nat → Int64} {pr ot : Nat} {J : Nat → Int32} {B : Nat → Nat → Int32} {M : Nat → Int64} {rdv : Value} {ru : Nat} {T : PH} : h_gr 11 28 (encC I A L pr ot (encR J B M rdv ru T)) 45 = some 60 := rfl
theorem rR_29 {I : Nat → Nat → Int32} {A : Nat → Nat → Int32} {L : Nat → Int64} {pr ot : Nat} {J : Nat → Int32} {B : Nat → Nat → Int32} {M : Nat → Int64} {rdv : Value} {ru : Nat} {T : PH} : h_gr 11 29 (encC I A L pr ot (encR J B M rdv ru T)) 45 = some 61 := rfl
theorem rR_30 {I : Nat → Nat → Int32} {A : Nat → Nat → Int32} {L : Nat → Int64} {pr ot : Nat} {J : Nat → Int32} {B : Nat → Nat → Int32} {M : Nat → Int64} {rdv : Value} {ru : Nat} {T : PH} : h_gr 11 30 (encC I A L pr ot (encR J B M rdv ru T)) 45 = some 62 := rfl
theorem rG_31 {I : Nat → Nat → Int32} {A : Nat → Nat → Int32} {L : Nat → Int64} {pr ot : Nat} {J : Nat → Int32} {B : Nat → Nat → Int32} {M : Nat → Int64} {rdv : Value} {ru : Nat} {T : PH} : h_gi 11 31 (encC I A L pr ot (encR J B M rdv ru T)) 45 = some (J 31) := rfl
theorem rW_31 {I : Nat → Nat → Int32} {A : Nat → Nat → Int32} {L : Nat → Int64} {pr ot : Nat} {J : Nat → Int32} {B : Nat → Nat → Int32} {M : Nat → Int64} {rdv : Value} {ru : Nat} {T : PH} {v : Int32} : h_pv 11 31 (encC I A L pr ot (encR J B M rdv ru T)) 45 (.int v) = some (encC I A L pr ot (encR (u1 J 31 v) B M rdv ru T)) := rfl
theorem rR_32 {I : Nat → Nat → Int32} {A : Nat → Nat → Int32} {L : Nat → Int64} {pr ot : Nat} {J : Nat → Int32} {B : Nat → Nat → Int32} {M : Nat → Int64} {rdv : Value} {ru : Nat} {T : PH} : h_gr 11 32 (encC I A L pr ot (encR J B M rdv ru T)) 45 = some 63 := rfl
theorem rR_33 {I : Nat → Nat → Int32} {A : Nat → Nat → Int32} {L : Nat → Int64} {pr ot : Nat} {J : Nat → Int32} {B : Nat → Nat → Int32} {M : Nat → Int64} {rdv : Value} {ru : Nat} {T : PH} : h_gr 11 33 (encC I A L pr ot (encR J B M rdv ru T)) 45 = some 64 := rfl
theorem rR_34 {I : Nat → Nat → Int32} {A : Nat → Nat → Int32} {L : Nat → Int64} {pr ot : Nat} {J : Nat → Int32} {B : Nat → Nat → Int32} {M : Nat → Int64} {rdv : Value} {ru : Nat} {T : PH} : h_gr 11 34 (encC I A L pr ot (encR J B M rdv ru T)) 45 = some 65 := rfl
theorem rR_35 {I : Nat → Nat → Int32} {A : Nat → Nat → Int32} {L : Nat → Int64} {pr ot : Nat} {J : Nat → Int32} {B : Nat → Nat → Int32} {M : Nat → Int64} {rdv : Value} {ru : Nat} {T : PH} : h_gr 11 35 (encC I A L pr ot (encR J B M rdv ru T)) 45 = some 66 := rfl
theorem rR_36 {I : Nat → Nat → Int32} {A : Nat → Nat → Int32} {L : Nat → Int64} {pr ot : Nat} {J : Nat → Int32} {B : Nat → Nat → Int32} {M : Nat → Int64} {rdv : Value} {ru : Nat} {T : PH} : h_gr 11 36 (encC I A L pr ot (encR J B M rdv ru T)) 45 = some 67 := rfl
theorem rG_37 {I : Nat → Nat → Int32} {A : Nat → Nat → Int32} {L : Nat → Int64} {pr ot : Nat} {J : Nat → Int32} {B : Nat → Nat → Int32} {M : Nat → Int64} {rdv : Value} {ru : Nat} {T : PH} : h_gi 11 37 (encC I A L pr ot (encR J B M rdv ru T)) 45 = some (J 37) := rfl
theorem rW_37 {I : Nat → Nat → Int32} {A : Nat → Nat → Int32} {L : Nat → Int64} {pr ot : Nat} {J : Nat → Int32} {B : Nat → Nat → Int32} {M : Nat → Int64} {rdv : Value} {ru : Nat} {T : PH} {v : Int32} : h_pv 11 37 (encC I A L pr ot (encR J B M rdv ru T)) 45 (.int v) = some (encC I A L pr ot (encR (u1 J 37 v) B M rdv ru T)) := rfl
theorem rR_38 {I : Nat → Nat → Int32} {A : Nat → Nat → Int32} {L : Nat → Int64} {pr ot : Nat} {J : Nat → Int32} {B : Nat → Nat → Int32} {M : Nat → Int64} {rdv : Value} {ru : Nat} {T : PH} : h_gr 11 38 (encC I A L pr ot (encR J B M rdv ru T)) 45 = some 68 := rfl
theorem rR_39 {I : Nat → Nat → Int32} {A : Nat → Nat → Int32} {L : Nat → Int64} {pr ot : Nat} {J : Nat → Int32} {B : Nat → Nat → Int32} {M : Nat → Int64} {rdv : Value} {ru : Nat} {T : PH} : h_gr 11 39 (encC I A L pr ot (encR J B M rdv ru T)) 45 = some 69 := rfl
theorem rR_40 {I : Nat → Nat → Int32} {A : Nat → Nat → Int32} {L : Nat → Int64} {pr ot : Nat} {J : Nat → Int32} {B : Nat → Nat → Int32} {M : Nat → Int64} {rdv : Value} {ru : Nat} {T : PH} : h_gr 11 40 (encC I A L pr ot (encR J B M rdv ru T)) 45 = some 70 := rfl
theorem rR_41 {I : Nat → Nat → Int32} {A : Nat → Nat → Int32} {L : Nat → Int64} {pr ot : Nat} {J : Nat → Int32} {B : Nat → Nat → Int32} {M : Nat → Int64} {rdv : Value} {ru : Nat} {T : PH} : h_gr 11 41 (encC I A L pr ot (encR J B M rdv ru T)) 45 = some 71 := rfl
theorem rR_42 {I : Nat → Nat → Int32} {A : Nat → Nat → Int32} {L : Nat → Int64} {pr ot : Nat} {J : Nat → Int32} {B : Nat → Nat → Int32} {M : Nat → Int64} {rdv : Value} {ru : Nat} {T : PH} : h_gr 11 42 (encC I A L pr ot (encR J B M rdv ru T)) 45 = some 72 := rfl
theorem rR_43 {I : Nat → Nat → Int32} {A : Nat → Nat → Int32} {L : Nat → Int64} {pr ot : Nat} {J : Nat → Int32} {B : Nat → Nat → Int32} {M : Nat → Int64} {rdv : Value} {ru : Nat} {T : PH} : h_gr 11 43 (encC I A L pr ot (encR J B M rdv ru T)) 45 = some 73 := rfl
theorem rG_44 {I : Nat → Nat → Int32} {A : Nat → Nat → Int32} {L : Nat → Int64} {pr ot : Nat} {J : Nat → Int32} {B : Nat → Nat → Int32} {M : Nat → Int64} {rdv : Value} {ru : Nat} {T : PH} : h_gi 11 44 (encC I A L pr ot (encR J B M rdv ru T)) 45 = some (J 44) := rfl
theorem rW_44 {I : Nat → Nat → Int32} {A : Nat → Nat → Int32} {L : Nat → Int64} {pr ot : Nat} {J : Nat → Int32} {B : Nat → Nat → Int32} {M : Nat → Int64} {rdv : Value} {ru : Nat} {T : PH} {v : Int32} : h_pv 11 44 (encC I A L pr ot (encR J B M rdv ru T)) 45 (.int v) = some (encC I A L pr ot (encR (u1 J 44 v) B M rdv ru T)) := rfl
theorem rR_45 {I : Nat → Nat → Int32} {A : Nat → Nat → Int32} {L : Nat → Int64} {pr ot : Nat} {J : Nat → Int32} {B : Nat → Nat → Int32} {M : Nat → Int64} {rdv : Value} {ru : Nat} {T : PH} : h_gr 11 45 (encC I A L pr ot (encR J B M rdv ru T)) 45 = some 74 := rfl
theorem rG_46 {I : Nat → Nat → Int32} {A : Nat → Nat → Int32} {L : Nat → Int64} {pr ot : Nat} {J : Nat → Int32} {B : Nat → Nat → Int32} {M : Nat → Int64} {rdv : Value} {ru : Nat} {T : PH} : h_gi 11 46 (encC I A L pr ot (encR J B M rdv ru T)) 45 = some (J 46) := rfl
theorem rW_46 {I : Nat → Nat → Int32} {A : Nat → Nat → Int32} {L : Nat → Int64} {pr ot : Nat} {J : Nat → Int32} {B : Nat → Nat → Int32} {M : Nat → Int64} {rdv : Value} {ru : Nat} {T : PH} {v : Int32} : h_pv 11 46 (encC I A L pr ot (encR J B M rdv ru T)) 45 (.int v) = some (encC I A L pr ot (encR (u1 J 46 v) B M rdv ru T)) := rfl
theorem rG_47 {I : Nat → Nat → Int32} {A : Nat → Nat → Int32} {L : Nat → Int64} {pr ot : Nat} {J : Nat → Int32} {B : Nat → Nat → Int32} {M : Nat → Int64} {rdv : Value} {ru : Nat} {T : PH} : h_gi 11 47 (encC I A L pr ot (encR J B M rdv ru T)) 45 = some (J 47) := rfl
theorem rW_47 {I : Nat → Nat → Int32} {A : Nat → Nat → Int32} {L : Nat → Int64} {pr ot : Nat} {J : Nat → Int32} {B : Nat → Nat → Int32} {M : Nat → Int64} {rdv : Value} {ru : Nat} {T : PH} {v : Int32} : h_pv 11 47 (encC I A L pr ot (encR J B M rdv ru T)) 45 (.int v) = some (encC I A L pr ot (encR (u1 J 47 v) B M rdv ru T)) := rfl
theorem rR_48 {I : Nat → Nat → Int32} {A : Nat → Nat → Int32} {L : Nat → Int64} {pr ot : Nat} {J : Nat → Int32} {B : Nat → Nat → Int32} {M : Nat → Int64} {rdv : Value} {ru : Nat} {T : PH} : h_gr 11 48 (encC I A L pr ot (encR J B M rdv ru T)) 45 = some 75 := rfl
theorem rR_49 {I : Nat → Nat → Int32} {A : Nat → Nat → Int32} {L : Nat → Int64} {pr ot : Nat} {J : Nat → Int32} {B : Nat → Nat → Int32} {M : Nat → Int64} {rdv : Value} {ru : Nat} {T : PH} : h_gr 11 49 (encC I A L pr ot (encR J B M rdv ru T)) 45 = some 76 := rfl
theorem rR_50 {I : Nat → Nat → Int32} {A : Nat → Nat → Int32} {L : Nat → Int64} {pr ot : Nat} {J : Nat → Int32} {B : Nat → Nat → Int32} {M : Nat → Int64} {rdv : Value} {ru : Nat} {T : PH} : h_gr 11 50 (encC I A L pr ot (encR J B M rdv ru T)) 45 = some 77 := rfl
theorem rA_0 {I : Nat → Nat → Int32} {A : Nat → Nat → Int32} {L : Nat → Int64} {pr ot : Nat} {J : Nat → Int32} {B : Nat → Nat → Int32} {M : Nat → Int64} {rdv : Value} {ru : Nat} {T : PH} {i : Int32} : h_ald .int (encC I A L pr ot (encR J B M rdv ru T)) 46 i = if ¬ (i < 0 ∨ 88 ≤ i.toNatClampNeg) then some (B 0 i.toNatClampNeg) else none := by
  simp only [h_ald, encC, encR, List.getElem?_cons_succ, List.getElem?_cons_zero, true_and]
theorem rS_0 {I : Nat → Nat → Int32} {A : Nat → Nat → Int32} {L : Nat → Int64} {pr ot : Nat} {J : Nat → Int32} {B : Nat → Nat → Int32} {M : Nat → Int64} {rdv : Value} {ru : Nat} {T : PH} {i v : Int32} : h_ast .int (encC I A L pr ot (encR J B M rdv ru T)) 46 i v = if ¬ (i < 0 ∨ 88 ≤ i.toNatClampNeg) then some (encC I A L pr ot (encR J (u1 B 0 (upd (B 0) i.toNatClampNeg v)) M rdv ru T)) else none := by
  simp only [h_ast, encC, encR, List.getElem?_cons_succ, List.getElem?_cons_zero, true_and]
  rfl
theorem rA_4 {I : Nat → Nat → Int32} {A : Nat → Nat → Int32} {L : Nat → Int64} {pr ot : Nat} {J : Nat → Int32} {B : Nat → Nat → Int32} {M : Nat → Int64} {rdv : Value} {ru : Nat} {T : PH} {i : Int32} : h_ald .int (encC I A L pr ot (encR J B M rdv ru T)) 47 i = if ¬ (i < 0 ∨ 8 ≤ i.toNatClampNeg) then some (B 4 i.toNatClampNeg) else none := by
  simp only [h_ald, encC, encR, List.getElem?_cons_succ, List.getElem?_cons_zero, true_and]
theorem rS_4 {I : Nat → Nat → Int32} {A : Nat → Nat → Int32} {L : Nat → Int64} {pr ot : Nat} {J : Nat → Int32} {B : Nat → Nat → Int32} {M : Nat → Int64} {rdv : Value} {ru : Nat} {T : PH} {i v : Int32} : h_ast .int (encC I A L pr ot (encR J B M rdv ru T)) 47 i v = if ¬ (i < 0 ∨ 8 ≤ i.toNatClampNeg) then some (encC I A L pr ot (encR J (u1 B 4 (upd (B 4) i.toNatClampNeg v)) M rdv ru T)) else none := by
  simp only [h_ast, encC, encR, List.getElem?_cons_succ, List.getElem?_cons_zero, true_and]
  rfl
theorem rA_5 {I : Nat → Nat → Int32} {A : Nat → Nat → Int32} {L : Nat → Int64} {pr ot : Nat} {J : Nat → Int32} {B : Nat → Nat → Int32} {M : Nat → Int64} {rdv : Value} {ru : Nat} {T : PH} {i : Int32} : h_ald .int (encC I A L pr ot (encR J B M rdv ru T)) 48 i = if ¬ (i < 0 ∨ 32 ≤ i.toNatClampNeg) then some (B 5 i.toNatClampNeg) else none := by
  simp only [h_ald, encC, encR, List.getElem?_cons_succ, List.getElem?_cons_zero, true_and]
theorem rS_5 {I : Nat → Nat → Int32} {A : Nat → Nat → Int32} {L : Nat → Int64} {pr ot : Nat} {J : Nat → Int32} {B : Nat → Nat → Int32} {M : Nat → Int64} {rdv : Value} {ru : Nat} {T : PH} {i v : Int32} : h_ast .int (encC I A L pr ot (encR J B M rdv ru T)) 48 i v = if ¬ (i < 0 ∨ 32 ≤ i.toNatClampNeg) then some (encC I A L pr ot (encR J (u1 B 5 (upd (B 5) i.toNatClampNeg v)) M rdv ru T)) else none := by
  simp only [h_ast, encC, encR, List.getElem?_cons_succ, List.getElem?_cons_zero, true_and]
  rfl
theorem rA_6 {I : Nat → Nat → Int32} {A : Nat → Nat → Int32} {L : Nat → Int64} {pr ot : Nat} {J : Nat → Int32} {B : Nat → Nat → Int32} {M : Nat → Int64} {rdv : Value} {ru : Nat} {T : PH} {i : Int32} : h_ald .int (encC I A L pr ot (encR J B M rdv ru T)) 49 i = if ¬ (i < 0 ∨ 6 ≤ i.toNatClampNeg) then some (B 6 i.toNatClampNeg) else none := by
  simp only [h_ald, encC, encR, List.getElem?_cons_succ, List.getElem?_cons_zero, true_and]
theorem rS_6 {I : Nat → Nat → Int32} {A : Nat → Nat → Int32} {L : Nat → Int64} {pr ot : Nat} {J : Nat → Int32} {B : Nat → Nat → Int32} {M : Nat → Int64} {rdv : Value} {ru : Nat} {T : PH} {i v : Int32} : h_ast .int (encC I A L pr ot (encR J B M rdv ru T)) 49 i v = if ¬ (i < 0 ∨ 6 ≤ i.toNatClampNeg) then some (encC I A L pr ot (encR J (u1 B 6 (upd (B 6) i.toNatClampNeg v)) M rdv ru T)) else none := by
  simp only [h_ast, encC, encR, List.getElem?_cons_succ, List.getElem?_cons_zero, true_and]
  rfl
theorem rA_7 {I : Nat → Nat → Int32} {A : Nat → Nat → Int32} {L : Nat → Int64} {pr ot : Nat} {J : Nat → Int32} {B : Nat → Nat → Int32} {M : Nat → Int64} {rdv : Value} {ru : Nat} {T : PH} {i : Int32} : h_ald .int (encC I A L pr ot (encR J B M rdv ru T)) 50 i = if ¬ (i < 0 ∨ 6 ≤ i.toNatClampNeg) then some (B 7 i.toNatClampNeg) else none := by
  simp only [h_ald, encC, encR, List.getElem?_cons_succ, List.getElem?_cons_zero, true_and]
theorem rS_7 {I : Nat → Nat → Int32} {A : Nat → Nat → Int32} {L : Nat → Int64} {pr ot : Nat} {J : Nat → Int32} {B : Nat → Nat → Int32} {M : Nat → Int64} {rdv : Value} {ru : Nat} {T : PH} {i v : Int32} : h_ast .int (encC I A L pr ot (encR J B M rdv ru T)) 50 i v = if ¬ (i < 0 ∨ 6 ≤ i.toNatClampNeg) then some (encC I A L pr ot (encR J (u1 B 7 (upd (B 7) i.toNatClampNeg v)) M rdv ru T)) else none := by
  simp only [h_ast, encC, encR, List.getElem?_cons_succ, List.getElem?_cons_zero, true_and]
  rfl
theorem rA_8 {I : Nat → Nat → Int32} {A : Nat → Nat → Int32} {L : Nat → Int64} {pr ot : Nat} {J : Nat → Int32} {B : Nat → Nat → Int32} {M : Nat → Int64} {rdv : Value} {ru : Nat} {T : PH} {i : Int32} : h_ald .int (encC I A L pr ot (encR J B M rdv ru T)) 51 i = if ¬ (i < 0 ∨ 54 ≤ i.toNatClampNeg) then some (B 8 i.toNatClampNeg) else none := by
  simp only [h_ald, encC, encR, List.getElem?_cons_succ, List.getElem?_cons_zero, true_and]
theorem rS_8 {I : Nat → Nat → Int32} {A : Nat → Nat → Int32} {L : Nat → Int64} {pr ot : Nat} {J : Nat → Int32} {B : Nat → Nat → Int32} {M : Nat → Int64} {rdv : Value} {ru : Nat} {T : PH} {i v : Int32} : h_ast .int (encC I A L pr ot (encR J B M rdv ru T)) 51 i v = if ¬ (i < 0 ∨ 54 ≤ i.toNatClampNeg) then some (encC I A L pr ot (encR J (u1 B 8 (upd (B 8) i.toNatClampNeg v)) M rdv ru T)) else none := by
  simp only [h_ast, encC, encR, List.getElem?_cons_succ, List.getElem?_cons_zero, true_and]
  rfl
theorem rA_9 {I : Nat → Nat → Int32} {A : Nat → Nat → Int32} {L : Nat → Int64} {pr ot : Nat} {J : Nat → Int32} {B : Nat → Nat → Int32} {M : Nat → Int64} {rdv : Value} {ru : Nat} {T : PH} {i : Int32} : h_ald .byte (encC I A L pr ot (encR J B M rdv ru T)) 52 i = if ¬ (i < 0 ∨ 80 ≤ i.toNatClampNeg) then some (B 9 i.toNatClampNeg) else none := by
  simp only [h_ald, encC, encR, List.getElem?_cons_succ, List.getElem?_cons_zero, true_and]
theorem rS_9 {I : Nat → Nat → Int32} {A : Nat → Nat → Int32} {L : Nat → Int64} {pr ot : Nat} {J : Nat → Int32} {B : Nat → Nat → Int32} {M : Nat → Int64} {rdv : Value} {ru : Nat} {T : PH} {i v : Int32} : h_ast .byte (encC I A L pr ot (encR J B M rdv ru T)) 52 i v = if ¬ (i < 0 ∨ 80 ≤ i.toNatClampNeg) then some (encC I A L pr ot (encR J (u1 B 9 (upd (B 9) i.toNatClampNeg v)) M rdv ru T)) else none := by
  simp only [h_ast, encC, encR, List.getElem?_cons_succ, List.getElem?_cons_zero, true_and]
  rfl
theorem rA_11 {I : Nat → Nat → Int32} {A : Nat → Nat → Int32} {L : Nat → Int64} {pr ot : Nat} {J : Nat → Int32} {B : Nat → Nat → Int32} {M : Nat → Int64} {rdv : Value} {ru : Nat} {T : PH} {i : Int32} : h_lld (encC I A L pr ot (encR J B M rdv ru T)) 53 i = if ¬ (i < 0 ∨ 16 ≤ i.toNatClampNeg) then some (M i.toNatClampNeg) else none := by
  simp only [h_lld, encC, encR, List.getElem?_cons_succ, List.getElem?_cons_zero, true_and]
theorem rS_11 {I : Nat → Nat → Int32} {A : Nat → Nat → Int32} {L : Nat → Int64} {pr ot : Nat} {J : Nat → Int32} {B : Nat → Nat → Int32} {M : Nat → Int64} {rdv : Value} {ru : Nat} {T : PH} {i : Int32} {v : Int64} : h_lst (encC I A L pr ot (encR J B M rdv ru T)) 53 i v = if ¬ (i < 0 ∨ 16 ≤ i.toNatClampNeg) then some (encC I A L pr ot (encR J B (vp_updL M i.toNatClampNeg v) rdv ru T)) else none := by
  simp only [h_lst, encC, encR, List.getElem?_cons_succ, List.getElem?_cons_zero, true_and]
  rfl
theorem rA_19 {I : Nat → Nat → Int32} {A : Nat → Nat → Int32} {L : Nat → Int64} {pr ot : Nat} {J : Nat → Int32} {B : Nat → Nat → Int32} {M : Nat → Int64} {rdv : Value} {ru : Nat} {T : PH} {i : Int32} : h_ald .int (encC I A L pr ot (encR J B M rdv ru T)) 54 i = if ¬ (i < 0 ∨ 64 ≤ i.toNatClampNeg) then some (B 19 i.toNatClampNeg) else none := by
  simp only [h_ald, encC, encR, List.getElem?_cons_succ, List.getElem?_cons_zero, true_and]
theorem rS_19 {I : Nat → Nat → Int32} {A : Nat → Nat → Int32} {L : Nat → Int64} {pr ot : Nat} {J : Nat → Int32} {B : Nat → Nat → Int32} {M : Nat → Int64} {rdv : Value} {ru : Nat} {T : PH} {i v : Int32} : h_ast .int (encC I A L pr ot (encR J B M rdv ru T)) 54 i v = if ¬ (i < 0 ∨ 64 ≤ i.toNatClampNeg) then some (encC I A L pr ot (encR J (u1 B 19 (upd (B 19) i.toNatClampNeg v)) M rdv ru T)) else none := by
  simp only [h_ast, encC, encR, List.getElem?_cons_succ, List.getElem?_cons_zero, true_and]
  rfl
theorem rA_20 {I : Nat → Nat → Int32} {A : Nat → Nat → Int32} {L : Nat → Int64} {pr ot : Nat} {J : Nat → Int32} {B : Nat → Nat → Int32} {M : Nat → Int64} {rdv : Value} {ru : Nat} {T : PH} {i : Int32} : h_ald .int (encC I A L pr ot (encR J B M rdv ru T)) 55 i = if ¬ (i < 0 ∨ 6 ≤ i.toNatClampNeg) then some (B 20 i.toNatClampNeg) else none := by
  simp only [h_ald, encC, encR, List.getElem?_cons_succ, List.getElem?_cons_zero, true_and]
theorem rS_20 {I : Nat → Nat → Int32} {A : Nat → Nat → Int32} {L : Nat → Int64} {pr ot : Nat} {J : Nat → Int32} {B : Nat → Nat → Int32} {M : Nat → Int64} {rdv : Value} {ru : Nat} {T : PH} {i v : Int32} : h_ast .int (encC I A L pr ot (encR J B M rdv ru T)) 55 i v = if ¬ (i < 0 ∨ 6 ≤ i.toNatClampNeg) then some (encC I A L pr ot (encR J (u1 B 20 (upd (B 20) i.toNatClampNeg v)) M rdv ru T)) else none := by
  simp only [h_ast, encC, encR, List.getElem?_cons_succ, List.getElem?_cons_zero, true_and]
  rfl
theorem rA_21 {I : Nat → Nat → Int32} {A : Nat → Nat → Int32} {L : Nat → Int64} {pr ot : Nat} {J : Nat → Int32} {B : Nat → Nat → Int32} {M : Nat → Int64} {rdv : Value} {ru : Nat} {T : PH} {i : Int32} : h_ald .byte (encC I A L pr ot (encR J B M rdv ru T)) 56 i = if ¬ (i < 0 ∨ 40 ≤ i.toNatClampNeg) then some (B 21 i.toNatClampNeg) else none := by
  simp only [h_ald, encC, encR, List.getElem?_cons_succ, List.getElem?_cons_zero, true_and]
theorem rS_21 {I : Nat → Nat → Int32} {A : Nat → Nat → Int32} {L : Nat → Int64} {pr ot : Nat} {J : Nat → Int32} {B : Nat → Nat → Int32} {M : Nat → Int64} {rdv : Value} {ru : Nat} {T : PH} {i v : Int32} : h_ast .byte (encC I A L pr ot (encR J B M rdv ru T)) 56 i v = if ¬ (i < 0 ∨ 40 ≤ i.toNatClampNeg) then some (encC I A L pr ot (encR J (u1 B 21 (upd (B 21) i.toNatClampNeg v)) M rdv ru T)) else none := by
  simp only [h_ast, encC, encR, List.getElem?_cons_succ, List.getElem?_cons_zero, true_and]
  rfl
theorem rA_22 {I : Nat → Nat → Int32} {A : Nat → Nat → Int32} {L : Nat → Int64} {pr ot : Nat} {J : Nat → Int32} {B : Nat → Nat → Int32} {M : Nat → Int64} {rdv : Value} {ru : Nat} {T : PH} {i : Int32} : h_ald .byte (encC I A L pr ot (encR J B M rdv ru T)) 57 i = if ¬ (i < 0 ∨ 40 ≤ i.toNatClampNeg) then some (B 22 i.toNatClampNeg) else none := by
  simp only [h_ald, encC, encR, List.getElem?_cons_succ, List.getElem?_cons_zero, true_and]
theorem rS_22 {I : Nat → Nat → Int32} {A : Nat → Nat → Int32} {L : Nat → Int64} {pr ot : Nat} {J : Nat → Int32} {B : Nat → Nat → Int32} {M : Nat → Int64} {rdv : Value} {ru : Nat} {T : PH} {i v : Int32} : h_ast .byte (encC I A L pr ot (encR J B M rdv ru T)) 57 i v = if ¬ (i < 0 ∨ 40 ≤ i.toNatClampNeg) then some (encC I A L pr ot (encR J (u1 B 22 (upd (B 22) i.toNatClampNeg v)) M rdv ru T)) else none := by
  simp only [h_ast, encC, encR, List.getElem?_cons_succ, List.getElem?_cons_zero, true_and]
  rfl
theorem rA_25 {I : Nat → Nat → Int32} {A : Nat → Nat → Int32} {L : Nat → Int64} {pr ot : Nat} {J : Nat → Int32} {B : Nat → Nat → Int32} {M : Nat → Int64} {rdv : Value} {ru : Nat} {T : PH} {i : Int32} : h_ald .int (encC I A L pr ot (encR J B M rdv ru T)) 58 i = if ¬ (i < 0 ∨ 7 ≤ i.toNatClampNeg) then some (B 25 i.toNatClampNeg) else none := by
  simp only [h_ald, encC, encR, List.getElem?_cons_succ, List.getElem?_cons_zero, true_and]
theorem rS_25 {I : Nat → Nat → Int32} {A : Nat → Nat → Int32} {L : Nat → Int64} {pr ot : Nat} {J : Nat → Int32} {B : Nat → Nat → Int32} {M : Nat → Int64} {rdv : Value} {ru : Nat} {T : PH} {i v : Int32} : h_ast .int (encC I A L pr ot (encR J B M rdv ru T)) 58 i v = if ¬ (i < 0 ∨ 7 ≤ i.toNatClampNeg) then some (encC I A L pr ot (encR J (u1 B 25 (upd (B 25) i.toNatClampNeg v)) M rdv ru T)) else none := by
  simp only [h_ast, encC, encR, List.getElem?_cons_succ, List.getElem?_cons_zero, true_and]
  rfl
theorem rA_26 {I : Nat → Nat → Int32} {A : Nat → Nat → Int32} {L : Nat → Int64} {pr ot : Nat} {J : Nat → Int32} {B : Nat → Nat → Int32} {M : Nat → Int64} {rdv : Value} {ru : Nat} {T : PH} {i : Int32} : h_ald .int (encC I A L pr ot (encR J B M rdv ru T)) 59 i = if ¬ (i < 0 ∨ 1056 ≤ i.toNatClampNeg) then some (B 26 i.toNatClampNeg) else none := by
  simp only [h_ald, encC, encR, List.getElem?_cons_succ, List.getElem?_cons_zero, true_and]
theorem rS_26 {I : Nat → Nat → Int32} {A : Nat → Nat → Int32} {L : Nat → Int64} {pr ot : Nat} {J : Nat → Int32} {B : Nat → Nat → Int32} {M : Nat → Int64} {rdv : Value} {ru : Nat} {T : PH} {i v : Int32} : h_ast .int (encC I A L pr ot (encR J B M rdv ru T)) 59 i v = if ¬ (i < 0 ∨ 1056 ≤ i.toNatClampNeg) then some (encC I A L pr ot (encR J (u1 B 26 (upd (B 26) i.toNatClampNeg v)) M rdv ru T)) else none := by
  simp only [h_ast, encC, encR, List.getElem?_cons_succ, List.getElem?_cons_zero, true_and]
  rfl
theorem rA_28 {I : Nat → Nat → Int32} {A : Nat → Nat → Int32} {L : Nat → Int64} {pr ot : Nat} {J : Nat → Int32} {B : Nat → Nat → Int32} {M : Nat → Int64} {rdv : Value} {ru : Nat} {T : PH} {i : Int32} : h_ald .int (encC I A L pr ot (encR J B M rdv ru T)) 60 i = if ¬ (i < 0 ∨ 88 ≤ i.toNatClampNeg) then some (B 28 i.toNatClampNeg) else none := by
  simp only [h_ald, encC, encR, List.getElem?_cons_succ, List.getElem?_cons_zero, true_and]
theorem rS_28 {I : Nat → Nat → Int32} {A : Nat → Nat → Int32} {L : Nat → Int64} {pr ot : Nat} {J : Nat → Int32} {B : Nat → Nat → Int32} {M : Nat → Int64} {rdv : Value} {ru : Nat} {T : PH} {i v : Int32} : h_ast .int (encC I A L pr ot (encR J B M rdv ru T)) 60 i v = if ¬ (i < 0 ∨ 88 ≤ i.toNatClampNeg) then some (encC I A L pr ot (encR J (u1 B 28 (upd (B 28) i.toNatClampNeg v)) M rdv ru T)) else none := by
  simp only [h_ast, encC, encR, List.getElem?_cons_succ, List.getElem?_cons_zero, true_and]
  rfl
theorem rA_29 {I : Nat → Nat → Int32} {A : Nat → Nat → Int32} {L : Nat → Int64} {pr ot : Nat} {J : Nat → Int32} {B : Nat → Nat → Int32} {M : Nat → Int64} {rdv : Value} {ru : Nat} {T : PH} {i : Int32} : h_ald .int (encC I A L pr ot (encR J B M rdv ru T)) 61 i = if ¬ (i < 0 ∨ 88 ≤ i.toNatClampNeg) then some (B 29 i.toNatClampNeg) else none := by
  simp only [h_ald, encC, encR, List.getElem?_cons_succ, List.getElem?_cons_zero, true_and]
theorem rS_29 {I : Nat → Nat → Int32} {A : Nat → Nat → Int32} {L : Nat → Int64} {pr ot : Nat} {J : Nat → Int32} {B : Nat → Nat → Int32} {M : Nat → Int64} {rdv : Value} {ru : Nat} {T : PH} {i v : Int32} : h_ast .int (encC I A L pr ot (encR J B M rdv ru T)) 61 i v = if ¬ (i < 0 ∨ 88 ≤ i.toNatClampNeg) then some (encC I A L pr ot (encR J (u1 B 29 (upd (B 29) i.toNatClampNeg v)) M rdv ru T)) else none := by
  simp only [h_ast, encC, encR, List.getElem?_cons_succ, List.getElem?_cons_zero, true_and]
  rfl
theorem rA_30 {I : Nat → Nat → Int32} {A : Nat → Nat → Int32} {L : Nat → Int64} {pr ot : Nat} {J : Nat → Int32} {B : Nat → Nat → Int32} {M : Nat → Int64} {rdv : Value} {ru : Nat} {T : PH} {i : Int32} : h_ald .int (encC I A L pr ot (encR J B M rdv ru T)) 62 i = if ¬ (i < 0 ∨ 4 ≤ i.toNatClampNeg) then some (B 30 i.toNatClampNeg) else none := by
  simp only [h_ald, encC, encR, List.getElem?_cons_succ, List.getElem?_cons_zero, true_and]
theorem rS_30 {I : Nat → Nat → Int32} {A : Nat → Nat → Int32} {L : Nat → Int64} {pr ot : Nat} {J : Nat → Int32} {B : Nat → Nat → Int32} {M : Nat → Int64} {rdv : Value} {ru : Nat} {T : PH} {i v : Int32} : h_ast .int (encC I A L pr ot (encR J B M rdv ru T)) 62 i v = if ¬ (i < 0 ∨ 4 ≤ i.toNatClampNeg) then some (encC I A L pr ot (encR J (u1 B 30 (upd (B 30) i.toNatClampNeg v)) M rdv ru T)) else none := by
  simp only [h_ast, encC, encR, List.getElem?_cons_succ, List.getElem?_cons_zero, true_and]
  rfl
theorem rA_32 {I : Nat → Nat → Int32} {A : Nat → Nat → Int32} {L : Nat → Int64} {pr ot : Nat} {J : Nat → Int32} {B : Nat → Nat → Int32} {M : Nat → Int64} {rdv : Value} {ru : Nat} {T : PH} {i : Int32} : h_ald .int (encC I A L pr ot (encR J B M rdv ru T)) 63 i = if ¬ (i < 0 ∨ 240 ≤ i.toNatClampNeg) then some (B 32 i.toNatClampNeg) else none := by
  simp only [h_ald, encC, encR, List.getElem?_cons_succ, List.getElem?_cons_zero, true_and]
theorem rS_32 {I : Nat → Nat → Int32} {A : Nat → Nat → Int32} {L : Nat → Int64} {pr ot : Nat} {J : Nat → Int32} {B : Nat → Nat → Int32} {M : Nat → Int64} {rdv : Value} {ru : Nat} {T : PH} {i v : Int32} : h_ast .int (encC I A L pr ot (encR J B M rdv ru T)) 63 i v = if ¬ (i < 0 ∨ 240 ≤ i.toNatClampNeg) then some (encC I A L pr ot (encR J (u1 B 32 (upd (B 32) i.toNatClampNeg v)) M rdv ru T)) else none := by
  simp only [h_ast, encC, encR, List.getElem?_cons_succ, List.getElem?_cons_zero, true_and]
  rfl
theorem rA_33 {I : Nat → Nat → Int32} {A : Nat → Nat → Int32} {L : Nat → Int64} {pr ot : Nat} {J : Nat → Int32} {B : Nat → Nat → Int32} {M : Nat → Int64} {rdv : Value} {ru : Nat} {T : PH} {i : Int32} : h_ald .int (encC I A L pr ot (encR J B M rdv ru T)) 64 i = if ¬ (i < 0 ∨ 4 ≤ i.toNatClampNeg) then some (B 33 i.toNatClampNeg) else none := by
  simp only [h_ald, encC, encR, List.getElem?_cons_succ, List.getElem?_cons_zero, true_and]
theorem rS_33 {I : Nat → Nat → Int32} {A : Nat → Nat → Int32} {L : Nat → Int64} {pr ot : Nat} {J : Nat → Int32} {B : Nat → Nat → Int32} {M : Nat → Int64} {rdv : Value} {ru : Nat} {T : PH} {i v : Int32} : h_ast .int (encC I A L pr ot (encR J B M rdv ru T)) 64 i v = if ¬ (i < 0 ∨ 4 ≤ i.toNatClampNeg) then some (encC I A L pr ot (encR J (u1 B 33 (upd (B 33) i.toNatClampNeg v)) M rdv ru T)) else none := by
  simp only [h_ast, encC, encR, List.getElem?_cons_succ, List.getElem?_cons_zero, true_and]
  rfl
theorem rA_34 {I : Nat → Nat → Int32} {A : Nat → Nat → Int32} {L : Nat → Int64} {pr ot : Nat} {J : Nat → Int32} {B : Nat → Nat → Int32} {M : Nat → Int64} {rdv : Value} {ru : Nat} {T : PH} {i : Int32} : h_ald .int (encC I A L pr ot (encR J B M rdv ru T)) 65 i = if ¬ (i < 0 ∨ 12 ≤ i.toNatClampNeg) then some (B 34 i.toNatClampNeg) else none := by
  simp only [h_ald, encC, encR, List.getElem?_cons_succ, List.getElem?_cons_zero, true_and]
theorem rS_34 {I : Nat → Nat → Int32} {A : Nat → Nat → Int32} {L : Nat → Int64} {pr ot : Nat} {J : Nat → Int32} {B : Nat → Nat → Int32} {M : Nat → Int64} {rdv : Value} {ru : Nat} {T : PH} {i v : Int32} : h_ast .int (encC I A L pr ot (encR J B M rdv ru T)) 65 i v = if ¬ (i < 0 ∨ 12 ≤ i.toNatClampNeg) then some (encC I A L pr ot (encR J (u1 B 34 (upd (B 34) i.toNatClampNeg v)) M rdv ru T)) else none := by
  simp only [h_ast, encC, encR, List.getElem?_cons_succ, List.getElem?_cons_zero, true_and]
  rfl
theorem rA_35 {I : Nat → Nat → Int32} {A : Nat → Nat → Int32} {L : Nat → Int64} {pr ot : Nat} {J : Nat → Int32} {B : Nat → Nat → Int32} {M : Nat → Int64} {rdv : Value} {ru : Nat} {T : PH} {i : Int32} : h_ald .int (encC I A L pr ot (encR J B M rdv ru T)) 66 i = if ¬ (i < 0 ∨ 12 ≤ i.toNatClampNeg) then some (B 35 i.toNatClampNeg) else none := by
  simp only [h_ald, encC, encR, List.getElem?_cons_succ, List.getElem?_cons_zero, true_and]
theorem rS_35 {I : Nat → Nat → Int32} {A : Nat → Nat → Int32} {L : Nat → Int64} {pr ot : Nat} {J : Nat → Int32} {B : Nat → Nat → Int32} {M : Nat → Int64} {rdv : Value} {ru : Nat} {T : PH} {i v : Int32} : h_ast .int (encC I A L pr ot (encR J B M rdv ru T)) 66 i v = if ¬ (i < 0 ∨ 12 ≤ i.toNatClampNeg) then some (encC I A L pr ot (encR J (u1 B 35 (upd (B 35) i.toNatClampNeg v)) M rdv ru T)) else none := by
  simp only [h_ast, encC, encR, List.getElem?_cons_succ, List.getElem?_cons_zero, true_and]
  rfl
theorem rA_36 {I : Nat → Nat → Int32} {A : Nat → Nat → Int32} {L : Nat → Int64} {pr ot : Nat} {J : Nat → Int32} {B : Nat → Nat → Int32} {M : Nat → Int64} {rdv : Value} {ru : Nat} {T : PH} {i : Int32} : h_ald .int (encC I A L pr ot (encR J B M rdv ru T)) 67 i = if ¬ (i < 0 ∨ 12 ≤ i.toNatClampNeg) then some (B 36 i.toNatClampNeg) else none := by
  simp only [h_ald, encC, encR, List.getElem?_cons_succ, List.getElem?_cons_zero, true_and]
theorem rS_36 {I : Nat → Nat → Int32} {A : Nat → Nat → Int32} {L : Nat → Int64} {pr ot : Nat} {J : Nat → Int32} {B : Nat → Nat → Int32} {M : Nat → Int64} {rdv : Value} {ru : Nat} {T : PH} {i v : Int32} : h_ast .int (encC I A L pr ot (encR J B M rdv ru T)) 67 i v = if ¬ (i < 0 ∨ 12 ≤ i.toNatClampNeg) then some (encC I A L pr ot (encR J (u1 B 36 (upd (B 36) i.toNatClampNeg v)) M rdv ru T)) else none := by
  simp only [h_ast, encC, encR, List.getElem?_cons_succ, List.getElem?_cons_zero, true_and]
  rfl
theorem rA_38 {I : Nat → Nat → Int32} {A : Nat → Nat → Int32} {L : Nat → Int64} {pr ot : Nat} {J : Nat → Int32} {B : Nat → Nat → Int32} {M : Nat → Int64} {rdv : Value} {ru : Nat} {T : PH} {i : Int32} : h_ald .int (encC I A L pr ot (encR J B M rdv ru T)) 68 i = if ¬ (i < 0 ∨ 32 ≤ i.toNatClampNeg) then some (B 38 i.toNatClampNeg) else none := by
  simp only [h_ald, encC, encR, List.getElem?_cons_succ, List.getElem?_cons_zero, true_and]
theorem rS_38 {I : Nat → Nat → Int32} {A : Nat → Nat → Int32} {L : Nat → Int64} {pr ot : Nat} {J : Nat → Int32} {B : Nat → Nat → Int32} {M : Nat → Int64} {rdv : Value} {ru : Nat} {T : PH} {i v : Int32} : h_ast .int (encC I A L pr ot (encR J B M rdv ru T)) 68 i v = if ¬ (i < 0 ∨ 32 ≤ i.toNatClampNeg) then some (encC I A L pr ot (encR J (u1 B 38 (upd (B 38) i.toNatClampNeg v)) M rdv ru T)) else none := by
  simp only [h_ast, encC, encR, List.getElem?_cons_succ, List.getElem?_cons_zero, true_and]
  rfl
theorem rA_39 {I : Nat → Nat → Int32} {A : Nat → Nat → Int32} {L : Nat → Int64} {pr ot : Nat} {J : Nat → Int32} {B : Nat → Nat → Int32} {M : Nat → Int64} {rdv : Value} {ru : Nat} {T : PH} {i : Int32} : h_ald .int (encC I A L pr ot (encR J B M rdv ru T)) 69 i = if ¬ (i < 0 ∨ 10 ≤ i.toNatClampNeg) then some (B 39 i.toNatClampNeg) else none := by
  simp only [h_ald, encC, encR, List.getElem?_cons_succ, List.getElem?_cons_zero, true_and]
theorem rS_39 {I : Nat → Nat → Int32} {A : Nat → Nat → Int32} {L : Nat → Int64} {pr ot : Nat} {J : Nat → Int32} {B : Nat → Nat → Int32} {M : Nat → Int64} {rdv : Value} {ru : Nat} {T : PH} {i v : Int32} : h_ast .int (encC I A L pr ot (encR J B M rdv ru T)) 69 i v = if ¬ (i < 0 ∨ 10 ≤ i.toNatClampNeg) then some (encC I A L pr ot (encR J (u1 B 39 (upd (B 39) i.toNatClampNeg v)) M rdv ru T)) else none := by
  simp only [h_ast, encC, encR, List.getElem?_cons_succ, List.getElem?_cons_zero, true_and]
  rfl
theorem rA_40 {I : Nat → Nat → Int32} {A : Nat → Nat → Int32} {L : Nat → Int64} {pr ot : Nat} {J : Nat → Int32} {B : Nat → Nat → Int32} {M : Nat → Int64} {rdv : Value} {ru : Nat} {T : PH} {i : Int32} : h_ald .int (encC I A L pr ot (encR J B M rdv ru T)) 70 i = if ¬ (i < 0 ∨ 54 ≤ i.toNatClampNeg) then some (B 40 i.toNatClampNeg) else none := by
  simp only [h_ald, encC, encR, List.getElem?_cons_succ, List.getElem?_cons_zero, true_and]
theorem rS_40 {I : Nat → Nat → Int32} {A : Nat → Nat → Int32} {L : Nat → Int64} {pr ot : Nat} {J : Nat → Int32} {B : Nat → Nat → Int32} {M : Nat → Int64} {rdv : Value} {ru : Nat} {T : PH} {i v : Int32} : h_ast .int (encC I A L pr ot (encR J B M rdv ru T)) 70 i v = if ¬ (i < 0 ∨ 54 ≤ i.toNatClampNeg) then some (encC I A L pr ot (encR J (u1 B 40 (upd (B 40) i.toNatClampNeg v)) M rdv ru T)) else none := by
  simp only [h_ast, encC, encR, List.getElem?_cons_succ, List.getElem?_cons_zero, true_and]
  rfl
theorem rA_41 {I : Nat → Nat → Int32} {A : Nat → Nat → Int32} {L : Nat → Int64} {pr ot : Nat} {J : Nat → Int32} {B : Nat → Nat → Int32} {M : Nat → Int64} {rdv : Value} {ru : Nat} {T : PH} {i : Int32} : h_ald .int (encC I A L pr ot (encR J B M rdv ru T)) 71 i = if ¬ (i < 0 ∨ 6 ≤ i.toNatClampNeg) then some (B 41 i.toNatClampNeg) else none := by
  simp only [h_ald, encC, encR, List.getElem?_cons_succ, List.getElem?_cons_zero, true_and]
theorem rS_41 {I : Nat → Nat → Int32} {A : Nat → Nat → Int32} {L : Nat → Int64} {pr ot : Nat} {J : Nat → Int32} {B : Nat → Nat → Int32} {M : Nat → Int64} {rdv : Value} {ru : Nat} {T : PH} {i v : Int32} : h_ast .int (encC I A L pr ot (encR J B M rdv ru T)) 71 i v = if ¬ (i < 0 ∨ 6 ≤ i.toNatClampNeg) then some (encC I A L pr ot (encR J (u1 B 41 (upd (B 41) i.toNatClampNeg v)) M rdv ru T)) else none := by
  simp only [h_ast, encC, encR, List.getElem?_cons_succ, List.getElem?_cons_zero, true_and]
  rfl
theorem rA_42 {I : Nat → Nat → Int32} {A : Nat → Nat → Int32} {L : Nat → Int64} {pr ot : Nat} {J : Nat → Int32} {B : Nat → Nat → Int32} {M : Nat → Int64} {rdv : Value} {ru : Nat} {T : PH} {i : Int32} : h_ald .int (encC I A L pr ot (encR J B M rdv ru T)) 72 i = if ¬ (i < 0 ∨ 6 ≤ i.toNatClampNeg) then some (B 42 i.toNatClampNeg) else none := by
  simp only [h_ald, encC, encR, List.getElem?_cons_succ, List.getElem?_cons_zero, true_and]
theorem rS_42 {I : Nat → Nat → Int32} {A : Nat → Nat → Int32} {L : Nat → Int64} {pr ot : Nat} {J : Nat → Int32} {B : Nat → Nat → Int32} {M : Nat → Int64} {rdv : Value} {ru : Nat} {T : PH} {i v : Int32} : h_ast .int (encC I A L pr ot (encR J B M rdv ru T)) 72 i v = if ¬ (i < 0 ∨ 6 ≤ i.toNatClampNeg) then some (encC I A L pr ot (encR J (u1 B 42 (upd (B 42) i.toNatClampNeg v)) M rdv ru T)) else none := by
  simp only [h_ast, encC, encR, List.getElem?_cons_succ, List.getElem?_cons_zero, true_and]
  rfl
theorem rA_43 {I : Nat → Nat → Int32} {A : Nat → Nat → Int32} {L : Nat → Int64} {pr ot : Nat} {J : Nat → Int32} {B : Nat → Nat → Int32} {M : Nat → Int64} {rdv : Value} {ru : Nat} {T : PH} {i : Int32} : h_ald .int (encC I A L pr ot (encR J B M rdv ru T)) 73 i = if ¬ (i < 0 ∨ 8 ≤ i.toNatClampNeg) then some (B 43 i.toNatClampNeg) else none := by
  simp only [h_ald, encC, encR, List.getElem?_cons_succ, List.getElem?_cons_zero, true_and]
theorem rS_43 {I : Nat → Nat → Int32} {A : Nat → Nat → Int32} {L : Nat → Int64} {pr ot : Nat} {J : Nat → Int32} {B : Nat → Nat → Int32} {M : Nat → Int64} {rdv : Value} {ru : Nat} {T : PH} {i v : Int32} : h_ast .int (encC I A L pr ot (encR J B M rdv ru T)) 73 i v = if ¬ (i < 0 ∨ 8 ≤ i.toNatClampNeg) then some (encC I A L pr ot (encR J (u1 B 43 (upd (B 43) i.toNatClampNeg v)) M rdv ru T)) else none := by
  simp only [h_ast, encC, encR, List.getElem?_cons_succ, List.getElem?_cons_zero, true_and]
  rfl
theorem rA_45 {I : Nat → Nat → Int32} {A : Nat → Nat → Int32} {L : Nat → Int64} {pr ot : Nat} {J : Nat → Int32} {B : Nat → Nat → Int32} {M : Nat → Int64} {rdv : Value} {ru : Nat} {T : PH} {i : Int32} : h_ald .int (encC I A L pr ot (encR J B M rdv ru T)) 74 i = if ¬ (i < 0 ∨ 10000 ≤ i.toNatClampNeg) then some (B 45 i.toNatClampNeg) else none := by
  simp only [h_ald, encC, encR, List.getElem?_cons_succ, List.getElem?_cons_zero, true_and]
theorem rS_45 {I : Nat → Nat → Int32} {A : Nat → Nat → Int32} {L : Nat → Int64} {pr ot : Nat} {J : Nat → Int32} {B : Nat → Nat → Int32} {M : Nat → Int64} {rdv : Value} {ru : Nat} {T : PH} {i v : Int32} : h_ast .int (encC I A L pr ot (encR J B M rdv ru T)) 74 i v = if ¬ (i < 0 ∨ 10000 ≤ i.toNatClampNeg) then some (encC I A L pr ot (encR J (u1 B 45 (upd (B 45) i.toNatClampNeg v)) M rdv ru T)) else none := by
  simp only [h_ast, encC, encR, List.getElem?_cons_succ, List.getElem?_cons_zero, true_and]
  rfl
theorem rA_48 {I : Nat → Nat → Int32} {A : Nat → Nat → Int32} {L : Nat → Int64} {pr ot : Nat} {J : Nat → Int32} {B : Nat → Nat → Int32} {M : Nat → Int64} {rdv : Value} {ru : Nat} {T : PH} {i : Int32} : h_ald .int (encC I A L pr ot (encR J B M rdv ru T)) 75 i = if ¬ (i < 0 ∨ 176 ≤ i.toNatClampNeg) then some (B 48 i.toNatClampNeg) else none := by
  simp only [h_ald, encC, encR, List.getElem?_cons_succ, List.getElem?_cons_zero, true_and]
theorem rS_48 {I : Nat → Nat → Int32} {A : Nat → Nat → Int32} {L : Nat → Int64} {pr ot : Nat} {J : Nat → Int32} {B : Nat → Nat → Int32} {M : Nat → Int64} {rdv : Value} {ru : Nat} {T : PH} {i v : Int32} : h_ast .int (encC I A L pr ot (encR J B M rdv ru T)) 75 i v = if ¬ (i < 0 ∨ 176 ≤ i.toNatClampNeg) then some (encC I A L pr ot (encR J (u1 B 48 (upd (B 48) i.toNatClampNeg v)) M rdv ru T)) else none := by
  simp only [h_ast, encC, encR, List.getElem?_cons_succ, List.getElem?_cons_zero, true_and]
  rfl
theorem rA_49 {I : Nat → Nat → Int32} {A : Nat → Nat → Int32} {L : Nat → Int64} {pr ot : Nat} {J : Nat → Int32} {B : Nat → Nat → Int32} {M : Nat → Int64} {rdv : Value} {ru : Nat} {T : PH} {i : Int32} : h_ald .boolean (encC I A L pr ot (encR J B M rdv ru T)) 76 i = if ¬ (i < 0 ∨ 2 ≤ i.toNatClampNeg) then some (B 49 i.toNatClampNeg) else none := by
  simp only [h_ald, encC, encR, List.getElem?_cons_succ, List.getElem?_cons_zero, true_and]
theorem rS_49 {I : Nat → Nat → Int32} {A : Nat → Nat → Int32} {L : Nat → Int64} {pr ot : Nat} {J : Nat → Int32} {B : Nat → Nat → Int32} {M : Nat → Int64} {rdv : Value} {ru : Nat} {T : PH} {i v : Int32} : h_ast .boolean (encC I A L pr ot (encR J B M rdv ru T)) 76 i v = if ¬ (i < 0 ∨ 2 ≤ i.toNatClampNeg) then some (encC I A L pr ot (encR J (u1 B 49 (upd (B 49) i.toNatClampNeg v)) M rdv ru T)) else none := by
  simp only [h_ast, encC, encR, List.getElem?_cons_succ, List.getElem?_cons_zero, true_and]
  rfl
theorem rA_50 {I : Nat → Nat → Int32} {A : Nat → Nat → Int32} {L : Nat → Int64} {pr ot : Nat} {J : Nat → Int32} {B : Nat → Nat → Int32} {M : Nat → Int64} {rdv : Value} {ru : Nat} {T : PH} {i : Int32} : h_ald .int (encC I A L pr ot (encR J B M rdv ru T)) 77 i = if ¬ (i < 0 ∨ 2 ≤ i.toNatClampNeg) then some (B 50 i.toNatClampNeg) else none := by
  simp only [h_ald, encC, encR, List.getElem?_cons_succ, List.getElem?_cons_zero, true_and]
theorem rS_50 {I : Nat → Nat → Int32} {A : Nat → Nat → Int32} {L : Nat → Int64} {pr ot : Nat} {J : Nat → Int32} {B : Nat → Nat → Int32} {M : Nat → Int64} {rdv : Value} {ru : Nat} {T : PH} {i v : Int32} : h_ast .int (encC I A L pr ot (encR J B M rdv ru T)) 77 i v = if ¬ (i < 0 ∨ 2 ≤ i.toNatClampNeg) then some (encC I A L pr ot (encR J (u1 B 50 (upd (B 50) i.toNatClampNeg v)) M rdv ru T)) else none := by
  simp only [h_ast, encC, encR, List.getElem?_cons_succ, List.getElem?_cons_zero, true_and]
  rfl
