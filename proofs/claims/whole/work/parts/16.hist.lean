noncomputable def FX0_push (HI : HiT) (HS : Nat → ScT) (HK : Nat → SkT) (WD : WdT) (SC : ScT) (SK : SkT) : Option (HiT × (Nat → ScT) × (Nat → SkT)) :=
  nm (Hi_next HI) fun x1 =>
  ix x1 8 <|
  (FX3_take (HS (Int32.toNatClampNeg x1)) SC).bind fun r3 =>
  nm (va_up HS (Int32.toNatClampNeg x1) r3) fun HS4 =>
  ix x1 8 <|
  (FX4_take (HK (Int32.toNatClampNeg x1)) SK).bind fun r6 =>
  nm (va_up HK (Int32.toNatClampNeg x1) r6) fun HK7 =>
  nm (sHi_next HI (((Hi_next HI) + (1 : Int32)) - ((Hi_next HI) + (1 : Int32)) / (8 : Int32) * (8 : Int32))) fun HI8 =>
  nm (sHi_many HI8 (if (8 : Int32) < ((Hi_many HI8) + (1 : Int32)) then (8 : Int32) else ((Hi_many HI8) + (1 : Int32)))) fun HI9 =>
  some (HI9, HS4, HK7)
set_option maxHeartbeats 4000000 in
set_option maxRecDepth 100000 in
theorem ctX0_push {l : Launch} {D : va_G} {k : Nat → ClassId} {Z : ZT} (hZ : ZOK Z) (ot : Nat) (o1 : Nat) (aHI : Nat → Nat) (aHS : Nat → Nat → Nat) (aHK : Nat → Nat → Nat) (aWD : Nat → Nat) (aSC : Nat → Nat) (aSK : Nat → Nat) {HI : HiT} {HS : Nat → ScT} {HK : Nat → SkT} {WD : WdT} {SC : ScT} {SK : SkT} {q : HiT × (Nat → ScT) × (Nat → SkT)} (hf : FX0_push HI HS HK WD SC SK = some q) :
    CM l D k Z yX0_push cX0_push 2 none 3 82 [.ref ot, .ref o1] none (kHi k ot aHI (HI) ++ (kHS k (fun i => aHI (2 + i)) aHS (HS) ++ (kHK k (fun i => aHI (10 + i)) aHK (HK) ++ (kWd k o1 aWD (WD) ++ (kSc k (aWD 1) aSC (SC) ++ (kSk k (aWD 2) aSK (SK))))))) (kHi k ot aHI (q.1) ++ (kHS k (fun i => aHI (2 + i)) aHS (q.2.1) ++ (kHK k (fun i => aHI (10 + i)) aHK (q.2.2) ++ (kWd k o1 aWD (WD) ++ (kSc k (aWD 1) aSC (SC) ++ (kSk k (aWD 2) aSK (SK))))))) := by
  refine CM.start hZ (by decide) (Nat.le_of_ble_eq_true rfl) ?_
  intro p e s m below meth c ls X hl G
  have hx := X.1
  have hb := X.2.1
  have hl : lv_has ls 2 [(0, .ref ot), (1, .ref o1)] := hl
  unfold FX0_push at hf
  refine lv_aload_n hx hb dX0_push_0 rfl (lv_at hl 0 rfl) ?_
  refine r_get X inw_X0 G 0 rfl rfl 0 (by decide) fl_X0_11 (v := .ref (aHI 0)) rfl dX0_push_1 ?_
  refine lv_aload_n hx hb dX0_push_4 rfl (lv_at hl 0 rfl) ?_
  refine r_get X inw_X0 G 0 rfl rfl 2 (by decide) fl_X0_23 (v := .int (Hi_next HI)) rfl dX0_push_5 ?_
  obtain ⟨x1, ex1, hf⟩ := nm_some hf
  refine r_top (congrArg Value.int ex1) ?_
  obtain ⟨h2, hf⟩ := ix_some hf
  rcases cl8 h2 with hnx1 | hnx1 | hnx1 | hnx1 | hnx1 | hnx1 | hnx1 | hnx1
  · rw [hnx1] at hf
    refine r_aldq X G 1 3 rfl rfl h2 (v := .ref (aHI 2)) (by rw [hnx1]; rfl) dX0_push_8 ?_
    refine lv_aload_n hx hb dX0_push_9 rfl (lv_at hl 1 rfl) ?_
    refine r_get X inw_X8 G 91 rfl rfl 1 (by decide) fl_X0_32 (v := .ref (aWD 1)) rfl dX0_push_10 ?_
    obtain ⟨r3, hcr3, hf⟩ := bd_some hf
    obtain ⟨HS4, eHS4, hf⟩ := nm_some hf
    refine p_N (st1 := []) (wr := kHi k ot aHI (HI) ++ (kSc k (aHI 3) (aHS 1) (HS 1) ++ (kSc k (aHI 4) (aHS 2) (HS 2) ++ (kSc k (aHI 5) (aHS 3) (HS 3) ++ (kSc k (aHI 6) (aHS 4) (HS 4) ++ (kSc k (aHI 7) (aHS 5) (HS 5) ++ (kSc k (aHI 8) (aHS 6) (HS 6) ++ (kSc k (aHI 9) (aHS 7) (HS 7) ++ (kHK k (fun i => aHI (10 + i)) aHK (HK) ++ (kWd k o1 aWD (WD) ++ (kSk k (aWD 2) aSK (SK)))))))))))) (ws' := kHi k ot aHI (HI) ++ (kHS k (fun i => aHI (2 + i)) aHS (HS4) ++ (kHK k (fun i => aHI (10 + i)) aHK (HK) ++ (kWd k o1 aWD (WD) ++ (kSc k (aWD 1) aSC (SC) ++ (kSk k (aWD 2) aSK (SK))))))) (run_V (rest := []) X (ctX3_take hZ (aHI 2) (aWD 1) (aHS 0) aSC hcr3) mk_X3_take ml_X0_38 ⟨(Nat.le_of_ble_eq_true rfl), (Nat.le_of_ble_eq_true rfl)⟩ G [3, 4, 5, 6, 7, 8, 9, 10, 11, 92, 93, 94, 95, 96, 97, 98, 99, 100] rfl rfl 3 rfl rfl rfl hl.1 rfl (Nat.le_of_ble_eq_true rfl) dX0_push_13 ⟨Nat.zero_le _, Nat.zero_le _⟩) rfl G [3, 4, 5, 6, 7, 8, 9, 10, 11, 92, 93, 94, 95, 96, 97, 98, 99, 100] [0, 1, 2, 12, 13, 14, 15, 16, 17, 18, 19, 20, 21, 22, 23, 24, 25, 26, 27, 28, 29, 30, 31, 32, 33, 34, 35, 36, 37, 38, 39, 40, 41, 42, 43, 44, 45, 46, 47, 48, 49, 50, 51, 52, 53, 54, 55, 56, 57, 58, 59, 60, 61, 62, 63, 64, 65, 66, 67, 68, 69, 70, 71, 72, 73, 74, 75, 76, 77, 78, 79, 80, 81, 82, 83, 84, 85, 86, 87, 88, 89, 90, 91, 101, 102] 103 rfl (by subst eHS4; rfl) rfl (by subst eHS4; rfl) rfl (by decide +kernel) (by decide +kernel) rfl (fun H locs G => ?_)
    refine lv_aload_n hx hb dX0_push_16 rfl (lv_at hl 0 rfl) ?_
    refine r_get X inw_X0 G 0 rfl rfl 1 (by decide) fl_X0_19 (v := .ref (aHI 1)) rfl dX0_push_17 ?_
    refine lv_aload_n hx hb dX0_push_20 rfl (lv_at hl 0 rfl) ?_
    refine r_get X inw_X0 G 0 rfl rfl 2 (by decide) fl_X0_23 (v := .int (Hi_next HI)) rfl dX0_push_21 ?_
    refine r_top (congrArg Value.int ex1) ?_
    obtain ⟨h5, hf⟩ := ix_some hf
    refine r_aldq X G 2 4 rfl rfl h5 (v := .ref (aHI 10)) (by rw [hnx1]; rfl) dX0_push_24 ?_
    refine lv_aload_n hx hb dX0_push_25 rfl (lv_at hl 1 rfl) ?_
    refine r_get X inw_X8 G 91 rfl rfl 2 (by decide) fl_X0_42 (v := .ref (aWD 2)) rfl dX0_push_26 ?_
    obtain ⟨r6, hcr6, hf⟩ := bd_some hf
    obtain ⟨HK7, eHK7, hf⟩ := nm_some hf
    refine p_N (st1 := []) (wr := kHi k ot aHI (HI) ++ (kHS k (fun i => aHI (2 + i)) aHS (HS4) ++ (kSk k (aHI 11) (aHK 1) (HK 1) ++ (kSk k (aHI 12) (aHK 2) (HK 2) ++ (kSk k (aHI 13) (aHK 3) (HK 3) ++ (kSk k (aHI 14) (aHK 4) (HK 4) ++ (kSk k (aHI 15) (aHK 5) (HK 5) ++ (kSk k (aHI 16) (aHK 6) (HK 6) ++ (kSk k (aHI 17) (aHK 7) (HK 7) ++ (kWd k o1 aWD (WD) ++ (kSc k (aWD 1) aSC (SC)))))))))))) (ws' := kHi k ot aHI (HI) ++ (kHS k (fun i => aHI (2 + i)) aHS (HS4) ++ (kHK k (fun i => aHI (10 + i)) aHK (HK7) ++ (kWd k o1 aWD (WD) ++ (kSc k (aWD 1) aSC (SC) ++ (kSk k (aWD 2) aSK (SK))))))) (run_V (rest := []) X (ctX4_take hZ (aHI 10) (aWD 2) (aHK 0) aSK hcr6) mk_X4_take ml_X0_45 ⟨(Nat.le_of_ble_eq_true rfl), (Nat.le_of_ble_eq_true rfl)⟩ G [75, 76, 101, 102] rfl rfl 75 rfl rfl rfl hl.1 rfl (Nat.le_of_ble_eq_true rfl) dX0_push_29 ⟨Nat.zero_le _, Nat.zero_le _⟩) rfl G [75, 76, 101, 102] [0, 1, 2, 3, 4, 5, 6, 7, 8, 9, 10, 11, 12, 13, 14, 15, 16, 17, 18, 19, 20, 21, 22, 23, 24, 25, 26, 27, 28, 29, 30, 31, 32, 33, 34, 35, 36, 37, 38, 39, 40, 41, 42, 43, 44, 45, 46, 47, 48, 49, 50, 51, 52, 53, 54, 55, 56, 57, 58, 59, 60, 61, 62, 63, 64, 65, 66, 67, 68, 69, 70, 71, 72, 73, 74, 77, 78, 79, 80, 81, 82, 83, 84, 85, 86, 87, 88, 89, 90, 91, 92, 93, 94, 95, 96, 97, 98, 99, 100] 103 rfl (by subst eHK7; rfl) rfl (by subst eHK7; rfl) rfl (by decide +kernel) (by decide +kernel) rfl (fun H locs G => ?_)
    refine lv_aload_n hx hb dX0_push_32 rfl (lv_at hl 0 rfl) ?_
    refine lv_aload_n hx hb dX0_push_33 rfl (lv_at hl 0 rfl) ?_
    refine r_get X inw_X0 G 0 rfl rfl 2 (by decide) fl_X0_23 (v := .int (Hi_next HI)) rfl dX0_push_34 ?_
    refine lv_iconst (v := 1) hx hb dX0_push_37 (by decide) ?_
    refine lv_iadd hx hb dX0_push_38 ?_
    refine lv_bipush (v := 8) hx hb dX0_push_39 (by decide) ?_
    refine lv_irem hx hb dX0_push_41 (by decide) ?_
    obtain ⟨HI8, eHI8, hf⟩ := nm_some hf
    refine r_put X inw_X0 tyX0 tyX0_ok nmX0 G 0 rfl rfl 2 (by decide) fl_X0_23 rfl rfl rfl (Nat.le_of_ble_eq_true rfl) (ws' := kHi k ot aHI (HI8) ++ (kHS k (fun i => aHI (2 + i)) aHS (HS4) ++ (kHK k (fun i => aHI (10 + i)) aHK (HK7) ++ (kWd k o1 aWD (WD) ++ (kSc k (aWD 1) aSC (SC) ++ (kSk k (aWD 2) aSK (SK))))))) (by subst eHI8; rfl) dX0_push_42 (fun H locs G => ?_)
    refine lv_aload_n hx hb dX0_push_45 rfl (lv_at hl 0 rfl) ?_
    refine lv_aload_n hx hb dX0_push_46 rfl (lv_at hl 0 rfl) ?_
    refine r_get X inw_X0 G 0 rfl rfl 3 (by decide) fl_X0_27 (v := .int (Hi_many HI8)) rfl dX0_push_47 ?_
    refine lv_iconst (v := 1) hx hb dX0_push_50 (by decide) ?_
    refine lv_iadd hx hb dX0_push_51 ?_
    refine lv_bipush (v := 8) hx hb dX0_push_52 (by decide) ?_
    refine r_min X mm_X0_48 (Nat.le_of_ble_eq_true rfl) (Nat.le_of_ble_eq_true rfl) (Nat.zero_le _) (Nat.zero_le _) dX0_push_54 hl.1 ?_
    obtain ⟨HI9, eHI9, hf⟩ := nm_some hf
    refine r_put X inw_X0 tyX0 tyX0_ok nmX0 G 0 rfl rfl 3 (by decide) fl_X0_27 rfl rfl rfl (Nat.le_of_ble_eq_true rfl) (ws' := kHi k ot aHI (HI9) ++ (kHS k (fun i => aHI (2 + i)) aHS (HS4) ++ (kHK k (fun i => aHI (10 + i)) aHK (HK7) ++ (kWd k o1 aWD (WD) ++ (kSc k (aWD 1) aSC (SC) ++ (kSk k (aWD 2) aSK (SK))))))) (by subst eHI9; rfl) dX0_push_57 (fun H locs G => ?_)
    cases hf
    exact e_mv X G dX0_push_60
  · rw [hnx1] at hf
    refine r_aldq X G 1 3 rfl rfl h2 (v := .ref (aHI 3)) (by rw [hnx1]; rfl) dX0_push_8 ?_
    refine lv_aload_n hx hb dX0_push_9 rfl (lv_at hl 1 rfl) ?_
    refine r_get X inw_X8 G 91 rfl rfl 1 (by decide) fl_X0_32 (v := .ref (aWD 1)) rfl dX0_push_10 ?_
    obtain ⟨r3, hcr3, hf⟩ := bd_some hf
    obtain ⟨HS4, eHS4, hf⟩ := nm_some hf
    refine p_N (st1 := []) (wr := kHi k ot aHI (HI) ++ (kSc k (aHI 2) (aHS 0) (HS 0) ++ (kSc k (aHI 4) (aHS 2) (HS 2) ++ (kSc k (aHI 5) (aHS 3) (HS 3) ++ (kSc k (aHI 6) (aHS 4) (HS 4) ++ (kSc k (aHI 7) (aHS 5) (HS 5) ++ (kSc k (aHI 8) (aHS 6) (HS 6) ++ (kSc k (aHI 9) (aHS 7) (HS 7) ++ (kHK k (fun i => aHI (10 + i)) aHK (HK) ++ (kWd k o1 aWD (WD) ++ (kSk k (aWD 2) aSK (SK)))))))))))) (ws' := kHi k ot aHI (HI) ++ (kHS k (fun i => aHI (2 + i)) aHS (HS4) ++ (kHK k (fun i => aHI (10 + i)) aHK (HK) ++ (kWd k o1 aWD (WD) ++ (kSc k (aWD 1) aSC (SC) ++ (kSk k (aWD 2) aSK (SK))))))) (run_V (rest := []) X (ctX3_take hZ (aHI 3) (aWD 1) (aHS 1) aSC hcr3) mk_X3_take ml_X0_38 ⟨(Nat.le_of_ble_eq_true rfl), (Nat.le_of_ble_eq_true rfl)⟩ G [12, 13, 14, 15, 16, 17, 18, 19, 20, 92, 93, 94, 95, 96, 97, 98, 99, 100] rfl rfl 12 rfl rfl rfl hl.1 rfl (Nat.le_of_ble_eq_true rfl) dX0_push_13 ⟨Nat.zero_le _, Nat.zero_le _⟩) rfl G [12, 13, 14, 15, 16, 17, 18, 19, 20, 92, 93, 94, 95, 96, 97, 98, 99, 100] [0, 1, 2, 3, 4, 5, 6, 7, 8, 9, 10, 11, 21, 22, 23, 24, 25, 26, 27, 28, 29, 30, 31, 32, 33, 34, 35, 36, 37, 38, 39, 40, 41, 42, 43, 44, 45, 46, 47, 48, 49, 50, 51, 52, 53, 54, 55, 56, 57, 58, 59, 60, 61, 62, 63, 64, 65, 66, 67, 68, 69, 70, 71, 72, 73, 74, 75, 76, 77, 78, 79, 80, 81, 82, 83, 84, 85, 86, 87, 88, 89, 90, 91, 101, 102] 103 rfl (by subst eHS4; rfl) rfl (by subst eHS4; rfl) rfl (by decide +kernel) (by decide +kernel) rfl (fun H locs G => ?_)
    refine lv_aload_n hx hb dX0_push_16 rfl (lv_at hl 0 rfl) ?_
    refine r_get X inw_X0 G 0 rfl rfl 1 (by decide) fl_X0_19 (v := .ref (aHI 1)) rfl dX0_push_17 ?_
    refine lv_aload_n hx hb dX0_push_20 rfl (lv_at hl 0 rfl) ?_
    refine r_get X inw_X0 G 0 rfl rfl 2 (by decide) fl_X0_23 (v := .int (Hi_next HI)) rfl dX0_push_21 ?_
    refine r_top (congrArg Value.int ex1) ?_
    obtain ⟨h5, hf⟩ := ix_some hf
    refine r_aldq X G 2 4 rfl rfl h5 (v := .ref (aHI 11)) (by rw [hnx1]; rfl) dX0_push_24 ?_
    refine lv_aload_n hx hb dX0_push_25 rfl (lv_at hl 1 rfl) ?_
    refine r_get X inw_X8 G 91 rfl rfl 2 (by decide) fl_X0_42 (v := .ref (aWD 2)) rfl dX0_push_26 ?_
    obtain ⟨r6, hcr6, hf⟩ := bd_some hf
    obtain ⟨HK7, eHK7, hf⟩ := nm_some hf
    refine p_N (st1 := []) (wr := kHi k ot aHI (HI) ++ (kHS k (fun i => aHI (2 + i)) aHS (HS4) ++ (kSk k (aHI 10) (aHK 0) (HK 0) ++ (kSk k (aHI 12) (aHK 2) (HK 2) ++ (kSk k (aHI 13) (aHK 3) (HK 3) ++ (kSk k (aHI 14) (aHK 4) (HK 4) ++ (kSk k (aHI 15) (aHK 5) (HK 5) ++ (kSk k (aHI 16) (aHK 6) (HK 6) ++ (kSk k (aHI 17) (aHK 7) (HK 7) ++ (kWd k o1 aWD (WD) ++ (kSc k (aWD 1) aSC (SC)))))))))))) (ws' := kHi k ot aHI (HI) ++ (kHS k (fun i => aHI (2 + i)) aHS (HS4) ++ (kHK k (fun i => aHI (10 + i)) aHK (HK7) ++ (kWd k o1 aWD (WD) ++ (kSc k (aWD 1) aSC (SC) ++ (kSk k (aWD 2) aSK (SK))))))) (run_V (rest := []) X (ctX4_take hZ (aHI 11) (aWD 2) (aHK 1) aSK hcr6) mk_X4_take ml_X0_45 ⟨(Nat.le_of_ble_eq_true rfl), (Nat.le_of_ble_eq_true rfl)⟩ G [77, 78, 101, 102] rfl rfl 77 rfl rfl rfl hl.1 rfl (Nat.le_of_ble_eq_true rfl) dX0_push_29 ⟨Nat.zero_le _, Nat.zero_le _⟩) rfl G [77, 78, 101, 102] [0, 1, 2, 3, 4, 5, 6, 7, 8, 9, 10, 11, 12, 13, 14, 15, 16, 17, 18, 19, 20, 21, 22, 23, 24, 25, 26, 27, 28, 29, 30, 31, 32, 33, 34, 35, 36, 37, 38, 39, 40, 41, 42, 43, 44, 45, 46, 47, 48, 49, 50, 51, 52, 53, 54, 55, 56, 57, 58, 59, 60, 61, 62, 63, 64, 65, 66, 67, 68, 69, 70, 71, 72, 73, 74, 75, 76, 79, 80, 81, 82, 83, 84, 85, 86, 87, 88, 89, 90, 91, 92, 93, 94, 95, 96, 97, 98, 99, 100] 103 rfl (by subst eHK7; rfl) rfl (by subst eHK7; rfl) rfl (by decide +kernel) (by decide +kernel) rfl (fun H locs G => ?_)
    refine lv_aload_n hx hb dX0_push_32 rfl (lv_at hl 0 rfl) ?_
    refine lv_aload_n hx hb dX0_push_33 rfl (lv_at hl 0 rfl) ?_
    refine r_get X inw_X0 G 0 rfl rfl 2 (by decide) fl_X0_23 (v := .int (Hi_next HI)) rfl dX0_push_34 ?_
    refine lv_iconst (v := 1) hx hb dX0_push_37 (by decide) ?_
    refine lv_iadd hx hb dX0_push_38 ?_
    refine lv_bipush (v := 8) hx hb dX0_push_39 (by decide) ?_
    refine lv_irem hx hb dX0_push_41 (by decide) ?_
    obtain ⟨HI8, eHI8, hf⟩ := nm_some hf
    refine r_put X inw_X0 tyX0 tyX0_ok nmX0 G 0 rfl rfl 2 (by decide) fl_X0_23 rfl rfl rfl (Nat.le_of_ble_eq_true rfl) (ws' := kHi k ot aHI (HI8) ++ (kHS k (fun i => aHI (2 + i)) aHS (HS4) ++ (kHK k (fun i => aHI (10 + i)) aHK (HK7) ++ (kWd k o1 aWD (WD) ++ (kSc k (aWD 1) aSC (SC) ++ (kSk k (aWD 2) aSK (SK))))))) (by subst eHI8; rfl) dX0_push_42 (fun H locs G => ?_)
    refine lv_aload_n hx hb dX0_push_45 rfl (lv_at hl 0 rfl) ?_
    refine lv_aload_n hx hb dX0_push_46 rfl (lv_at hl 0 rfl) ?_
    refine r_get X inw_X0 G 0 rfl rfl 3 (by decide) fl_X0_27 (v := .int (Hi_many HI8)) rfl dX0_push_47 ?_
    refine lv_iconst (v := 1) hx hb dX0_push_50 (by decide) ?_
    refine lv_iadd hx hb dX0_push_51 ?_
    refine lv_bipush (v := 8) hx hb dX0_push_52 (by decide) ?_
    refine r_min X mm_X0_48 (Nat.le_of_ble_eq_true rfl) (Nat.le_of_ble_eq_true rfl) (Nat.zero_le _) (Nat.zero_le _) dX0_push_54 hl.1 ?_
    obtain ⟨HI9, eHI9, hf⟩ := nm_some hf
    refine r_put X inw_X0 tyX0 tyX0_ok nmX0 G 0 rfl rfl 3 (by decide) fl_X0_27 rfl rfl rfl (Nat.le_of_ble_eq_true rfl) (ws' := kHi k ot aHI (HI9) ++ (kHS k (fun i => aHI (2 + i)) aHS (HS4) ++ (kHK k (fun i => aHI (10 + i)) aHK (HK7) ++ (kWd k o1 aWD (WD) ++ (kSc k (aWD 1) aSC (SC) ++ (kSk k (aWD 2) aSK (SK))))))) (by subst eHI9; rfl) dX0_push_57 (fun H locs G => ?_)
    cases hf
    exact e_mv X G dX0_push_60
  · rw [hnx1] at hf
    refine r_aldq X G 1 3 rfl rfl h2 (v := .ref (aHI 4)) (by rw [hnx1]; rfl) dX0_push_8 ?_
    refine lv_aload_n hx hb dX0_push_9 rfl (lv_at hl 1 rfl) ?_
    refine r_get X inw_X8 G 91 rfl rfl 1 (by decide) fl_X0_32 (v := .ref (aWD 1)) rfl dX0_push_10 ?_
    obtain ⟨r3, hcr3, hf⟩ := bd_some hf
    obtain ⟨HS4, eHS4, hf⟩ := nm_some hf
    refine p_N (st1 := []) (wr := kHi k ot aHI (HI) ++ (kSc k (aHI 2) (aHS 0) (HS 0) ++ (kSc k (aHI 3) (aHS 1) (HS 1) ++ (kSc k (aHI 5) (aHS 3) (HS 3) ++ (kSc k (aHI 6) (aHS 4) (HS 4) ++ (kSc k (aHI 7) (aHS 5) (HS 5) ++ (kSc k (aHI 8) (aHS 6) (HS 6) ++ (kSc k (aHI 9) (aHS 7) (HS 7) ++ (kHK k (fun i => aHI (10 + i)) aHK (HK) ++ (kWd k o1 aWD (WD) ++ (kSk k (aWD 2) aSK (SK)))))))))))) (ws' := kHi k ot aHI (HI) ++ (kHS k (fun i => aHI (2 + i)) aHS (HS4) ++ (kHK k (fun i => aHI (10 + i)) aHK (HK) ++ (kWd k o1 aWD (WD) ++ (kSc k (aWD 1) aSC (SC) ++ (kSk k (aWD 2) aSK (SK))))))) (run_V (rest := []) X (ctX3_take hZ (aHI 4) (aWD 1) (aHS 2) aSC hcr3) mk_X3_take ml_X0_38 ⟨(Nat.le_of_ble_eq_true rfl), (Nat.le_of_ble_eq_true rfl)⟩ G [21, 22, 23, 24, 25, 26, 27, 28, 29, 92, 93, 94, 95, 96, 97, 98, 99, 100] rfl rfl 21 rfl rfl rfl hl.1 rfl (Nat.le_of_ble_eq_true rfl) dX0_push_13 ⟨Nat.zero_le _, Nat.zero_le _⟩) rfl G [21, 22, 23, 24, 25, 26, 27, 28, 29, 92, 93, 94, 95, 96, 97, 98, 99, 100] [0, 1, 2, 3, 4, 5, 6, 7, 8, 9, 10, 11, 12, 13, 14, 15, 16, 17, 18, 19, 20, 30, 31, 32, 33, 34, 35, 36, 37, 38, 39, 40, 41, 42, 43, 44, 45, 46, 47, 48, 49, 50, 51, 52, 53, 54, 55, 56, 57, 58, 59, 60, 61, 62, 63, 64, 65, 66, 67, 68, 69, 70, 71, 72, 73, 74, 75, 76, 77, 78, 79, 80, 81, 82, 83, 84, 85, 86, 87, 88, 89, 90, 91, 101, 102] 103 rfl (by subst eHS4; rfl) rfl (by subst eHS4; rfl) rfl (by decide +kernel) (by decide +kernel) rfl (fun H locs G => ?_)
    refine lv_aload_n hx hb dX0_push_16 rfl (lv_at hl 0 rfl) ?_
    refine r_get X inw_X0 G 0 rfl rfl 1 (by decide) fl_X0_19 (v := .ref (aHI 1)) rfl dX0_push_17 ?_
    refine lv_aload_n hx hb dX0_push_20 rfl (lv_at hl 0 rfl) ?_
    refine r_get X inw_X0 G 0 rfl rfl 2 (by decide) fl_X0_23 (v := .int (Hi_next HI)) rfl dX0_push_21 ?_
    refine r_top (congrArg Value.int ex1) ?_
    obtain ⟨h5, hf⟩ := ix_some hf
    refine r_aldq X G 2 4 rfl rfl h5 (v := .ref (aHI 12)) (by rw [hnx1]; rfl) dX0_push_24 ?_
    refine lv_aload_n hx hb dX0_push_25 rfl (lv_at hl 1 rfl) ?_
    refine r_get X inw_X8 G 91 rfl rfl 2 (by decide) fl_X0_42 (v := .ref (aWD 2)) rfl dX0_push_26 ?_
    obtain ⟨r6, hcr6, hf⟩ := bd_some hf
    obtain ⟨HK7, eHK7, hf⟩ := nm_some hf
    refine p_N (st1 := []) (wr := kHi k ot aHI (HI) ++ (kHS k (fun i => aHI (2 + i)) aHS (HS4) ++ (kSk k (aHI 10) (aHK 0) (HK 0) ++ (kSk k (aHI 11) (aHK 1) (HK 1) ++ (kSk k (aHI 13) (aHK 3) (HK 3) ++ (kSk k (aHI 14) (aHK 4) (HK 4) ++ (kSk k (aHI 15) (aHK 5) (HK 5) ++ (kSk k (aHI 16) (aHK 6) (HK 6) ++ (kSk k (aHI 17) (aHK 7) (HK 7) ++ (kWd k o1 aWD (WD) ++ (kSc k (aWD 1) aSC (SC)))))))))))) (ws' := kHi k ot aHI (HI) ++ (kHS k (fun i => aHI (2 + i)) aHS (HS4) ++ (kHK k (fun i => aHI (10 + i)) aHK (HK7) ++ (kWd k o1 aWD (WD) ++ (kSc k (aWD 1) aSC (SC) ++ (kSk k (aWD 2) aSK (SK))))))) (run_V (rest := []) X (ctX4_take hZ (aHI 12) (aWD 2) (aHK 2) aSK hcr6) mk_X4_take ml_X0_45 ⟨(Nat.le_of_ble_eq_true rfl), (Nat.le_of_ble_eq_true rfl)⟩ G [79, 80, 101, 102] rfl rfl 79 rfl rfl rfl hl.1 rfl (Nat.le_of_ble_eq_true rfl) dX0_push_29 ⟨Nat.zero_le _, Nat.zero_le _⟩) rfl G [79, 80, 101, 102] [0, 1, 2, 3, 4, 5, 6, 7, 8, 9, 10, 11, 12, 13, 14, 15, 16, 17, 18, 19, 20, 21, 22, 23, 24, 25, 26, 27, 28, 29, 30, 31, 32, 33, 34, 35, 36, 37, 38, 39, 40, 41, 42, 43, 44, 45, 46, 47, 48, 49, 50, 51, 52, 53, 54, 55, 56, 57, 58, 59, 60, 61, 62, 63, 64, 65, 66, 67, 68, 69, 70, 71, 72, 73, 74, 75, 76, 77, 78, 81, 82, 83, 84, 85, 86, 87, 88, 89, 90, 91, 92, 93, 94, 95, 96, 97, 98, 99, 100] 103 rfl (by subst eHK7; rfl) rfl (by subst eHK7; rfl) rfl (by decide +kernel) (by decide +kernel) rfl (fun H locs G => ?_)
    refine lv_aload_n hx hb dX0_push_32 rfl (lv_at hl 0 rfl) ?_
    refine lv_aload_n hx hb dX0_push_33 rfl (lv_at hl 0 rfl) ?_
    refine r_get X inw_X0 G 0 rfl rfl 2 (by decide) fl_X0_23 (v := .int (Hi_next HI)) rfl dX0_push_34 ?_
    refine lv_iconst (v := 1) hx hb dX0_push_37 (by decide) ?_
    refine lv_iadd hx hb dX0_push_38 ?_
    refine lv_bipush (v := 8) hx hb dX0_push_39 (by decide) ?_
    refine lv_irem hx hb dX0_push_41 (by decide) ?_
    obtain ⟨HI8, eHI8, hf⟩ := nm_some hf
    refine r_put X inw_X0 tyX0 tyX0_ok nmX0 G 0 rfl rfl 2 (by decide) fl_X0_23 rfl rfl rfl (Nat.le_of_ble_eq_true rfl) (ws' := kHi k ot aHI (HI8) ++ (kHS k (fun i => aHI (2 + i)) aHS (HS4) ++ (kHK k (fun i => aHI (10 + i)) aHK (HK7) ++ (kWd k o1 aWD (WD) ++ (kSc k (aWD 1) aSC (SC) ++ (kSk k (aWD 2) aSK (SK))))))) (by subst eHI8; rfl) dX0_push_42 (fun H locs G => ?_)
    refine lv_aload_n hx hb dX0_push_45 rfl (lv_at hl 0 rfl) ?_
    refine lv_aload_n hx hb dX0_push_46 rfl (lv_at hl 0 rfl) ?_
    refine r_get X inw_X0 G 0 rfl rfl 3 (by decide) fl_X0_27 (v := .int (Hi_many HI8)) rfl dX0_push_47 ?_
    refine lv_iconst (v := 1) hx hb dX0_push_50 (by decide) ?_
    refine lv_iadd hx hb dX0_push_51 ?_
    refine lv_bipush (v := 8) hx hb dX0_push_52 (by decide) ?_
    refine r_min X mm_X0_48 (Nat.le_of_ble_eq_true rfl) (Nat.le_of_ble_eq_true rfl) (Nat.zero_le _) (Nat.zero_le _) dX0_push_54 hl.1 ?_
    obtain ⟨HI9, eHI9, hf⟩ := nm_some hf
    refine r_put X inw_X0 tyX0 tyX0_ok nmX0 G 0 rfl rfl 3 (by decide) fl_X0_27 rfl rfl rfl (Nat.le_of_ble_eq_true rfl) (ws' := kHi k ot aHI (HI9) ++ (kHS k (fun i => aHI (2 + i)) aHS (HS4) ++ (kHK k (fun i => aHI (10 + i)) aHK (HK7) ++ (kWd k o1 aWD (WD) ++ (kSc k (aWD 1) aSC (SC) ++ (kSk k (aWD 2) aSK (SK))))))) (by subst eHI9; rfl) dX0_push_57 (fun H locs G => ?_)
    cases hf
    exact e_mv X G dX0_push_60
  · rw [hnx1] at hf
    refine r_aldq X G 1 3 rfl rfl h2 (v := .ref (aHI 5)) (by rw [hnx1]; rfl) dX0_push_8 ?_
    refine lv_aload_n hx hb dX0_push_9 rfl (lv_at hl 1 rfl) ?_
    refine r_get X inw_X8 G 91 rfl rfl 1 (by decide) fl_X0_32 (v := .ref (aWD 1)) rfl dX0_push_10 ?_
    obtain ⟨r3, hcr3, hf⟩ := bd_some hf
    obtain ⟨HS4, eHS4, hf⟩ := nm_some hf
    refine p_N (st1 := []) (wr := kHi k ot aHI (HI) ++ (kSc k (aHI 2) (aHS 0) (HS 0) ++ (kSc k (aHI 3) (aHS 1) (HS 1) ++ (kSc k (aHI 4) (aHS 2) (HS 2) ++ (kSc k (aHI 6) (aHS 4) (HS 4) ++ (kSc k (aHI 7) (aHS 5) (HS 5) ++ (kSc k (aHI 8) (aHS 6) (HS 6) ++ (kSc k (aHI 9) (aHS 7) (HS 7) ++ (kHK k (fun i => aHI (10 + i)) aHK (HK) ++ (kWd k o1 aWD (WD) ++ (kSk k (aWD 2) aSK (SK)))))))))))) (ws' := kHi k ot aHI (HI) ++ (kHS k (fun i => aHI (2 + i)) aHS (HS4) ++ (kHK k (fun i => aHI (10 + i)) aHK (HK) ++ (kWd k o1 aWD (WD) ++ (kSc k (aWD 1) aSC (SC) ++ (kSk k (aWD 2) aSK (SK))))))) (run_V (rest := []) X (ctX3_take hZ (aHI 5) (aWD 1) (aHS 3) aSC hcr3) mk_X3_take ml_X0_38 ⟨(Nat.le_of_ble_eq_true rfl), (Nat.le_of_ble_eq_true rfl)⟩ G [30, 31, 32, 33, 34, 35, 36, 37, 38, 92, 93, 94, 95, 96, 97, 98, 99, 100] rfl rfl 30 rfl rfl rfl hl.1 rfl (Nat.le_of_ble_eq_true rfl) dX0_push_13 ⟨Nat.zero_le _, Nat.zero_le _⟩) rfl G [30, 31, 32, 33, 34, 35, 36, 37, 38, 92, 93, 94, 95, 96, 97, 98, 99, 100] [0, 1, 2, 3, 4, 5, 6, 7, 8, 9, 10, 11, 12, 13, 14, 15, 16, 17, 18, 19, 20, 21, 22, 23, 24, 25, 26, 27, 28, 29, 39, 40, 41, 42, 43, 44, 45, 46, 47, 48, 49, 50, 51, 52, 53, 54, 55, 56, 57, 58, 59, 60, 61, 62, 63, 64, 65, 66, 67, 68, 69, 70, 71, 72, 73, 74, 75, 76, 77, 78, 79, 80, 81, 82, 83, 84, 85, 86, 87, 88, 89, 90, 91, 101, 102] 103 rfl (by subst eHS4; rfl) rfl (by subst eHS4; rfl) rfl (by decide +kernel) (by decide +kernel) rfl (fun H locs G => ?_)
    refine lv_aload_n hx hb dX0_push_16 rfl (lv_at hl 0 rfl) ?_
    refine r_get X inw_X0 G 0 rfl rfl 1 (by decide) fl_X0_19 (v := .ref (aHI 1)) rfl dX0_push_17 ?_
    refine lv_aload_n hx hb dX0_push_20 rfl (lv_at hl 0 rfl) ?_
    refine r_get X inw_X0 G 0 rfl rfl 2 (by decide) fl_X0_23 (v := .int (Hi_next HI)) rfl dX0_push_21 ?_
    refine r_top (congrArg Value.int ex1) ?_
    obtain ⟨h5, hf⟩ := ix_some hf
    refine r_aldq X G 2 4 rfl rfl h5 (v := .ref (aHI 13)) (by rw [hnx1]; rfl) dX0_push_24 ?_
    refine lv_aload_n hx hb dX0_push_25 rfl (lv_at hl 1 rfl) ?_
    refine r_get X inw_X8 G 91 rfl rfl 2 (by decide) fl_X0_42 (v := .ref (aWD 2)) rfl dX0_push_26 ?_
    obtain ⟨r6, hcr6, hf⟩ := bd_some hf
    obtain ⟨HK7, eHK7, hf⟩ := nm_some hf
    refine p_N (st1 := []) (wr := kHi k ot aHI (HI) ++ (kHS k (fun i => aHI (2 + i)) aHS (HS4) ++ (kSk k (aHI 10) (aHK 0) (HK 0) ++ (kSk k (aHI 11) (aHK 1) (HK 1) ++ (kSk k (aHI 12) (aHK 2) (HK 2) ++ (kSk k (aHI 14) (aHK 4) (HK 4) ++ (kSk k (aHI 15) (aHK 5) (HK 5) ++ (kSk k (aHI 16) (aHK 6) (HK 6) ++ (kSk k (aHI 17) (aHK 7) (HK 7) ++ (kWd k o1 aWD (WD) ++ (kSc k (aWD 1) aSC (SC)))))))))))) (ws' := kHi k ot aHI (HI) ++ (kHS k (fun i => aHI (2 + i)) aHS (HS4) ++ (kHK k (fun i => aHI (10 + i)) aHK (HK7) ++ (kWd k o1 aWD (WD) ++ (kSc k (aWD 1) aSC (SC) ++ (kSk k (aWD 2) aSK (SK))))))) (run_V (rest := []) X (ctX4_take hZ (aHI 13) (aWD 2) (aHK 3) aSK hcr6) mk_X4_take ml_X0_45 ⟨(Nat.le_of_ble_eq_true rfl), (Nat.le_of_ble_eq_true rfl)⟩ G [81, 82, 101, 102] rfl rfl 81 rfl rfl rfl hl.1 rfl (Nat.le_of_ble_eq_true rfl) dX0_push_29 ⟨Nat.zero_le _, Nat.zero_le _⟩) rfl G [81, 82, 101, 102] [0, 1, 2, 3, 4, 5, 6, 7, 8, 9, 10, 11, 12, 13, 14, 15, 16, 17, 18, 19, 20, 21, 22, 23, 24, 25, 26, 27, 28, 29, 30, 31, 32, 33, 34, 35, 36, 37, 38, 39, 40, 41, 42, 43, 44, 45, 46, 47, 48, 49, 50, 51, 52, 53, 54, 55, 56, 57, 58, 59, 60, 61, 62, 63, 64, 65, 66, 67, 68, 69, 70, 71, 72, 73, 74, 75, 76, 77, 78, 79, 80, 83, 84, 85, 86, 87, 88, 89, 90, 91, 92, 93, 94, 95, 96, 97, 98, 99, 100] 103 rfl (by subst eHK7; rfl) rfl (by subst eHK7; rfl) rfl (by decide +kernel) (by decide +kernel) rfl (fun H locs G => ?_)
    refine lv_aload_n hx hb dX0_push_32 rfl (lv_at hl 0 rfl) ?_
    refine lv_aload_n hx hb dX0_push_33 rfl (lv_at hl 0 rfl) ?_
    refine r_get X inw_X0 G 0 rfl rfl 2 (by decide) fl_X0_23 (v := .int (Hi_next HI)) rfl dX0_push_34 ?_
    refine lv_iconst (v := 1) hx hb dX0_push_37 (by decide) ?_
    refine lv_iadd hx hb dX0_push_38 ?_
    refine lv_bipush (v := 8) hx hb dX0_push_39 (by decide) ?_
    refine lv_irem hx hb dX0_push_41 (by decide) ?_
    obtain ⟨HI8, eHI8, hf⟩ := nm_some hf
    refine r_put X inw_X0 tyX0 tyX0_ok nmX0 G 0 rfl rfl 2 (by decide) fl_X0_23 rfl rfl rfl (Nat.le_of_ble_eq_true rfl) (ws' := kHi k ot aHI (HI8) ++ (kHS k (fun i => aHI (2 + i)) aHS (HS4) ++ (kHK k (fun i => aHI (10 + i)) aHK (HK7) ++ (kWd k o1 aWD (WD) ++ (kSc k (aWD 1) aSC (SC) ++ (kSk k (aWD 2) aSK (SK))))))) (by subst eHI8; rfl) dX0_push_42 (fun H locs G => ?_)
    refine lv_aload_n hx hb dX0_push_45 rfl (lv_at hl 0 rfl) ?_
    refine lv_aload_n hx hb dX0_push_46 rfl (lv_at hl 0 rfl) ?_
    refine r_get X inw_X0 G 0 rfl rfl 3 (by decide) fl_X0_27 (v := .int (Hi_many HI8)) rfl dX0_push_47 ?_
    refine lv_iconst (v := 1) hx hb dX0_push_50 (by decide) ?_
    refine lv_iadd hx hb dX0_push_51 ?_
    refine lv_bipush (v := 8) hx hb dX0_push_52 (by decide) ?_
    refine r_min X mm_X0_48 (Nat.le_of_ble_eq_true rfl) (Nat.le_of_ble_eq_true rfl) (Nat.zero_le _) (Nat.zero_le _) dX0_push_54 hl.1 ?_
    obtain ⟨HI9, eHI9, hf⟩ := nm_some hf
    refine r_put X inw_X0 tyX0 tyX0_ok nmX0 G 0 rfl rfl 3 (by decide) fl_X0_27 rfl rfl rfl (Nat.le_of_ble_eq_true rfl) (ws' := kHi k ot aHI (HI9) ++ (kHS k (fun i => aHI (2 + i)) aHS (HS4) ++ (kHK k (fun i => aHI (10 + i)) aHK (HK7) ++ (kWd k o1 aWD (WD) ++ (kSc k (aWD 1) aSC (SC) ++ (kSk k (aWD 2) aSK (SK))))))) (by subst eHI9; rfl) dX0_push_57 (fun H locs G => ?_)
    cases hf
    exact e_mv X G dX0_push_60
  · rw [hnx1] at hf
    refine r_aldq X G 1 3 rfl rfl h2 (v := .ref (aHI 6)) (by rw [hnx1]; rfl) dX0_push_8 ?_
    refine lv_aload_n hx hb dX0_push_9 rfl (lv_at hl 1 rfl) ?_
    refine r_get X inw_X8 G 91 rfl rfl 1 (by decide) fl_X0_32 (v := .ref (aWD 1)) rfl dX0_push_10 ?_
    obtain ⟨r3, hcr3, hf⟩ := bd_some hf
    obtain ⟨HS4, eHS4, hf⟩ := nm_some hf
    refine p_N (st1 := []) (wr := kHi k ot aHI (HI) ++ (kSc k (aHI 2) (aHS 0) (HS 0) ++ (kSc k (aHI 3) (aHS 1) (HS 1) ++ (kSc k (aHI 4) (aHS 2) (HS 2) ++ (kSc k (aHI 5) (aHS 3) (HS 3) ++ (kSc k (aHI 7) (aHS 5) (HS 5) ++ (kSc k (aHI 8) (aHS 6) (HS 6) ++ (kSc k (aHI 9) (aHS 7) (HS 7) ++ (kHK k (fun i => aHI (10 + i)) aHK (HK) ++ (kWd k o1 aWD (WD) ++ (kSk k (aWD 2) aSK (SK)))))))))))) (ws' := kHi k ot aHI (HI) ++ (kHS k (fun i => aHI (2 + i)) aHS (HS4) ++ (kHK k (fun i => aHI (10 + i)) aHK (HK) ++ (kWd k o1 aWD (WD) ++ (kSc k (aWD 1) aSC (SC) ++ (kSk k (aWD 2) aSK (SK))))))) (run_V (rest := []) X (ctX3_take hZ (aHI 6) (aWD 1) (aHS 4) aSC hcr3) mk_X3_take ml_X0_38 ⟨(Nat.le_of_ble_eq_true rfl), (Nat.le_of_ble_eq_true rfl)⟩ G [39, 40, 41, 42, 43, 44, 45, 46, 47, 92, 93, 94, 95, 96, 97, 98, 99, 100] rfl rfl 39 rfl rfl rfl hl.1 rfl (Nat.le_of_ble_eq_true rfl) dX0_push_13 ⟨Nat.zero_le _, Nat.zero_le _⟩) rfl G [39, 40, 41, 42, 43, 44, 45, 46, 47, 92, 93, 94, 95, 96, 97, 98, 99, 100] [0, 1, 2, 3, 4, 5, 6, 7, 8, 9, 10, 11, 12, 13, 14, 15, 16, 17, 18, 19, 20, 21, 22, 23, 24, 25, 26, 27, 28, 29, 30, 31, 32, 33, 34, 35, 36, 37, 38, 48, 49, 50, 51, 52, 53, 54, 55, 56, 57, 58, 59, 60, 61, 62, 63, 64, 65, 66, 67, 68, 69, 70, 71, 72, 73, 74, 75, 76, 77, 78, 79, 80, 81, 82, 83, 84, 85, 86, 87, 88, 89, 90, 91, 101, 102] 103 rfl (by subst eHS4; rfl) rfl (by subst eHS4; rfl) rfl (by decide +kernel) (by decide +kernel) rfl (fun H locs G => ?_)
    refine lv_aload_n hx hb dX0_push_16 rfl (lv_at hl 0 rfl) ?_
    refine r_get X inw_X0 G 0 rfl rfl 1 (by decide) fl_X0_19 (v := .ref (aHI 1)) rfl dX0_push_17 ?_
    refine lv_aload_n hx hb dX0_push_20 rfl (lv_at hl 0 rfl) ?_
    refine r_get X inw_X0 G 0 rfl rfl 2 (by decide) fl_X0_23 (v := .int (Hi_next HI)) rfl dX0_push_21 ?_
    refine r_top (congrArg Value.int ex1) ?_
    obtain ⟨h5, hf⟩ := ix_some hf
    refine r_aldq X G 2 4 rfl rfl h5 (v := .ref (aHI 14)) (by rw [hnx1]; rfl) dX0_push_24 ?_
    refine lv_aload_n hx hb dX0_push_25 rfl (lv_at hl 1 rfl) ?_
    refine r_get X inw_X8 G 91 rfl rfl 2 (by decide) fl_X0_42 (v := .ref (aWD 2)) rfl dX0_push_26 ?_
    obtain ⟨r6, hcr6, hf⟩ := bd_some hf
    obtain ⟨HK7, eHK7, hf⟩ := nm_some hf
    refine p_N (st1 := []) (wr := kHi k ot aHI (HI) ++ (kHS k (fun i => aHI (2 + i)) aHS (HS4) ++ (kSk k (aHI 10) (aHK 0) (HK 0) ++ (kSk k (aHI 11) (aHK 1) (HK 1) ++ (kSk k (aHI 12) (aHK 2) (HK 2) ++ (kSk k (aHI 13) (aHK 3) (HK 3) ++ (kSk k (aHI 15) (aHK 5) (HK 5) ++ (kSk k (aHI 16) (aHK 6) (HK 6) ++ (kSk k (aHI 17) (aHK 7) (HK 7) ++ (kWd k o1 aWD (WD) ++ (kSc k (aWD 1) aSC (SC)))))))))))) (ws' := kHi k ot aHI (HI) ++ (kHS k (fun i => aHI (2 + i)) aHS (HS4) ++ (kHK k (fun i => aHI (10 + i)) aHK (HK7) ++ (kWd k o1 aWD (WD) ++ (kSc k (aWD 1) aSC (SC) ++ (kSk k (aWD 2) aSK (SK))))))) (run_V (rest := []) X (ctX4_take hZ (aHI 14) (aWD 2) (aHK 4) aSK hcr6) mk_X4_take ml_X0_45 ⟨(Nat.le_of_ble_eq_true rfl), (Nat.le_of_ble_eq_true rfl)⟩ G [83, 84, 101, 102] rfl rfl 83 rfl rfl rfl hl.1 rfl (Nat.le_of_ble_eq_true rfl) dX0_push_29 ⟨Nat.zero_le _, Nat.zero_le _⟩) rfl G [83, 84, 101, 102] [0, 1, 2, 3, 4, 5, 6, 7, 8, 9, 10, 11, 12, 13, 14, 15, 16, 17, 18, 19, 20, 21, 22, 23, 24, 25, 26, 27, 28, 29, 30, 31, 32, 33, 34, 35, 36, 37, 38, 39, 40, 41, 42, 43, 44, 45, 46, 47, 48, 49, 50, 51, 52, 53, 54, 55, 56, 57, 58, 59, 60, 61, 62, 63, 64, 65, 66, 67, 68, 69, 70, 71, 72, 73, 74, 75, 76, 77, 78, 79, 80, 81, 82, 85, 86, 87, 88, 89, 90, 91, 92, 93, 94, 95, 96, 97, 98, 99, 100] 103 rfl (by subst eHK7; rfl) rfl (by subst eHK7; rfl) rfl (by decide +kernel) (by decide +kernel) rfl (fun H locs G => ?_)
    refine lv_aload_n hx hb dX0_push_32 rfl (lv_at hl 0 rfl) ?_
    refine lv_aload_n hx hb dX0_push_33 rfl (lv_at hl 0 rfl) ?_
    refine r_get X inw_X0 G 0 rfl rfl 2 (by decide) fl_X0_23 (v := .int (Hi_next HI)) rfl dX0_push_34 ?_
    refine lv_iconst (v := 1) hx hb dX0_push_37 (by decide) ?_
    refine lv_iadd hx hb dX0_push_38 ?_
    refine lv_bipush (v := 8) hx hb dX0_push_39 (by decide) ?_
    refine lv_irem hx hb dX0_push_41 (by decide) ?_
    obtain ⟨HI8, eHI8, hf⟩ := nm_some hf
    refine r_put X inw_X0 tyX0 tyX0_ok nmX0 G 0 rfl rfl 2 (by decide) fl_X0_23 rfl rfl rfl (Nat.le_of_ble_eq_true rfl) (ws' := kHi k ot aHI (HI8) ++ (kHS k (fun i => aHI (2 + i)) aHS (HS4) ++ (kHK k (fun i => aHI (10 + i)) aHK (HK7) ++ (kWd k o1 aWD (WD) ++ (kSc k (aWD 1) aSC (SC) ++ (kSk k (aWD 2) aSK (SK))))))) (by subst eHI8; rfl) dX0_push_42 (fun H locs G => ?_)
    refine lv_aload_n hx hb dX0_push_45 rfl (lv_at hl 0 rfl) ?_
    refine lv_aload_n hx hb dX0_push_46 rfl (lv_at hl 0 rfl) ?_
    refine r_get X inw_X0 G 0 rfl rfl 3 (by decide) fl_X0_27 (v := .int (Hi_many HI8)) rfl dX0_push_47 ?_
    refine lv_iconst (v := 1) hx hb dX0_push_50 (by decide) ?_
    refine lv_iadd hx hb dX0_push_51 ?_
    refine lv_bipush (v := 8) hx hb dX0_push_52 (by decide) ?_
    refine r_min X mm_X0_48 (Nat.le_of_ble_eq_true rfl) (Nat.le_of_ble_eq_true rfl) (Nat.zero_le _) (Nat.zero_le _) dX0_push_54 hl.1 ?_
    obtain ⟨HI9, eHI9, hf⟩ := nm_some hf
    refine r_put X inw_X0 tyX0 tyX0_ok nmX0 G 0 rfl rfl 3 (by decide) fl_X0_27 rfl rfl rfl (Nat.le_of_ble_eq_true rfl) (ws' := kHi k ot aHI (HI9) ++ (kHS k (fun i => aHI (2 + i)) aHS (HS4) ++ (kHK k (fun i => aHI (10 + i)) aHK (HK7) ++ (kWd k o1 aWD (WD) ++ (kSc k (aWD 1) aSC (SC) ++ (kSk k (aWD 2) aSK (SK))))))) (by subst eHI9; rfl) dX0_push_57 (fun H locs G => ?_)
    cases hf
    exact e_mv X G dX0_push_60
  · rw [hnx1] at hf
    refine r_aldq X G 1 3 rfl rfl h2 (v := .ref (aHI 7)) (by rw [hnx1]; rfl) dX0_push_8 ?_
    refine lv_aload_n hx hb dX0_push_9 rfl (lv_at hl 1 rfl) ?_
    refine r_get X inw_X8 G 91 rfl rfl 1 (by decide) fl_X0_32 (v := .ref (aWD 1)) rfl dX0_push_10 ?_
    obtain ⟨r3, hcr3, hf⟩ := bd_some hf
    obtain ⟨HS4, eHS4, hf⟩ := nm_some hf
    refine p_N (st1 := []) (wr := kHi k ot aHI (HI) ++ (kSc k (aHI 2) (aHS 0) (HS 0) ++ (kSc k (aHI 3) (aHS 1) (HS 1) ++ (kSc k (aHI 4) (aHS 2) (HS 2) ++ (kSc k (aHI 5) (aHS 3) (HS 3) ++ (kSc k (aHI 6) (aHS 4) (HS 4) ++ (kSc k (aHI 8) (aHS 6) (HS 6) ++ (kSc k (aHI 9) (aHS 7) (HS 7) ++ (kHK k (fun i => aHI (10 + i)) aHK (HK) ++ (kWd k o1 aWD (WD) ++ (kSk k (aWD 2) aSK (SK)))))))))))) (ws' := kHi k ot aHI (HI) ++ (kHS k (fun i => aHI (2 + i)) aHS (HS4) ++ (kHK k (fun i => aHI (10 + i)) aHK (HK) ++ (kWd k o1 aWD (WD) ++ (kSc k (aWD 1) aSC (SC) ++ (kSk k (aWD 2) aSK (SK))))))) (run_V (rest := []) X (ctX3_take hZ (aHI 7) (aWD 1) (aHS 5) aSC hcr3) mk_X3_take ml_X0_38 ⟨(Nat.le_of_ble_eq_true rfl), (Nat.le_of_ble_eq_true rfl)⟩ G [48, 49, 50, 51, 52, 53, 54, 55, 56, 92, 93, 94, 95, 96, 97, 98, 99, 100] rfl rfl 48 rfl rfl rfl hl.1 rfl (Nat.le_of_ble_eq_true rfl) dX0_push_13 ⟨Nat.zero_le _, Nat.zero_le _⟩) rfl G [48, 49, 50, 51, 52, 53, 54, 55, 56, 92, 93, 94, 95, 96, 97, 98, 99, 100] [0, 1, 2, 3, 4, 5, 6, 7, 8, 9, 10, 11, 12, 13, 14, 15, 16, 17, 18, 19, 20, 21, 22, 23, 24, 25, 26, 27, 28, 29, 30, 31, 32, 33, 34, 35, 36, 37, 38, 39, 40, 41, 42, 43, 44, 45, 46, 47, 57, 58, 59, 60, 61, 62, 63, 64, 65, 66, 67, 68, 69, 70, 71, 72, 73, 74, 75, 76, 77, 78, 79, 80, 81, 82, 83, 84, 85, 86, 87, 88, 89, 90, 91, 101, 102] 103 rfl (by subst eHS4; rfl) rfl (by subst eHS4; rfl) rfl (by decide +kernel) (by decide +kernel) rfl (fun H locs G => ?_)
    refine lv_aload_n hx hb dX0_push_16 rfl (lv_at hl 0 rfl) ?_
    refine r_get X inw_X0 G 0 rfl rfl 1 (by decide) fl_X0_19 (v := .ref (aHI 1)) rfl dX0_push_17 ?_
    refine lv_aload_n hx hb dX0_push_20 rfl (lv_at hl 0 rfl) ?_
    refine r_get X inw_X0 G 0 rfl rfl 2 (by decide) fl_X0_23 (v := .int (Hi_next HI)) rfl dX0_push_21 ?_
    refine r_top (congrArg Value.int ex1) ?_
    obtain ⟨h5, hf⟩ := ix_some hf
    refine r_aldq X G 2 4 rfl rfl h5 (v := .ref (aHI 15)) (by rw [hnx1]; rfl) dX0_push_24 ?_
    refine lv_aload_n hx hb dX0_push_25 rfl (lv_at hl 1 rfl) ?_
    refine r_get X inw_X8 G 91 rfl rfl 2 (by decide) fl_X0_42 (v := .ref (aWD 2)) rfl dX0_push_26 ?_
    obtain ⟨r6, hcr6, hf⟩ := bd_some hf
    obtain ⟨HK7, eHK7, hf⟩ := nm_some hf
    refine p_N (st1 := []) (wr := kHi k ot aHI (HI) ++ (kHS k (fun i => aHI (2 + i)) aHS (HS4) ++ (kSk k (aHI 10) (aHK 0) (HK 0) ++ (kSk k (aHI 11) (aHK 1) (HK 1) ++ (kSk k (aHI 12) (aHK 2) (HK 2) ++ (kSk k (aHI 13) (aHK 3) (HK 3) ++ (kSk k (aHI 14) (aHK 4) (HK 4) ++ (kSk k (aHI 16) (aHK 6) (HK 6) ++ (kSk k (aHI 17) (aHK 7) (HK 7) ++ (kWd k o1 aWD (WD) ++ (kSc k (aWD 1) aSC (SC)))))))))))) (ws' := kHi k ot aHI (HI) ++ (kHS k (fun i => aHI (2 + i)) aHS (HS4) ++ (kHK k (fun i => aHI (10 + i)) aHK (HK7) ++ (kWd k o1 aWD (WD) ++ (kSc k (aWD 1) aSC (SC) ++ (kSk k (aWD 2) aSK (SK))))))) (run_V (rest := []) X (ctX4_take hZ (aHI 15) (aWD 2) (aHK 5) aSK hcr6) mk_X4_take ml_X0_45 ⟨(Nat.le_of_ble_eq_true rfl), (Nat.le_of_ble_eq_true rfl)⟩ G [85, 86, 101, 102] rfl rfl 85 rfl rfl rfl hl.1 rfl (Nat.le_of_ble_eq_true rfl) dX0_push_29 ⟨Nat.zero_le _, Nat.zero_le _⟩) rfl G [85, 86, 101, 102] [0, 1, 2, 3, 4, 5, 6, 7, 8, 9, 10, 11, 12, 13, 14, 15, 16, 17, 18, 19, 20, 21, 22, 23, 24, 25, 26, 27, 28, 29, 30, 31, 32, 33, 34, 35, 36, 37, 38, 39, 40, 41, 42, 43, 44, 45, 46, 47, 48, 49, 50, 51, 52, 53, 54, 55, 56, 57, 58, 59, 60, 61, 62, 63, 64, 65, 66, 67, 68, 69, 70, 71, 72, 73, 74, 75, 76, 77, 78, 79, 80, 81, 82, 83, 84, 87, 88, 89, 90, 91, 92, 93, 94, 95, 96, 97, 98, 99, 100] 103 rfl (by subst eHK7; rfl) rfl (by subst eHK7; rfl) rfl (by decide +kernel) (by decide +kernel) rfl (fun H locs G => ?_)
    refine lv_aload_n hx hb dX0_push_32 rfl (lv_at hl 0 rfl) ?_
    refine lv_aload_n hx hb dX0_push_33 rfl (lv_at hl 0 rfl) ?_
    refine r_get X inw_X0 G 0 rfl rfl 2 (by decide) fl_X0_23 (v := .int (Hi_next HI)) rfl dX0_push_34 ?_
    refine lv_iconst (v := 1) hx hb dX0_push_37 (by decide) ?_
    refine lv_iadd hx hb dX0_push_38 ?_
    refine lv_bipush (v := 8) hx hb dX0_push_39 (by decide) ?_
    refine lv_irem hx hb dX0_push_41 (by decide) ?_
    obtain ⟨HI8, eHI8, hf⟩ := nm_some hf
    refine r_put X inw_X0 tyX0 tyX0_ok nmX0 G 0 rfl rfl 2 (by decide) fl_X0_23 rfl rfl rfl (Nat.le_of_ble_eq_true rfl) (ws' := kHi k ot aHI (HI8) ++ (kHS k (fun i => aHI (2 + i)) aHS (HS4) ++ (kHK k (fun i => aHI (10 + i)) aHK (HK7) ++ (kWd k o1 aWD (WD) ++ (kSc k (aWD 1) aSC (SC) ++ (kSk k (aWD 2) aSK (SK))))))) (by subst eHI8; rfl) dX0_push_42 (fun H locs G => ?_)
    refine lv_aload_n hx hb dX0_push_45 rfl (lv_at hl 0 rfl) ?_
    refine lv_aload_n hx hb dX0_push_46 rfl (lv_at hl 0 rfl) ?_
    refine r_get X inw_X0 G 0 rfl rfl 3 (by decide) fl_X0_27 (v := .int (Hi_many HI8)) rfl dX0_push_47 ?_
    refine lv_iconst (v := 1) hx hb dX0_push_50 (by decide) ?_
    refine lv_iadd hx hb dX0_push_51 ?_
    refine lv_bipush (v := 8) hx hb dX0_push_52 (by decide) ?_
    refine r_min X mm_X0_48 (Nat.le_of_ble_eq_true rfl) (Nat.le_of_ble_eq_true rfl) (Nat.zero_le _) (Nat.zero_le _) dX0_push_54 hl.1 ?_
    obtain ⟨HI9, eHI9, hf⟩ := nm_some hf
    refine r_put X inw_X0 tyX0 tyX0_ok nmX0 G 0 rfl rfl 3 (by decide) fl_X0_27 rfl rfl rfl (Nat.le_of_ble_eq_true rfl) (ws' := kHi k ot aHI (HI9) ++ (kHS k (fun i => aHI (2 + i)) aHS (HS4) ++ (kHK k (fun i => aHI (10 + i)) aHK (HK7) ++ (kWd k o1 aWD (WD) ++ (kSc k (aWD 1) aSC (SC) ++ (kSk k (aWD 2) aSK (SK))))))) (by subst eHI9; rfl) dX0_push_57 (fun H locs G => ?_)
    cases hf
    exact e_mv X G dX0_push_60
  · rw [hnx1] at hf
    refine r_aldq X G 1 3 rfl rfl h2 (v := .ref (aHI 8)) (by rw [hnx1]; rfl) dX0_push_8 ?_
    refine lv_aload_n hx hb dX0_push_9 rfl (lv_at hl 1 rfl) ?_
    refine r_get X inw_X8 G 91 rfl rfl 1 (by decide) fl_X0_32 (v := .ref (aWD 1)) rfl dX0_push_10 ?_
    obtain ⟨r3, hcr3, hf⟩ := bd_some hf
    obtain ⟨HS4, eHS4, hf⟩ := nm_some hf
    refine p_N (st1 := []) (wr := kHi k ot aHI (HI) ++ (kSc k (aHI 2) (aHS 0) (HS 0) ++ (kSc k (aHI 3) (aHS 1) (HS 1) ++ (kSc k (aHI 4) (aHS 2) (HS 2) ++ (kSc k (aHI 5) (aHS 3) (HS 3) ++ (kSc k (aHI 6) (aHS 4) (HS 4) ++ (kSc k (aHI 7) (aHS 5) (HS 5) ++ (kSc k (aHI 9) (aHS 7) (HS 7) ++ (kHK k (fun i => aHI (10 + i)) aHK (HK) ++ (kWd k o1 aWD (WD) ++ (kSk k (aWD 2) aSK (SK)))))))))))) (ws' := kHi k ot aHI (HI) ++ (kHS k (fun i => aHI (2 + i)) aHS (HS4) ++ (kHK k (fun i => aHI (10 + i)) aHK (HK) ++ (kWd k o1 aWD (WD) ++ (kSc k (aWD 1) aSC (SC) ++ (kSk k (aWD 2) aSK (SK))))))) (run_V (rest := []) X (ctX3_take hZ (aHI 8) (aWD 1) (aHS 6) aSC hcr3) mk_X3_take ml_X0_38 ⟨(Nat.le_of_ble_eq_true rfl), (Nat.le_of_ble_eq_true rfl)⟩ G [57, 58, 59, 60, 61, 62, 63, 64, 65, 92, 93, 94, 95, 96, 97, 98, 99, 100] rfl rfl 57 rfl rfl rfl hl.1 rfl (Nat.le_of_ble_eq_true rfl) dX0_push_13 ⟨Nat.zero_le _, Nat.zero_le _⟩) rfl G [57, 58, 59, 60, 61, 62, 63, 64, 65, 92, 93, 94, 95, 96, 97, 98, 99, 100] [0, 1, 2, 3, 4, 5, 6, 7, 8, 9, 10, 11, 12, 13, 14, 15, 16, 17, 18, 19, 20, 21, 22, 23, 24, 25, 26, 27, 28, 29, 30, 31, 32, 33, 34, 35, 36, 37, 38, 39, 40, 41, 42, 43, 44, 45, 46, 47, 48, 49, 50, 51, 52, 53, 54, 55, 56, 66, 67, 68, 69, 70, 71, 72, 73, 74, 75, 76, 77, 78, 79, 80, 81, 82, 83, 84, 85, 86, 87, 88, 89, 90, 91, 101, 102] 103 rfl (by subst eHS4; rfl) rfl (by subst eHS4; rfl) rfl (by decide +kernel) (by decide +kernel) rfl (fun H locs G => ?_)
    refine lv_aload_n hx hb dX0_push_16 rfl (lv_at hl 0 rfl) ?_
    refine r_get X inw_X0 G 0 rfl rfl 1 (by decide) fl_X0_19 (v := .ref (aHI 1)) rfl dX0_push_17 ?_
    refine lv_aload_n hx hb dX0_push_20 rfl (lv_at hl 0 rfl) ?_
    refine r_get X inw_X0 G 0 rfl rfl 2 (by decide) fl_X0_23 (v := .int (Hi_next HI)) rfl dX0_push_21 ?_
    refine r_top (congrArg Value.int ex1) ?_
    obtain ⟨h5, hf⟩ := ix_some hf
    refine r_aldq X G 2 4 rfl rfl h5 (v := .ref (aHI 16)) (by rw [hnx1]; rfl) dX0_push_24 ?_
    refine lv_aload_n hx hb dX0_push_25 rfl (lv_at hl 1 rfl) ?_
    refine r_get X inw_X8 G 91 rfl rfl 2 (by decide) fl_X0_42 (v := .ref (aWD 2)) rfl dX0_push_26 ?_
    obtain ⟨r6, hcr6, hf⟩ := bd_some hf
    obtain ⟨HK7, eHK7, hf⟩ := nm_some hf
    refine p_N (st1 := []) (wr := kHi k ot aHI (HI) ++ (kHS k (fun i => aHI (2 + i)) aHS (HS4) ++ (kSk k (aHI 10) (aHK 0) (HK 0) ++ (kSk k (aHI 11) (aHK 1) (HK 1) ++ (kSk k (aHI 12) (aHK 2) (HK 2) ++ (kSk k (aHI 13) (aHK 3) (HK 3) ++ (kSk k (aHI 14) (aHK 4) (HK 4) ++ (kSk k (aHI 15) (aHK 5) (HK 5) ++ (kSk k (aHI 17) (aHK 7) (HK 7) ++ (kWd k o1 aWD (WD) ++ (kSc k (aWD 1) aSC (SC)))))))))))) (ws' := kHi k ot aHI (HI) ++ (kHS k (fun i => aHI (2 + i)) aHS (HS4) ++ (kHK k (fun i => aHI (10 + i)) aHK (HK7) ++ (kWd k o1 aWD (WD) ++ (kSc k (aWD 1) aSC (SC) ++ (kSk k (aWD 2) aSK (SK))))))) (run_V (rest := []) X (ctX4_take hZ (aHI 16) (aWD 2) (aHK 6) aSK hcr6) mk_X4_take ml_X0_45 ⟨(Nat.le_of_ble_eq_true rfl), (Nat.le_of_ble_eq_true rfl)⟩ G [87, 88, 101, 102] rfl rfl 87 rfl rfl rfl hl.1 rfl (Nat.le_of_ble_eq_true rfl) dX0_push_29 ⟨Nat.zero_le _, Nat.zero_le _⟩) rfl G [87, 88, 101, 102] [0, 1, 2, 3, 4, 5, 6, 7, 8, 9, 10, 11, 12, 13, 14, 15, 16, 17, 18, 19, 20, 21, 22, 23, 24, 25, 26, 27, 28, 29, 30, 31, 32, 33, 34, 35, 36, 37, 38, 39, 40, 41, 42, 43, 44, 45, 46, 47, 48, 49, 50, 51, 52, 53, 54, 55, 56, 57, 58, 59, 60, 61, 62, 63, 64, 65, 66, 67, 68, 69, 70, 71, 72, 73, 74, 75, 76, 77, 78, 79, 80, 81, 82, 83, 84, 85, 86, 89, 90, 91, 92, 93, 94, 95, 96, 97, 98, 99, 100] 103 rfl (by subst eHK7; rfl) rfl (by subst eHK7; rfl) rfl (by decide +kernel) (by decide +kernel) rfl (fun H locs G => ?_)
    refine lv_aload_n hx hb dX0_push_32 rfl (lv_at hl 0 rfl) ?_
    refine lv_aload_n hx hb dX0_push_33 rfl (lv_at hl 0 rfl) ?_
    refine r_get X inw_X0 G 0 rfl rfl 2 (by decide) fl_X0_23 (v := .int (Hi_next HI)) rfl dX0_push_34 ?_
    refine lv_iconst (v := 1) hx hb dX0_push_37 (by decide) ?_
    refine lv_iadd hx hb dX0_push_38 ?_
    refine lv_bipush (v := 8) hx hb dX0_push_39 (by decide) ?_
    refine lv_irem hx hb dX0_push_41 (by decide) ?_
    obtain ⟨HI8, eHI8, hf⟩ := nm_some hf
    refine r_put X inw_X0 tyX0 tyX0_ok nmX0 G 0 rfl rfl 2 (by decide) fl_X0_23 rfl rfl rfl (Nat.le_of_ble_eq_true rfl) (ws' := kHi k ot aHI (HI8) ++ (kHS k (fun i => aHI (2 + i)) aHS (HS4) ++ (kHK k (fun i => aHI (10 + i)) aHK (HK7) ++ (kWd k o1 aWD (WD) ++ (kSc k (aWD 1) aSC (SC) ++ (kSk k (aWD 2) aSK (SK))))))) (by subst eHI8; rfl) dX0_push_42 (fun H locs G => ?_)
    refine lv_aload_n hx hb dX0_push_45 rfl (lv_at hl 0 rfl) ?_
    refine lv_aload_n hx hb dX0_push_46 rfl (lv_at hl 0 rfl) ?_
    refine r_get X inw_X0 G 0 rfl rfl 3 (by decide) fl_X0_27 (v := .int (Hi_many HI8)) rfl dX0_push_47 ?_
    refine lv_iconst (v := 1) hx hb dX0_push_50 (by decide) ?_
    refine lv_iadd hx hb dX0_push_51 ?_
    refine lv_bipush (v := 8) hx hb dX0_push_52 (by decide) ?_
    refine r_min X mm_X0_48 (Nat.le_of_ble_eq_true rfl) (Nat.le_of_ble_eq_true rfl) (Nat.zero_le _) (Nat.zero_le _) dX0_push_54 hl.1 ?_
    obtain ⟨HI9, eHI9, hf⟩ := nm_some hf
    refine r_put X inw_X0 tyX0 tyX0_ok nmX0 G 0 rfl rfl 3 (by decide) fl_X0_27 rfl rfl rfl (Nat.le_of_ble_eq_true rfl) (ws' := kHi k ot aHI (HI9) ++ (kHS k (fun i => aHI (2 + i)) aHS (HS4) ++ (kHK k (fun i => aHI (10 + i)) aHK (HK7) ++ (kWd k o1 aWD (WD) ++ (kSc k (aWD 1) aSC (SC) ++ (kSk k (aWD 2) aSK (SK))))))) (by subst eHI9; rfl) dX0_push_57 (fun H locs G => ?_)
    cases hf
    exact e_mv X G dX0_push_60
  · rw [hnx1] at hf
    refine r_aldq X G 1 3 rfl rfl h2 (v := .ref (aHI 9)) (by rw [hnx1]; rfl) dX0_push_8 ?_
    refine lv_aload_n hx hb dX0_push_9 rfl (lv_at hl 1 rfl) ?_
    refine r_get X inw_X8 G 91 rfl rfl 1 (by decide) fl_X0_32 (v := .ref (aWD 1)) rfl dX0_push_10 ?_
    obtain ⟨r3, hcr3, hf⟩ := bd_some hf
    obtain ⟨HS4, eHS4, hf⟩ := nm_some hf
    refine p_N (st1 := []) (wr := kHi k ot aHI (HI) ++ (kSc k (aHI 2) (aHS 0) (HS 0) ++ (kSc k (aHI 3) (aHS 1) (HS 1) ++ (kSc k (aHI 4) (aHS 2) (HS 2) ++ (kSc k (aHI 5) (aHS 3) (HS 3) ++ (kSc k (aHI 6) (aHS 4) (HS 4) ++ (kSc k (aHI 7) (aHS 5) (HS 5) ++ (kSc k (aHI 8) (aHS 6) (HS 6) ++ (kHK k (fun i => aHI (10 + i)) aHK (HK) ++ (kWd k o1 aWD (WD) ++ (kSk k (aWD 2) aSK (SK)))))))))))) (ws' := kHi k ot aHI (HI) ++ (kHS k (fun i => aHI (2 + i)) aHS (HS4) ++ (kHK k (fun i => aHI (10 + i)) aHK (HK) ++ (kWd k o1 aWD (WD) ++ (kSc k (aWD 1) aSC (SC) ++ (kSk k (aWD 2) aSK (SK))))))) (run_V (rest := []) X (ctX3_take hZ (aHI 9) (aWD 1) (aHS 7) aSC hcr3) mk_X3_take ml_X0_38 ⟨(Nat.le_of_ble_eq_true rfl), (Nat.le_of_ble_eq_true rfl)⟩ G [66, 67, 68, 69, 70, 71, 72, 73, 74, 92, 93, 94, 95, 96, 97, 98, 99, 100] rfl rfl 66 rfl rfl rfl hl.1 rfl (Nat.le_of_ble_eq_true rfl) dX0_push_13 ⟨Nat.zero_le _, Nat.zero_le _⟩) rfl G [66, 67, 68, 69, 70, 71, 72, 73, 74, 92, 93, 94, 95, 96, 97, 98, 99, 100] [0, 1, 2, 3, 4, 5, 6, 7, 8, 9, 10, 11, 12, 13, 14, 15, 16, 17, 18, 19, 20, 21, 22, 23, 24, 25, 26, 27, 28, 29, 30, 31, 32, 33, 34, 35, 36, 37, 38, 39, 40, 41, 42, 43, 44, 45, 46, 47, 48, 49, 50, 51, 52, 53, 54, 55, 56, 57, 58, 59, 60, 61, 62, 63, 64, 65, 75, 76, 77, 78, 79, 80, 81, 82, 83, 84, 85, 86, 87, 88, 89, 90, 91, 101, 102] 103 rfl (by subst eHS4; rfl) rfl (by subst eHS4; rfl) rfl (by decide +kernel) (by decide +kernel) rfl (fun H locs G => ?_)
    refine lv_aload_n hx hb dX0_push_16 rfl (lv_at hl 0 rfl) ?_
    refine r_get X inw_X0 G 0 rfl rfl 1 (by decide) fl_X0_19 (v := .ref (aHI 1)) rfl dX0_push_17 ?_
    refine lv_aload_n hx hb dX0_push_20 rfl (lv_at hl 0 rfl) ?_
    refine r_get X inw_X0 G 0 rfl rfl 2 (by decide) fl_X0_23 (v := .int (Hi_next HI)) rfl dX0_push_21 ?_
    refine r_top (congrArg Value.int ex1) ?_
    obtain ⟨h5, hf⟩ := ix_some hf
    refine r_aldq X G 2 4 rfl rfl h5 (v := .ref (aHI 17)) (by rw [hnx1]; rfl) dX0_push_24 ?_
    refine lv_aload_n hx hb dX0_push_25 rfl (lv_at hl 1 rfl) ?_
    refine r_get X inw_X8 G 91 rfl rfl 2 (by decide) fl_X0_42 (v := .ref (aWD 2)) rfl dX0_push_26 ?_
    obtain ⟨r6, hcr6, hf⟩ := bd_some hf
    obtain ⟨HK7, eHK7, hf⟩ := nm_some hf
    refine p_N (st1 := []) (wr := kHi k ot aHI (HI) ++ (kHS k (fun i => aHI (2 + i)) aHS (HS4) ++ (kSk k (aHI 10) (aHK 0) (HK 0) ++ (kSk k (aHI 11) (aHK 1) (HK 1) ++ (kSk k (aHI 12) (aHK 2) (HK 2) ++ (kSk k (aHI 13) (aHK 3) (HK 3) ++ (kSk k (aHI 14) (aHK 4) (HK 4) ++ (kSk k (aHI 15) (aHK 5) (HK 5) ++ (kSk k (aHI 16) (aHK 6) (HK 6) ++ (kWd k o1 aWD (WD) ++ (kSc k (aWD 1) aSC (SC)))))))))))) (ws' := kHi k ot aHI (HI) ++ (kHS k (fun i => aHI (2 + i)) aHS (HS4) ++ (kHK k (fun i => aHI (10 + i)) aHK (HK7) ++ (kWd k o1 aWD (WD) ++ (kSc k (aWD 1) aSC (SC) ++ (kSk k (aWD 2) aSK (SK))))))) (run_V (rest := []) X (ctX4_take hZ (aHI 17) (aWD 2) (aHK 7) aSK hcr6) mk_X4_take ml_X0_45 ⟨(Nat.le_of_ble_eq_true rfl), (Nat.le_of_ble_eq_true rfl)⟩ G [89, 90, 101, 102] rfl rfl 89 rfl rfl rfl hl.1 rfl (Nat.le_of_ble_eq_true rfl) dX0_push_29 ⟨Nat.zero_le _, Nat.zero_le _⟩) rfl G [89, 90, 101, 102] [0, 1, 2, 3, 4, 5, 6, 7, 8, 9, 10, 11, 12, 13, 14, 15, 16, 17, 18, 19, 20, 21, 22, 23, 24, 25, 26, 27, 28, 29, 30, 31, 32, 33, 34, 35, 36, 37, 38, 39, 40, 41, 42, 43, 44, 45, 46, 47, 48, 49, 50, 51, 52, 53, 54, 55, 56, 57, 58, 59, 60, 61, 62, 63, 64, 65, 66, 67, 68, 69, 70, 71, 72, 73, 74, 75, 76, 77, 78, 79, 80, 81, 82, 83, 84, 85, 86, 87, 88, 91, 92, 93, 94, 95, 96, 97, 98, 99, 100] 103 rfl (by subst eHK7; rfl) rfl (by subst eHK7; rfl) rfl (by decide +kernel) (by decide +kernel) rfl (fun H locs G => ?_)
    refine lv_aload_n hx hb dX0_push_32 rfl (lv_at hl 0 rfl) ?_
    refine lv_aload_n hx hb dX0_push_33 rfl (lv_at hl 0 rfl) ?_
    refine r_get X inw_X0 G 0 rfl rfl 2 (by decide) fl_X0_23 (v := .int (Hi_next HI)) rfl dX0_push_34 ?_
    refine lv_iconst (v := 1) hx hb dX0_push_37 (by decide) ?_
    refine lv_iadd hx hb dX0_push_38 ?_
    refine lv_bipush (v := 8) hx hb dX0_push_39 (by decide) ?_
    refine lv_irem hx hb dX0_push_41 (by decide) ?_
    obtain ⟨HI8, eHI8, hf⟩ := nm_some hf
    refine r_put X inw_X0 tyX0 tyX0_ok nmX0 G 0 rfl rfl 2 (by decide) fl_X0_23 rfl rfl rfl (Nat.le_of_ble_eq_true rfl) (ws' := kHi k ot aHI (HI8) ++ (kHS k (fun i => aHI (2 + i)) aHS (HS4) ++ (kHK k (fun i => aHI (10 + i)) aHK (HK7) ++ (kWd k o1 aWD (WD) ++ (kSc k (aWD 1) aSC (SC) ++ (kSk k (aWD 2) aSK (SK))))))) (by subst eHI8; rfl) dX0_push_42 (fun H locs G => ?_)
    refine lv_aload_n hx hb dX0_push_45 rfl (lv_at hl 0 rfl) ?_
    refine lv_aload_n hx hb dX0_push_46 rfl (lv_at hl 0 rfl) ?_
    refine r_get X inw_X0 G 0 rfl rfl 3 (by decide) fl_X0_27 (v := .int (Hi_many HI8)) rfl dX0_push_47 ?_
    refine lv_iconst (v := 1) hx hb dX0_push_50 (by decide) ?_
    refine lv_iadd hx hb dX0_push_51 ?_
    refine lv_bipush (v := 8) hx hb dX0_push_52 (by decide) ?_
    refine r_min X mm_X0_48 (Nat.le_of_ble_eq_true rfl) (Nat.le_of_ble_eq_true rfl) (Nat.zero_le _) (Nat.zero_le _) dX0_push_54 hl.1 ?_
    obtain ⟨HI9, eHI9, hf⟩ := nm_some hf
    refine r_put X inw_X0 tyX0 tyX0_ok nmX0 G 0 rfl rfl 3 (by decide) fl_X0_27 rfl rfl rfl (Nat.le_of_ble_eq_true rfl) (ws' := kHi k ot aHI (HI9) ++ (kHS k (fun i => aHI (2 + i)) aHS (HS4) ++ (kHK k (fun i => aHI (10 + i)) aHK (HK7) ++ (kWd k o1 aWD (WD) ++ (kSc k (aWD 1) aSC (SC) ++ (kSk k (aWD 2) aSK (SK))))))) (by subst eHI9; rfl) dX0_push_57 (fun H locs G => ?_)
    cases hf
    exact e_mv X G dX0_push_60
theorem mk_X0_push : MV yX0_push cX0_push 2 none 1 := ⟨co_X0_push, in_X0, im_X0_push, se_X0_push, by decide +kernel, by decide +kernel⟩
noncomputable def FX0_pop (HI : HiT) (HS : Nat → ScT) (HK : Nat → SkT) (WD : WdT) (SC : ScT) (SK : SkT) : Option (HiT × ScT × SkT) :=
  if (Hi_many HI) ≤ 0 then (
    some (HI, SC, SK)
  ) else (
    nm (sHi_many HI ((Hi_many HI) - (1 : Int32))) fun HI2 =>
    nm (sHi_next HI2 ((((Hi_next HI2) + (8 : Int32)) - (1 : Int32)) - (((Hi_next HI2) + (8 : Int32)) - (1 : Int32)) / (8 : Int32) * (8 : Int32))) fun HI3 =>
    nm (Hi_next HI3) fun x4 =>
    ix x4 8 <|
    (FX3_take SC (HS (Int32.toNatClampNeg x4))).bind fun r6 =>
    ix x4 8 <|
    (FX4_take SK (HK (Int32.toNatClampNeg x4))).bind fun r8 =>
    some (HI3, r6, r8)
  )
set_option maxHeartbeats 4000000 in
set_option maxRecDepth 100000 in
theorem ctX0_pop {l : Launch} {D : va_G} {k : Nat → ClassId} {Z : ZT} (hZ : ZOK Z) (ot : Nat) (o1 : Nat) (aHI : Nat → Nat) (aHS : Nat → Nat → Nat) (aHK : Nat → Nat → Nat) (aWD : Nat → Nat) (aSC : Nat → Nat) (aSK : Nat → Nat) {HI : HiT} {HS : Nat → ScT} {HK : Nat → SkT} {WD : WdT} {SC : ScT} {SK : SkT} {q : HiT × ScT × SkT} (hf : FX0_pop HI HS HK WD SC SK = some q) :
    CM l D k Z yX0_pop cX0_pop 2 none 3 82 [.ref ot, .ref o1] none (kHi k ot aHI (HI) ++ (kHS k (fun i => aHI (2 + i)) aHS (HS) ++ (kHK k (fun i => aHI (10 + i)) aHK (HK) ++ (kWd k o1 aWD (WD) ++ (kSc k (aWD 1) aSC (SC) ++ (kSk k (aWD 2) aSK (SK))))))) (kHi k ot aHI (q.1) ++ (kHS k (fun i => aHI (2 + i)) aHS (HS) ++ (kHK k (fun i => aHI (10 + i)) aHK (HK) ++ (kWd k o1 aWD (WD) ++ (kSc k (aWD 1) aSC (q.2.1) ++ (kSk k (aWD 2) aSK (q.2.2))))))) := by
  refine CM.start hZ (by decide) (Nat.le_of_ble_eq_true rfl) ?_
  intro p e s m below meth c ls X hl G
  have hx := X.1
  have hb := X.2.1
  have hl : lv_has ls 2 [(0, .ref ot), (1, .ref o1)] := hl
  unfold FX0_pop at hf
  refine lv_aload_n hx hb dX0_pop_0 rfl (lv_at hl 0 rfl) ?_
  refine r_get X inw_X0 G 0 rfl rfl 3 (by decide) fl_X0_27 (v := .int (Hi_many HI)) rfl dX0_pop_1 ?_
  refine lv_if_le (tgt := 65) hx hb dX0_pop_4 (by decide) (fun c1 => ?_) (fun c1 => ?_)
  · replace hf := if_t hf c1
    cases hf
    exact e_mv X G dX0_pop_65
  · replace hf := if_f hf c1
    refine lv_aload_n hx hb dX0_pop_7 rfl (lv_at hl 0 rfl) ?_
    refine lv_dup hx hb dX0_pop_8 rfl ?_
    refine r_get X inw_X0 G 0 rfl rfl 3 (by decide) fl_X0_27 (v := .int (Hi_many HI)) rfl dX0_pop_9 ?_
    refine lv_iconst (v := 1) hx hb dX0_pop_12 (by decide) ?_
    refine lv_isub hx hb dX0_pop_13 ?_
    obtain ⟨HI2, eHI2, hf⟩ := nm_some hf
    refine r_put X inw_X0 tyX0 tyX0_ok nmX0 G 0 rfl rfl 3 (by decide) fl_X0_27 rfl rfl rfl (Nat.le_of_ble_eq_true rfl) (ws' := kHi k ot aHI (HI2) ++ (kHS k (fun i => aHI (2 + i)) aHS (HS) ++ (kHK k (fun i => aHI (10 + i)) aHK (HK) ++ (kWd k o1 aWD (WD) ++ (kSc k (aWD 1) aSC (SC) ++ (kSk k (aWD 2) aSK (SK))))))) (by subst eHI2; rfl) dX0_pop_14 (fun H locs G => ?_)
    refine lv_aload_n hx hb dX0_pop_17 rfl (lv_at hl 0 rfl) ?_
    refine lv_aload_n hx hb dX0_pop_18 rfl (lv_at hl 0 rfl) ?_
    refine r_get X inw_X0 G 0 rfl rfl 2 (by decide) fl_X0_23 (v := .int (Hi_next HI2)) rfl dX0_pop_19 ?_
    refine lv_bipush (v := 8) hx hb dX0_pop_22 (by decide) ?_
    refine lv_iadd hx hb dX0_pop_24 ?_
    refine lv_iconst (v := 1) hx hb dX0_pop_25 (by decide) ?_
    refine lv_isub hx hb dX0_pop_26 ?_
    refine lv_bipush (v := 8) hx hb dX0_pop_27 (by decide) ?_
    refine lv_irem hx hb dX0_pop_29 (by decide) ?_
    obtain ⟨HI3, eHI3, hf⟩ := nm_some hf
    refine r_put X inw_X0 tyX0 tyX0_ok nmX0 G 0 rfl rfl 2 (by decide) fl_X0_23 rfl rfl rfl (Nat.le_of_ble_eq_true rfl) (ws' := kHi k ot aHI (HI3) ++ (kHS k (fun i => aHI (2 + i)) aHS (HS) ++ (kHK k (fun i => aHI (10 + i)) aHK (HK) ++ (kWd k o1 aWD (WD) ++ (kSc k (aWD 1) aSC (SC) ++ (kSk k (aWD 2) aSK (SK))))))) (by subst eHI3; rfl) dX0_pop_30 (fun H locs G => ?_)
    refine lv_aload_n hx hb dX0_pop_33 rfl (lv_at hl 1 rfl) ?_
    refine r_get X inw_X8 G 91 rfl rfl 1 (by decide) fl_X0_32 (v := .ref (aWD 1)) rfl dX0_pop_34 ?_
    refine lv_aload_n hx hb dX0_pop_37 rfl (lv_at hl 0 rfl) ?_
    refine r_get X inw_X0 G 0 rfl rfl 0 (by decide) fl_X0_11 (v := .ref (aHI 0)) rfl dX0_pop_38 ?_
    refine lv_aload_n hx hb dX0_pop_41 rfl (lv_at hl 0 rfl) ?_
    refine r_get X inw_X0 G 0 rfl rfl 2 (by decide) fl_X0_23 (v := .int (Hi_next HI3)) rfl dX0_pop_42 ?_
    obtain ⟨x4, ex4, hf⟩ := nm_some hf
    refine r_top (congrArg Value.int ex4) ?_
    obtain ⟨h5, hf⟩ := ix_some hf
    rcases cl8 h5 with hnx4 | hnx4 | hnx4 | hnx4 | hnx4 | hnx4 | hnx4 | hnx4
    · rw [hnx4] at hf
      refine r_aldq X G 1 3 rfl rfl h5 (v := .ref (aHI 2)) (by rw [hnx4]; rfl) dX0_pop_45 ?_
      obtain ⟨r6, hcr6, hf⟩ := bd_some hf
      refine p_N (st1 := []) (wr := kHi k ot aHI (HI3) ++ (kSc k (aHI 3) (aHS 1) (HS 1) ++ (kSc k (aHI 4) (aHS 2) (HS 2) ++ (kSc k (aHI 5) (aHS 3) (HS 3) ++ (kSc k (aHI 6) (aHS 4) (HS 4) ++ (kSc k (aHI 7) (aHS 5) (HS 5) ++ (kSc k (aHI 8) (aHS 6) (HS 6) ++ (kSc k (aHI 9) (aHS 7) (HS 7) ++ (kHK k (fun i => aHI (10 + i)) aHK (HK) ++ (kWd k o1 aWD (WD) ++ (kSk k (aWD 2) aSK (SK)))))))))))) (ws' := kHi k ot aHI (HI3) ++ (kHS k (fun i => aHI (2 + i)) aHS (HS) ++ (kHK k (fun i => aHI (10 + i)) aHK (HK) ++ (kWd k o1 aWD (WD) ++ (kSc k (aWD 1) aSC (r6) ++ (kSk k (aWD 2) aSK (SK))))))) (run_V (rest := []) X (ctX3_take hZ (aWD 1) (aHI 2) aSC (aHS 0) hcr6) mk_X3_take ml_X0_38 ⟨(Nat.le_of_ble_eq_true rfl), (Nat.le_of_ble_eq_true rfl)⟩ G [92, 93, 94, 95, 96, 97, 98, 99, 100, 3, 4, 5, 6, 7, 8, 9, 10, 11] rfl rfl 92 rfl rfl rfl hl.1 rfl (Nat.le_of_ble_eq_true rfl) dX0_pop_46 ⟨Nat.zero_le _, Nat.zero_le _⟩) rfl G [92, 93, 94, 95, 96, 97, 98, 99, 100, 3, 4, 5, 6, 7, 8, 9, 10, 11] [0, 1, 2, 12, 13, 14, 15, 16, 17, 18, 19, 20, 21, 22, 23, 24, 25, 26, 27, 28, 29, 30, 31, 32, 33, 34, 35, 36, 37, 38, 39, 40, 41, 42, 43, 44, 45, 46, 47, 48, 49, 50, 51, 52, 53, 54, 55, 56, 57, 58, 59, 60, 61, 62, 63, 64, 65, 66, 67, 68, 69, 70, 71, 72, 73, 74, 75, 76, 77, 78, 79, 80, 81, 82, 83, 84, 85, 86, 87, 88, 89, 90, 91, 101, 102] 103 rfl rfl rfl rfl rfl (by decide +kernel) (by decide +kernel) rfl (fun H locs G => ?_)
      refine lv_aload_n hx hb dX0_pop_49 rfl (lv_at hl 1 rfl) ?_
      refine r_get X inw_X8 G 91 rfl rfl 2 (by decide) fl_X0_42 (v := .ref (aWD 2)) rfl dX0_pop_50 ?_
      refine lv_aload_n hx hb dX0_pop_53 rfl (lv_at hl 0 rfl) ?_
      refine r_get X inw_X0 G 0 rfl rfl 1 (by decide) fl_X0_19 (v := .ref (aHI 1)) rfl dX0_pop_54 ?_
      refine lv_aload_n hx hb dX0_pop_57 rfl (lv_at hl 0 rfl) ?_
      refine r_get X inw_X0 G 0 rfl rfl 2 (by decide) fl_X0_23 (v := .int (Hi_next HI3)) rfl dX0_pop_58 ?_
      refine r_top (congrArg Value.int ex4) ?_
      obtain ⟨h7, hf⟩ := ix_some hf
      refine r_aldq X G 2 4 rfl rfl h7 (v := .ref (aHI 10)) (by rw [hnx4]; rfl) dX0_pop_61 ?_
      obtain ⟨r8, hcr8, hf⟩ := bd_some hf
      refine p_N (st1 := []) (wr := kHi k ot aHI (HI3) ++ (kHS k (fun i => aHI (2 + i)) aHS (HS) ++ (kSk k (aHI 11) (aHK 1) (HK 1) ++ (kSk k (aHI 12) (aHK 2) (HK 2) ++ (kSk k (aHI 13) (aHK 3) (HK 3) ++ (kSk k (aHI 14) (aHK 4) (HK 4) ++ (kSk k (aHI 15) (aHK 5) (HK 5) ++ (kSk k (aHI 16) (aHK 6) (HK 6) ++ (kSk k (aHI 17) (aHK 7) (HK 7) ++ (kWd k o1 aWD (WD) ++ (kSc k (aWD 1) aSC (r6)))))))))))) (ws' := kHi k ot aHI (HI3) ++ (kHS k (fun i => aHI (2 + i)) aHS (HS) ++ (kHK k (fun i => aHI (10 + i)) aHK (HK) ++ (kWd k o1 aWD (WD) ++ (kSc k (aWD 1) aSC (r6) ++ (kSk k (aWD 2) aSK (r8))))))) (run_V (rest := []) X (ctX4_take hZ (aWD 2) (aHI 10) aSK (aHK 0) hcr8) mk_X4_take ml_X0_45 ⟨(Nat.le_of_ble_eq_true rfl), (Nat.le_of_ble_eq_true rfl)⟩ G [101, 102, 75, 76] rfl rfl 101 rfl rfl rfl hl.1 rfl (Nat.le_of_ble_eq_true rfl) dX0_pop_62 ⟨Nat.zero_le _, Nat.zero_le _⟩) rfl G [101, 102, 75, 76] [0, 1, 2, 3, 4, 5, 6, 7, 8, 9, 10, 11, 12, 13, 14, 15, 16, 17, 18, 19, 20, 21, 22, 23, 24, 25, 26, 27, 28, 29, 30, 31, 32, 33, 34, 35, 36, 37, 38, 39, 40, 41, 42, 43, 44, 45, 46, 47, 48, 49, 50, 51, 52, 53, 54, 55, 56, 57, 58, 59, 60, 61, 62, 63, 64, 65, 66, 67, 68, 69, 70, 71, 72, 73, 74, 77, 78, 79, 80, 81, 82, 83, 84, 85, 86, 87, 88, 89, 90, 91, 92, 93, 94, 95, 96, 97, 98, 99, 100] 103 rfl rfl rfl rfl rfl (by decide +kernel) (by decide +kernel) rfl (fun H locs G => ?_)
      cases hf
      exact e_mv X G dX0_pop_65
    · rw [hnx4] at hf
      refine r_aldq X G 1 3 rfl rfl h5 (v := .ref (aHI 3)) (by rw [hnx4]; rfl) dX0_pop_45 ?_
      obtain ⟨r6, hcr6, hf⟩ := bd_some hf
      refine p_N (st1 := []) (wr := kHi k ot aHI (HI3) ++ (kSc k (aHI 2) (aHS 0) (HS 0) ++ (kSc k (aHI 4) (aHS 2) (HS 2) ++ (kSc k (aHI 5) (aHS 3) (HS 3) ++ (kSc k (aHI 6) (aHS 4) (HS 4) ++ (kSc k (aHI 7) (aHS 5) (HS 5) ++ (kSc k (aHI 8) (aHS 6) (HS 6) ++ (kSc k (aHI 9) (aHS 7) (HS 7) ++ (kHK k (fun i => aHI (10 + i)) aHK (HK) ++ (kWd k o1 aWD (WD) ++ (kSk k (aWD 2) aSK (SK)))))))))))) (ws' := kHi k ot aHI (HI3) ++ (kHS k (fun i => aHI (2 + i)) aHS (HS) ++ (kHK k (fun i => aHI (10 + i)) aHK (HK) ++ (kWd k o1 aWD (WD) ++ (kSc k (aWD 1) aSC (r6) ++ (kSk k (aWD 2) aSK (SK))))))) (run_V (rest := []) X (ctX3_take hZ (aWD 1) (aHI 3) aSC (aHS 1) hcr6) mk_X3_take ml_X0_38 ⟨(Nat.le_of_ble_eq_true rfl), (Nat.le_of_ble_eq_true rfl)⟩ G [92, 93, 94, 95, 96, 97, 98, 99, 100, 12, 13, 14, 15, 16, 17, 18, 19, 20] rfl rfl 92 rfl rfl rfl hl.1 rfl (Nat.le_of_ble_eq_true rfl) dX0_pop_46 ⟨Nat.zero_le _, Nat.zero_le _⟩) rfl G [92, 93, 94, 95, 96, 97, 98, 99, 100, 12, 13, 14, 15, 16, 17, 18, 19, 20] [0, 1, 2, 3, 4, 5, 6, 7, 8, 9, 10, 11, 21, 22, 23, 24, 25, 26, 27, 28, 29, 30, 31, 32, 33, 34, 35, 36, 37, 38, 39, 40, 41, 42, 43, 44, 45, 46, 47, 48, 49, 50, 51, 52, 53, 54, 55, 56, 57, 58, 59, 60, 61, 62, 63, 64, 65, 66, 67, 68, 69, 70, 71, 72, 73, 74, 75, 76, 77, 78, 79, 80, 81, 82, 83, 84, 85, 86, 87, 88, 89, 90, 91, 101, 102] 103 rfl rfl rfl rfl rfl (by decide +kernel) (by decide +kernel) rfl (fun H locs G => ?_)
      refine lv_aload_n hx hb dX0_pop_49 rfl (lv_at hl 1 rfl) ?_
      refine r_get X inw_X8 G 91 rfl rfl 2 (by decide) fl_X0_42 (v := .ref (aWD 2)) rfl dX0_pop_50 ?_
      refine lv_aload_n hx hb dX0_pop_53 rfl (lv_at hl 0 rfl) ?_
      refine r_get X inw_X0 G 0 rfl rfl 1 (by decide) fl_X0_19 (v := .ref (aHI 1)) rfl dX0_pop_54 ?_
      refine lv_aload_n hx hb dX0_pop_57 rfl (lv_at hl 0 rfl) ?_
      refine r_get X inw_X0 G 0 rfl rfl 2 (by decide) fl_X0_23 (v := .int (Hi_next HI3)) rfl dX0_pop_58 ?_
      refine r_top (congrArg Value.int ex4) ?_
      obtain ⟨h7, hf⟩ := ix_some hf
      refine r_aldq X G 2 4 rfl rfl h7 (v := .ref (aHI 11)) (by rw [hnx4]; rfl) dX0_pop_61 ?_
      obtain ⟨r8, hcr8, hf⟩ := bd_some hf
      refine p_N (st1 := []) (wr := kHi k ot aHI (HI3) ++ (kHS k (fun i => aHI (2 + i)) aHS (HS) ++ (kSk k (aHI 10) (aHK 0) (HK 0) ++ (kSk k (aHI 12) (aHK 2) (HK 2) ++ (kSk k (aHI 13) (aHK 3) (HK 3) ++ (kSk k (aHI 14) (aHK 4) (HK 4) ++ (kSk k (aHI 15) (aHK 5) (HK 5) ++ (kSk k (aHI 16) (aHK 6) (HK 6) ++ (kSk k (aHI 17) (aHK 7) (HK 7) ++ (kWd k o1 aWD (WD) ++ (kSc k (aWD 1) aSC (r6)))))))))))) (ws' := kHi k ot aHI (HI3) ++ (kHS k (fun i => aHI (2 + i)) aHS (HS) ++ (kHK k (fun i => aHI (10 + i)) aHK (HK) ++ (kWd k o1 aWD (WD) ++ (kSc k (aWD 1) aSC (r6) ++ (kSk k (aWD 2) aSK (r8))))))) (run_V (rest := []) X (ctX4_take hZ (aWD 2) (aHI 11) aSK (aHK 1) hcr8) mk_X4_take ml_X0_45 ⟨(Nat.le_of_ble_eq_true rfl), (Nat.le_of_ble_eq_true rfl)⟩ G [101, 102, 77, 78] rfl rfl 101 rfl rfl rfl hl.1 rfl (Nat.le_of_ble_eq_true rfl) dX0_pop_62 ⟨Nat.zero_le _, Nat.zero_le _⟩) rfl G [101, 102, 77, 78] [0, 1, 2, 3, 4, 5, 6, 7, 8, 9, 10, 11, 12, 13, 14, 15, 16, 17, 18, 19, 20, 21, 22, 23, 24, 25, 26, 27, 28, 29, 30, 31, 32, 33, 34, 35, 36, 37, 38, 39, 40, 41, 42, 43, 44, 45, 46, 47, 48, 49, 50, 51, 52, 53, 54, 55, 56, 57, 58, 59, 60, 61, 62, 63, 64, 65, 66, 67, 68, 69, 70, 71, 72, 73, 74, 75, 76, 79, 80, 81, 82, 83, 84, 85, 86, 87, 88, 89, 90, 91, 92, 93, 94, 95, 96, 97, 98, 99, 100] 103 rfl rfl rfl rfl rfl (by decide +kernel) (by decide +kernel) rfl (fun H locs G => ?_)
      cases hf
      exact e_mv X G dX0_pop_65
    · rw [hnx4] at hf
      refine r_aldq X G 1 3 rfl rfl h5 (v := .ref (aHI 4)) (by rw [hnx4]; rfl) dX0_pop_45 ?_
      obtain ⟨r6, hcr6, hf⟩ := bd_some hf
      refine p_N (st1 := []) (wr := kHi k ot aHI (HI3) ++ (kSc k (aHI 2) (aHS 0) (HS 0) ++ (kSc k (aHI 3) (aHS 1) (HS 1) ++ (kSc k (aHI 5) (aHS 3) (HS 3) ++ (kSc k (aHI 6) (aHS 4) (HS 4) ++ (kSc k (aHI 7) (aHS 5) (HS 5) ++ (kSc k (aHI 8) (aHS 6) (HS 6) ++ (kSc k (aHI 9) (aHS 7) (HS 7) ++ (kHK k (fun i => aHI (10 + i)) aHK (HK) ++ (kWd k o1 aWD (WD) ++ (kSk k (aWD 2) aSK (SK)))))))))))) (ws' := kHi k ot aHI (HI3) ++ (kHS k (fun i => aHI (2 + i)) aHS (HS) ++ (kHK k (fun i => aHI (10 + i)) aHK (HK) ++ (kWd k o1 aWD (WD) ++ (kSc k (aWD 1) aSC (r6) ++ (kSk k (aWD 2) aSK (SK))))))) (run_V (rest := []) X (ctX3_take hZ (aWD 1) (aHI 4) aSC (aHS 2) hcr6) mk_X3_take ml_X0_38 ⟨(Nat.le_of_ble_eq_true rfl), (Nat.le_of_ble_eq_true rfl)⟩ G [92, 93, 94, 95, 96, 97, 98, 99, 100, 21, 22, 23, 24, 25, 26, 27, 28, 29] rfl rfl 92 rfl rfl rfl hl.1 rfl (Nat.le_of_ble_eq_true rfl) dX0_pop_46 ⟨Nat.zero_le _, Nat.zero_le _⟩) rfl G [92, 93, 94, 95, 96, 97, 98, 99, 100, 21, 22, 23, 24, 25, 26, 27, 28, 29] [0, 1, 2, 3, 4, 5, 6, 7, 8, 9, 10, 11, 12, 13, 14, 15, 16, 17, 18, 19, 20, 30, 31, 32, 33, 34, 35, 36, 37, 38, 39, 40, 41, 42, 43, 44, 45, 46, 47, 48, 49, 50, 51, 52, 53, 54, 55, 56, 57, 58, 59, 60, 61, 62, 63, 64, 65, 66, 67, 68, 69, 70, 71, 72, 73, 74, 75, 76, 77, 78, 79, 80, 81, 82, 83, 84, 85, 86, 87, 88, 89, 90, 91, 101, 102] 103 rfl rfl rfl rfl rfl (by decide +kernel) (by decide +kernel) rfl (fun H locs G => ?_)
      refine lv_aload_n hx hb dX0_pop_49 rfl (lv_at hl 1 rfl) ?_
      refine r_get X inw_X8 G 91 rfl rfl 2 (by decide) fl_X0_42 (v := .ref (aWD 2)) rfl dX0_pop_50 ?_
      refine lv_aload_n hx hb dX0_pop_53 rfl (lv_at hl 0 rfl) ?_
      refine r_get X inw_X0 G 0 rfl rfl 1 (by decide) fl_X0_19 (v := .ref (aHI 1)) rfl dX0_pop_54 ?_
      refine lv_aload_n hx hb dX0_pop_57 rfl (lv_at hl 0 rfl) ?_
      refine r_get X inw_X0 G 0 rfl rfl 2 (by decide) fl_X0_23 (v := .int (Hi_next HI3)) rfl dX0_pop_58 ?_
      refine r_top (congrArg Value.int ex4) ?_
      obtain ⟨h7, hf⟩ := ix_some hf
      refine r_aldq X G 2 4 rfl rfl h7 (v := .ref (aHI 12)) (by rw [hnx4]; rfl) dX0_pop_61 ?_
      obtain ⟨r8, hcr8, hf⟩ := bd_some hf
      refine p_N (st1 := []) (wr := kHi k ot aHI (HI3) ++ (kHS k (fun i => aHI (2 + i)) aHS (HS) ++ (kSk k (aHI 10) (aHK 0) (HK 0) ++ (kSk k (aHI 11) (aHK 1) (HK 1) ++ (kSk k (aHI 13) (aHK 3) (HK 3) ++ (kSk k (aHI 14) (aHK 4) (HK 4) ++ (kSk k (aHI 15) (aHK 5) (HK 5) ++ (kSk k (aHI 16) (aHK 6) (HK 6) ++ (kSk k (aHI 17) (aHK 7) (HK 7) ++ (kWd k o1 aWD (WD) ++ (kSc k (aWD 1) aSC (r6)))))))))))) (ws' := kHi k ot aHI (HI3) ++ (kHS k (fun i => aHI (2 + i)) aHS (HS) ++ (kHK k (fun i => aHI (10 + i)) aHK (HK) ++ (kWd k o1 aWD (WD) ++ (kSc k (aWD 1) aSC (r6) ++ (kSk k (aWD 2) aSK (r8))))))) (run_V (rest := []) X (ctX4_take hZ (aWD 2) (aHI 12) aSK (aHK 2) hcr8) mk_X4_take ml_X0_45 ⟨(Nat.le_of_ble_eq_true rfl), (Nat.le_of_ble_eq_true rfl)⟩ G [101, 102, 79, 80] rfl rfl 101 rfl rfl rfl hl.1 rfl (Nat.le_of_ble_eq_true rfl) dX0_pop_62 ⟨Nat.zero_le _, Nat.zero_le _⟩) rfl G [101, 102, 79, 80] [0, 1, 2, 3, 4, 5, 6, 7, 8, 9, 10, 11, 12, 13, 14, 15, 16, 17, 18, 19, 20, 21, 22, 23, 24, 25, 26, 27, 28, 29, 30, 31, 32, 33, 34, 35, 36, 37, 38, 39, 40, 41, 42, 43, 44, 45, 46, 47, 48, 49, 50, 51, 52, 53, 54, 55, 56, 57, 58, 59, 60, 61, 62, 63, 64, 65, 66, 67, 68, 69, 70, 71, 72, 73, 74, 75, 76, 77, 78, 81, 82, 83, 84, 85, 86, 87, 88, 89, 90, 91, 92, 93, 94, 95, 96, 97, 98, 99, 100] 103 rfl rfl rfl rfl rfl (by decide +kernel) (by decide +kernel) rfl (fun H locs G => ?_)
      cases hf
      exact e_mv X G dX0_pop_65
    · rw [hnx4] at hf
      refine r_aldq X G 1 3 rfl rfl h5 (v := .ref (aHI 5)) (by rw [hnx4]; rfl) dX0_pop_45 ?_
      obtain ⟨r6, hcr6, hf⟩ := bd_some hf
      refine p_N (st1 := []) (wr := kHi k ot aHI (HI3) ++ (kSc k (aHI 2) (aHS 0) (HS 0) ++ (kSc k (aHI 3) (aHS 1) (HS 1) ++ (kSc k (aHI 4) (aHS 2) (HS 2) ++ (kSc k (aHI 6) (aHS 4) (HS 4) ++ (kSc k (aHI 7) (aHS 5) (HS 5) ++ (kSc k (aHI 8) (aHS 6) (HS 6) ++ (kSc k (aHI 9) (aHS 7) (HS 7) ++ (kHK k (fun i => aHI (10 + i)) aHK (HK) ++ (kWd k o1 aWD (WD) ++ (kSk k (aWD 2) aSK (SK)))))))))))) (ws' := kHi k ot aHI (HI3) ++ (kHS k (fun i => aHI (2 + i)) aHS (HS) ++ (kHK k (fun i => aHI (10 + i)) aHK (HK) ++ (kWd k o1 aWD (WD) ++ (kSc k (aWD 1) aSC (r6) ++ (kSk k (aWD 2) aSK (SK))))))) (run_V (rest := []) X (ctX3_take hZ (aWD 1) (aHI 5) aSC (aHS 3) hcr6) mk_X3_take ml_X0_38 ⟨(Nat.le_of_ble_eq_true rfl), (Nat.le_of_ble_eq_true rfl)⟩ G [92, 93, 94, 95, 96, 97, 98, 99, 100, 30, 31, 32, 33, 34, 35, 36, 37, 38] rfl rfl 92 rfl rfl rfl hl.1 rfl (Nat.le_of_ble_eq_true rfl) dX0_pop_46 ⟨Nat.zero_le _, Nat.zero_le _⟩) rfl G [92, 93, 94, 95, 96, 97, 98, 99, 100, 30, 31, 32, 33, 34, 35, 36, 37, 38] [0, 1, 2, 3, 4, 5, 6, 7, 8, 9, 10, 11, 12, 13, 14, 15, 16, 17, 18, 19, 20, 21, 22, 23, 24, 25, 26, 27, 28, 29, 39, 40, 41, 42, 43, 44, 45, 46, 47, 48, 49, 50, 51, 52, 53, 54, 55, 56, 57, 58, 59, 60, 61, 62, 63, 64, 65, 66, 67, 68, 69, 70, 71, 72, 73, 74, 75, 76, 77, 78, 79, 80, 81, 82, 83, 84, 85, 86, 87, 88, 89, 90, 91, 101, 102] 103 rfl rfl rfl rfl rfl (by decide +kernel) (by decide +kernel) rfl (fun H locs G => ?_)
      refine lv_aload_n hx hb dX0_pop_49 rfl (lv_at hl 1 rfl) ?_
      refine r_get X inw_X8 G 91 rfl rfl 2 (by decide) fl_X0_42 (v := .ref (aWD 2)) rfl dX0_pop_50 ?_
      refine lv_aload_n hx hb dX0_pop_53 rfl (lv_at hl 0 rfl) ?_
      refine r_get X inw_X0 G 0 rfl rfl 1 (by decide) fl_X0_19 (v := .ref (aHI 1)) rfl dX0_pop_54 ?_
      refine lv_aload_n hx hb dX0_pop_57 rfl (lv_at hl 0 rfl) ?_
      refine r_get X inw_X0 G 0 rfl rfl 2 (by decide) fl_X0_23 (v := .int (Hi_next HI3)) rfl dX0_pop_58 ?_
      refine r_top (congrArg Value.int ex4) ?_
      obtain ⟨h7, hf⟩ := ix_some hf
      refine r_aldq X G 2 4 rfl rfl h7 (v := .ref (aHI 13)) (by rw [hnx4]; rfl) dX0_pop_61 ?_
      obtain ⟨r8, hcr8, hf⟩ := bd_some hf
      refine p_N (st1 := []) (wr := kHi k ot aHI (HI3) ++ (kHS k (fun i => aHI (2 + i)) aHS (HS) ++ (kSk k (aHI 10) (aHK 0) (HK 0) ++ (kSk k (aHI 11) (aHK 1) (HK 1) ++ (kSk k (aHI 12) (aHK 2) (HK 2) ++ (kSk k (aHI 14) (aHK 4) (HK 4) ++ (kSk k (aHI 15) (aHK 5) (HK 5) ++ (kSk k (aHI 16) (aHK 6) (HK 6) ++ (kSk k (aHI 17) (aHK 7) (HK 7) ++ (kWd k o1 aWD (WD) ++ (kSc k (aWD 1) aSC (r6)))))))))))) (ws' := kHi k ot aHI (HI3) ++ (kHS k (fun i => aHI (2 + i)) aHS (HS) ++ (kHK k (fun i => aHI (10 + i)) aHK (HK) ++ (kWd k o1 aWD (WD) ++ (kSc k (aWD 1) aSC (r6) ++ (kSk k (aWD 2) aSK (r8))))))) (run_V (rest := []) X (ctX4_take hZ (aWD 2) (aHI 13) aSK (aHK 3) hcr8) mk_X4_take ml_X0_45 ⟨(Nat.le_of_ble_eq_true rfl), (Nat.le_of_ble_eq_true rfl)⟩ G [101, 102, 81, 82] rfl rfl 101 rfl rfl rfl hl.1 rfl (Nat.le_of_ble_eq_true rfl) dX0_pop_62 ⟨Nat.zero_le _, Nat.zero_le _⟩) rfl G [101, 102, 81, 82] [0, 1, 2, 3, 4, 5, 6, 7, 8, 9, 10, 11, 12, 13, 14, 15, 16, 17, 18, 19, 20, 21, 22, 23, 24, 25, 26, 27, 28, 29, 30, 31, 32, 33, 34, 35, 36, 37, 38, 39, 40, 41, 42, 43, 44, 45, 46, 47, 48, 49, 50, 51, 52, 53, 54, 55, 56, 57, 58, 59, 60, 61, 62, 63, 64, 65, 66, 67, 68, 69, 70, 71, 72, 73, 74, 75, 76, 77, 78, 79, 80, 83, 84, 85, 86, 87, 88, 89, 90, 91, 92, 93, 94, 95, 96, 97, 98, 99, 100] 103 rfl rfl rfl rfl rfl (by decide +kernel) (by decide +kernel) rfl (fun H locs G => ?_)
      cases hf
      exact e_mv X G dX0_pop_65
    · rw [hnx4] at hf
      refine r_aldq X G 1 3 rfl rfl h5 (v := .ref (aHI 6)) (by rw [hnx4]; rfl) dX0_pop_45 ?_
      obtain ⟨r6, hcr6, hf⟩ := bd_some hf
      refine p_N (st1 := []) (wr := kHi k ot aHI (HI3) ++ (kSc k (aHI 2) (aHS 0) (HS 0) ++ (kSc k (aHI 3) (aHS 1) (HS 1) ++ (kSc k (aHI 4) (aHS 2) (HS 2) ++ (kSc k (aHI 5) (aHS 3) (HS 3) ++ (kSc k (aHI 7) (aHS 5) (HS 5) ++ (kSc k (aHI 8) (aHS 6) (HS 6) ++ (kSc k (aHI 9) (aHS 7) (HS 7) ++ (kHK k (fun i => aHI (10 + i)) aHK (HK) ++ (kWd k o1 aWD (WD) ++ (kSk k (aWD 2) aSK (SK)))))))))))) (ws' := kHi k ot aHI (HI3) ++ (kHS k (fun i => aHI (2 + i)) aHS (HS) ++ (kHK k (fun i => aHI (10 + i)) aHK (HK) ++ (kWd k o1 aWD (WD) ++ (kSc k (aWD 1) aSC (r6) ++ (kSk k (aWD 2) aSK (SK))))))) (run_V (rest := []) X (ctX3_take hZ (aWD 1) (aHI 6) aSC (aHS 4) hcr6) mk_X3_take ml_X0_38 ⟨(Nat.le_of_ble_eq_true rfl), (Nat.le_of_ble_eq_true rfl)⟩ G [92, 93, 94, 95, 96, 97, 98, 99, 100, 39, 40, 41, 42, 43, 44, 45, 46, 47] rfl rfl 92 rfl rfl rfl hl.1 rfl (Nat.le_of_ble_eq_true rfl) dX0_pop_46 ⟨Nat.zero_le _, Nat.zero_le _⟩) rfl G [92, 93, 94, 95, 96, 97, 98, 99, 100, 39, 40, 41, 42, 43, 44, 45, 46, 47] [0, 1, 2, 3, 4, 5, 6, 7, 8, 9, 10, 11, 12, 13, 14, 15, 16, 17, 18, 19, 20, 21, 22, 23, 24, 25, 26, 27, 28, 29, 30, 31, 32, 33, 34, 35, 36, 37, 38, 48, 49, 50, 51, 52, 53, 54, 55, 56, 57, 58, 59, 60, 61, 62, 63, 64, 65, 66, 67, 68, 69, 70, 71, 72, 73, 74, 75, 76, 77, 78, 79, 80, 81, 82, 83, 84, 85, 86, 87, 88, 89, 90, 91, 101, 102] 103 rfl rfl rfl rfl rfl (by decide +kernel) (by decide +kernel) rfl (fun H locs G => ?_)
      refine lv_aload_n hx hb dX0_pop_49 rfl (lv_at hl 1 rfl) ?_
      refine r_get X inw_X8 G 91 rfl rfl 2 (by decide) fl_X0_42 (v := .ref (aWD 2)) rfl dX0_pop_50 ?_
      refine lv_aload_n hx hb dX0_pop_53 rfl (lv_at hl 0 rfl) ?_
      refine r_get X inw_X0 G 0 rfl rfl 1 (by decide) fl_X0_19 (v := .ref (aHI 1)) rfl dX0_pop_54 ?_
      refine lv_aload_n hx hb dX0_pop_57 rfl (lv_at hl 0 rfl) ?_
      refine r_get X inw_X0 G 0 rfl rfl 2 (by decide) fl_X0_23 (v := .int (Hi_next HI3)) rfl dX0_pop_58 ?_
      refine r_top (congrArg Value.int ex4) ?_
      obtain ⟨h7, hf⟩ := ix_some hf
      refine r_aldq X G 2 4 rfl rfl h7 (v := .ref (aHI 14)) (by rw [hnx4]; rfl) dX0_pop_61 ?_
      obtain ⟨r8, hcr8, hf⟩ := bd_some hf
      refine p_N (st1 := []) (wr := kHi k ot aHI (HI3) ++ (kHS k (fun i => aHI (2 + i)) aHS (HS) ++ (kSk k (aHI 10) (aHK 0) (HK 0) ++ (kSk k (aHI 11) (aHK 1) (HK 1) ++ (kSk k (aHI 12) (aHK 2) (HK 2) ++ (kSk k (aHI 13) (aHK 3) (HK 3) ++ (kSk k (aHI 15) (aHK 5) (HK 5) ++ (kSk k (aHI 16) (aHK 6) (HK 6) ++ (kSk k (aHI 17) (aHK 7) (HK 7) ++ (kWd k o1 aWD (WD) ++ (kSc k (aWD 1) aSC (r6)))))))))))) (ws' := kHi k ot aHI (HI3) ++ (kHS k (fun i => aHI (2 + i)) aHS (HS) ++ (kHK k (fun i => aHI (10 + i)) aHK (HK) ++ (kWd k o1 aWD (WD) ++ (kSc k (aWD 1) aSC (r6) ++ (kSk k (aWD 2) aSK (r8))))))) (run_V (rest := []) X (ctX4_take hZ (aWD 2) (aHI 14) aSK (aHK 4) hcr8) mk_X4_take ml_X0_45 ⟨(Nat.le_of_ble_eq_true rfl), (Nat.le_of_ble_eq_true rfl)⟩ G [101, 102, 83, 84] rfl rfl 101 rfl rfl rfl hl.1 rfl (Nat.le_of_ble_eq_true rfl) dX0_pop_62 ⟨Nat.zero_le _, Nat.zero_le _⟩) rfl G [101, 102, 83, 84] [0, 1, 2, 3, 4, 5, 6, 7, 8, 9, 10, 11, 12, 13, 14, 15, 16, 17, 18, 19, 20, 21, 22, 23, 24, 25, 26, 27, 28, 29, 30, 31, 32, 33, 34, 35, 36, 37, 38, 39, 40, 41, 42, 43, 44, 45, 46, 47, 48, 49, 50, 51, 52, 53, 54, 55, 56, 57, 58, 59, 60, 61, 62, 63, 64, 65, 66, 67, 68, 69, 70, 71, 72, 73, 74, 75, 76, 77, 78, 79, 80, 81, 82, 85, 86, 87, 88, 89, 90, 91, 92, 93, 94, 95, 96, 97, 98, 99, 100] 103 rfl rfl rfl rfl rfl (by decide +kernel) (by decide +kernel) rfl (fun H locs G => ?_)
      cases hf
      exact e_mv X G dX0_pop_65
    · rw [hnx4] at hf
      refine r_aldq X G 1 3 rfl rfl h5 (v := .ref (aHI 7)) (by rw [hnx4]; rfl) dX0_pop_45 ?_
      obtain ⟨r6, hcr6, hf⟩ := bd_some hf
      refine p_N (st1 := []) (wr := kHi k ot aHI (HI3) ++ (kSc k (aHI 2) (aHS 0) (HS 0) ++ (kSc k (aHI 3) (aHS 1) (HS 1) ++ (kSc k (aHI 4) (aHS 2) (HS 2) ++ (kSc k (aHI 5) (aHS 3) (HS 3) ++ (kSc k (aHI 6) (aHS 4) (HS 4) ++ (kSc k (aHI 8) (aHS 6) (HS 6) ++ (kSc k (aHI 9) (aHS 7) (HS 7) ++ (kHK k (fun i => aHI (10 + i)) aHK (HK) ++ (kWd k o1 aWD (WD) ++ (kSk k (aWD 2) aSK (SK)))))))))))) (ws' := kHi k ot aHI (HI3) ++ (kHS k (fun i => aHI (2 + i)) aHS (HS) ++ (kHK k (fun i => aHI (10 + i)) aHK (HK) ++ (kWd k o1 aWD (WD) ++ (kSc k (aWD 1) aSC (r6) ++ (kSk k (aWD 2) aSK (SK))))))) (run_V (rest := []) X (ctX3_take hZ (aWD 1) (aHI 7) aSC (aHS 5) hcr6) mk_X3_take ml_X0_38 ⟨(Nat.le_of_ble_eq_true rfl), (Nat.le_of_ble_eq_true rfl)⟩ G [92, 93, 94, 95, 96, 97, 98, 99, 100, 48, 49, 50, 51, 52, 53, 54, 55, 56] rfl rfl 92 rfl rfl rfl hl.1 rfl (Nat.le_of_ble_eq_true rfl) dX0_pop_46 ⟨Nat.zero_le _, Nat.zero_le _⟩) rfl G [92, 93, 94, 95, 96, 97, 98, 99, 100, 48, 49, 50, 51, 52, 53, 54, 55, 56] [0, 1, 2, 3, 4, 5, 6, 7, 8, 9, 10, 11, 12, 13, 14, 15, 16, 17, 18, 19, 20, 21, 22, 23, 24, 25, 26, 27, 28, 29, 30, 31, 32, 33, 34, 35, 36, 37, 38, 39, 40, 41, 42, 43, 44, 45, 46, 47, 57, 58, 59, 60, 61, 62, 63, 64, 65, 66, 67, 68, 69, 70, 71, 72, 73, 74, 75, 76, 77, 78, 79, 80, 81, 82, 83, 84, 85, 86, 87, 88, 89, 90, 91, 101, 102] 103 rfl rfl rfl rfl rfl (by decide +kernel) (by decide +kernel) rfl (fun H locs G => ?_)
      refine lv_aload_n hx hb dX0_pop_49 rfl (lv_at hl 1 rfl) ?_
      refine r_get X inw_X8 G 91 rfl rfl 2 (by decide) fl_X0_42 (v := .ref (aWD 2)) rfl dX0_pop_50 ?_
      refine lv_aload_n hx hb dX0_pop_53 rfl (lv_at hl 0 rfl) ?_
      refine r_get X inw_X0 G 0 rfl rfl 1 (by decide) fl_X0_19 (v := .ref (aHI 1)) rfl dX0_pop_54 ?_
      refine lv_aload_n hx hb dX0_pop_57 rfl (lv_at hl 0 rfl) ?_
      refine r_get X inw_X0 G 0 rfl rfl 2 (by decide) fl_X0_23 (v := .int (Hi_next HI3)) rfl dX0_pop_58 ?_
      refine r_top (congrArg Value.int ex4) ?_
      obtain ⟨h7, hf⟩ := ix_some hf
      refine r_aldq X G 2 4 rfl rfl h7 (v := .ref (aHI 15)) (by rw [hnx4]; rfl) dX0_pop_61 ?_
      obtain ⟨r8, hcr8, hf⟩ := bd_some hf
      refine p_N (st1 := []) (wr := kHi k ot aHI (HI3) ++ (kHS k (fun i => aHI (2 + i)) aHS (HS) ++ (kSk k (aHI 10) (aHK 0) (HK 0) ++ (kSk k (aHI 11) (aHK 1) (HK 1) ++ (kSk k (aHI 12) (aHK 2) (HK 2) ++ (kSk k (aHI 13) (aHK 3) (HK 3) ++ (kSk k (aHI 14) (aHK 4) (HK 4) ++ (kSk k (aHI 16) (aHK 6) (HK 6) ++ (kSk k (aHI 17) (aHK 7) (HK 7) ++ (kWd k o1 aWD (WD) ++ (kSc k (aWD 1) aSC (r6)))))))))))) (ws' := kHi k ot aHI (HI3) ++ (kHS k (fun i => aHI (2 + i)) aHS (HS) ++ (kHK k (fun i => aHI (10 + i)) aHK (HK) ++ (kWd k o1 aWD (WD) ++ (kSc k (aWD 1) aSC (r6) ++ (kSk k (aWD 2) aSK (r8))))))) (run_V (rest := []) X (ctX4_take hZ (aWD 2) (aHI 15) aSK (aHK 5) hcr8) mk_X4_take ml_X0_45 ⟨(Nat.le_of_ble_eq_true rfl), (Nat.le_of_ble_eq_true rfl)⟩ G [101, 102, 85, 86] rfl rfl 101 rfl rfl rfl hl.1 rfl (Nat.le_of_ble_eq_true rfl) dX0_pop_62 ⟨Nat.zero_le _, Nat.zero_le _⟩) rfl G [101, 102, 85, 86] [0, 1, 2, 3, 4, 5, 6, 7, 8, 9, 10, 11, 12, 13, 14, 15, 16, 17, 18, 19, 20, 21, 22, 23, 24, 25, 26, 27, 28, 29, 30, 31, 32, 33, 34, 35, 36, 37, 38, 39, 40, 41, 42, 43, 44, 45, 46, 47, 48, 49, 50, 51, 52, 53, 54, 55, 56, 57, 58, 59, 60, 61, 62, 63, 64, 65, 66, 67, 68, 69, 70, 71, 72, 73, 74, 75, 76, 77, 78, 79, 80, 81, 82, 83, 84, 87, 88, 89, 90, 91, 92, 93, 94, 95, 96, 97, 98, 99, 100] 103 rfl rfl rfl rfl rfl (by decide +kernel) (by decide +kernel) rfl (fun H locs G => ?_)
      cases hf
      exact e_mv X G dX0_pop_65
    · rw [hnx4] at hf
      refine r_aldq X G 1 3 rfl rfl h5 (v := .ref (aHI 8)) (by rw [hnx4]; rfl) dX0_pop_45 ?_
      obtain ⟨r6, hcr6, hf⟩ := bd_some hf
      refine p_N (st1 := []) (wr := kHi k ot aHI (HI3) ++ (kSc k (aHI 2) (aHS 0) (HS 0) ++ (kSc k (aHI 3) (aHS 1) (HS 1) ++ (kSc k (aHI 4) (aHS 2) (HS 2) ++ (kSc k (aHI 5) (aHS 3) (HS 3) ++ (kSc k (aHI 6) (aHS 4) (HS 4) ++ (kSc k (aHI 7) (aHS 5) (HS 5) ++ (kSc k (aHI 9) (aHS 7) (HS 7) ++ (kHK k (fun i => aHI (10 + i)) aHK (HK) ++ (kWd k o1 aWD (WD) ++ (kSk k (aWD 2) aSK (SK)))))))))))) (ws' := kHi k ot aHI (HI3) ++ (kHS k (fun i => aHI (2 + i)) aHS (HS) ++ (kHK k (fun i => aHI (10 + i)) aHK (HK) ++ (kWd k o1 aWD (WD) ++ (kSc k (aWD 1) aSC (r6) ++ (kSk k (aWD 2) aSK (SK))))))) (run_V (rest := []) X (ctX3_take hZ (aWD 1) (aHI 8) aSC (aHS 6) hcr6) mk_X3_take ml_X0_38 ⟨(Nat.le_of_ble_eq_true rfl), (Nat.le_of_ble_eq_true rfl)⟩ G [92, 93, 94, 95, 96, 97, 98, 99, 100, 57, 58, 59, 60, 61, 62, 63, 64, 65] rfl rfl 92 rfl rfl rfl hl.1 rfl (Nat.le_of_ble_eq_true rfl) dX0_pop_46 ⟨Nat.zero_le _, Nat.zero_le _⟩) rfl G [92, 93, 94, 95, 96, 97, 98, 99, 100, 57, 58, 59, 60, 61, 62, 63, 64, 65] [0, 1, 2, 3, 4, 5, 6, 7, 8, 9, 10, 11, 12, 13, 14, 15, 16, 17, 18, 19, 20, 21, 22, 23, 24, 25, 26, 27, 28, 29, 30, 31, 32, 33, 34, 35, 36, 37, 38, 39, 40, 41, 42, 43, 44, 45, 46, 47, 48, 49, 50, 51, 52, 53, 54, 55, 56, 66, 67, 68, 69, 70, 71, 72, 73, 74, 75, 76, 77, 78, 79, 80, 81, 82, 83, 84, 85, 86, 87, 88, 89, 90, 91, 101, 102] 103 rfl rfl rfl rfl rfl (by decide +kernel) (by decide +kernel) rfl (fun H locs G => ?_)
      refine lv_aload_n hx hb dX0_pop_49 rfl (lv_at hl 1 rfl) ?_
      refine r_get X inw_X8 G 91 rfl rfl 2 (by decide) fl_X0_42 (v := .ref (aWD 2)) rfl dX0_pop_50 ?_
      refine lv_aload_n hx hb dX0_pop_53 rfl (lv_at hl 0 rfl) ?_
      refine r_get X inw_X0 G 0 rfl rfl 1 (by decide) fl_X0_19 (v := .ref (aHI 1)) rfl dX0_pop_54 ?_
      refine lv_aload_n hx hb dX0_pop_57 rfl (lv_at hl 0 rfl) ?_
      refine r_get X inw_X0 G 0 rfl rfl 2 (by decide) fl_X0_23 (v := .int (Hi_next HI3)) rfl dX0_pop_58 ?_
      refine r_top (congrArg Value.int ex4) ?_
      obtain ⟨h7, hf⟩ := ix_some hf
      refine r_aldq X G 2 4 rfl rfl h7 (v := .ref (aHI 16)) (by rw [hnx4]; rfl) dX0_pop_61 ?_
      obtain ⟨r8, hcr8, hf⟩ := bd_some hf
      refine p_N (st1 := []) (wr := kHi k ot aHI (HI3) ++ (kHS k (fun i => aHI (2 + i)) aHS (HS) ++ (kSk k (aHI 10) (aHK 0) (HK 0) ++ (kSk k (aHI 11) (aHK 1) (HK 1) ++ (kSk k (aHI 12) (aHK 2) (HK 2) ++ (kSk k (aHI 13) (aHK 3) (HK 3) ++ (kSk k (aHI 14) (aHK 4) (HK 4) ++ (kSk k (aHI 15) (aHK 5) (HK 5) ++ (kSk k (aHI 17) (aHK 7) (HK 7) ++ (kWd k o1 aWD (WD) ++ (kSc k (aWD 1) aSC (r6)))))))))))) (ws' := kHi k ot aHI (HI3) ++ (kHS k (fun i => aHI (2 + i)) aHS (HS) ++ (kHK k (fun i => aHI (10 + i)) aHK (HK) ++ (kWd k o1 aWD (WD) ++ (kSc k (aWD 1) aSC (r6) ++ (kSk k (aWD 2) aSK (r8))))))) (run_V (rest := []) X (ctX4_take hZ (aWD 2) (aHI 16) aSK (aHK 6) hcr8) mk_X4_take ml_X0_45 ⟨(Nat.le_of_ble_eq_true rfl), (Nat.le_of_ble_eq_true rfl)⟩ G [101, 102, 87, 88] rfl rfl 101 rfl rfl rfl hl.1 rfl (Nat.le_of_ble_eq_true rfl) dX0_pop_62 ⟨Nat.zero_le _, Nat.zero_le _⟩) rfl G [101, 102, 87, 88] [0, 1, 2, 3, 4, 5, 6, 7, 8, 9, 10, 11, 12, 13, 14, 15, 16, 17, 18, 19, 20, 21, 22, 23, 24, 25, 26, 27, 28, 29, 30, 31, 32, 33, 34, 35, 36, 37, 38, 39, 40, 41, 42, 43, 44, 45, 46, 47, 48, 49, 50, 51, 52, 53, 54, 55, 56, 57, 58, 59, 60, 61, 62, 63, 64, 65, 66, 67, 68, 69, 70, 71, 72, 73, 74, 75, 76, 77, 78, 79, 80, 81, 82, 83, 84, 85, 86, 89, 90, 91, 92, 93, 94, 95, 96, 97, 98, 99, 100] 103 rfl rfl rfl rfl rfl (by decide +kernel) (by decide +kernel) rfl (fun H locs G => ?_)
      cases hf
      exact e_mv X G dX0_pop_65
    · rw [hnx4] at hf
      refine r_aldq X G 1 3 rfl rfl h5 (v := .ref (aHI 9)) (by rw [hnx4]; rfl) dX0_pop_45 ?_
      obtain ⟨r6, hcr6, hf⟩ := bd_some hf
      refine p_N (st1 := []) (wr := kHi k ot aHI (HI3) ++ (kSc k (aHI 2) (aHS 0) (HS 0) ++ (kSc k (aHI 3) (aHS 1) (HS 1) ++ (kSc k (aHI 4) (aHS 2) (HS 2) ++ (kSc k (aHI 5) (aHS 3) (HS 3) ++ (kSc k (aHI 6) (aHS 4) (HS 4) ++ (kSc k (aHI 7) (aHS 5) (HS 5) ++ (kSc k (aHI 8) (aHS 6) (HS 6) ++ (kHK k (fun i => aHI (10 + i)) aHK (HK) ++ (kWd k o1 aWD (WD) ++ (kSk k (aWD 2) aSK (SK)))))))))))) (ws' := kHi k ot aHI (HI3) ++ (kHS k (fun i => aHI (2 + i)) aHS (HS) ++ (kHK k (fun i => aHI (10 + i)) aHK (HK) ++ (kWd k o1 aWD (WD) ++ (kSc k (aWD 1) aSC (r6) ++ (kSk k (aWD 2) aSK (SK))))))) (run_V (rest := []) X (ctX3_take hZ (aWD 1) (aHI 9) aSC (aHS 7) hcr6) mk_X3_take ml_X0_38 ⟨(Nat.le_of_ble_eq_true rfl), (Nat.le_of_ble_eq_true rfl)⟩ G [92, 93, 94, 95, 96, 97, 98, 99, 100, 66, 67, 68, 69, 70, 71, 72, 73, 74] rfl rfl 92 rfl rfl rfl hl.1 rfl (Nat.le_of_ble_eq_true rfl) dX0_pop_46 ⟨Nat.zero_le _, Nat.zero_le _⟩) rfl G [92, 93, 94, 95, 96, 97, 98, 99, 100, 66, 67, 68, 69, 70, 71, 72, 73, 74] [0, 1, 2, 3, 4, 5, 6, 7, 8, 9, 10, 11, 12, 13, 14, 15, 16, 17, 18, 19, 20, 21, 22, 23, 24, 25, 26, 27, 28, 29, 30, 31, 32, 33, 34, 35, 36, 37, 38, 39, 40, 41, 42, 43, 44, 45, 46, 47, 48, 49, 50, 51, 52, 53, 54, 55, 56, 57, 58, 59, 60, 61, 62, 63, 64, 65, 75, 76, 77, 78, 79, 80, 81, 82, 83, 84, 85, 86, 87, 88, 89, 90, 91, 101, 102] 103 rfl rfl rfl rfl rfl (by decide +kernel) (by decide +kernel) rfl (fun H locs G => ?_)
      refine lv_aload_n hx hb dX0_pop_49 rfl (lv_at hl 1 rfl) ?_
      refine r_get X inw_X8 G 91 rfl rfl 2 (by decide) fl_X0_42 (v := .ref (aWD 2)) rfl dX0_pop_50 ?_
      refine lv_aload_n hx hb dX0_pop_53 rfl (lv_at hl 0 rfl) ?_
      refine r_get X inw_X0 G 0 rfl rfl 1 (by decide) fl_X0_19 (v := .ref (aHI 1)) rfl dX0_pop_54 ?_
      refine lv_aload_n hx hb dX0_pop_57 rfl (lv_at hl 0 rfl) ?_
      refine r_get X inw_X0 G 0 rfl rfl 2 (by decide) fl_X0_23 (v := .int (Hi_next HI3)) rfl dX0_pop_58 ?_
      refine r_top (congrArg Value.int ex4) ?_
      obtain ⟨h7, hf⟩ := ix_some hf
      refine r_aldq X G 2 4 rfl rfl h7 (v := .ref (aHI 17)) (by rw [hnx4]; rfl) dX0_pop_61 ?_
      obtain ⟨r8, hcr8, hf⟩ := bd_some hf
      refine p_N (st1 := []) (wr := kHi k ot aHI (HI3) ++ (kHS k (fun i => aHI (2 + i)) aHS (HS) ++ (kSk k (aHI 10) (aHK 0) (HK 0) ++ (kSk k (aHI 11) (aHK 1) (HK 1) ++ (kSk k (aHI 12) (aHK 2) (HK 2) ++ (kSk k (aHI 13) (aHK 3) (HK 3) ++ (kSk k (aHI 14) (aHK 4) (HK 4) ++ (kSk k (aHI 15) (aHK 5) (HK 5) ++ (kSk k (aHI 16) (aHK 6) (HK 6) ++ (kWd k o1 aWD (WD) ++ (kSc k (aWD 1) aSC (r6)))))))))))) (ws' := kHi k ot aHI (HI3) ++ (kHS k (fun i => aHI (2 + i)) aHS (HS) ++ (kHK k (fun i => aHI (10 + i)) aHK (HK) ++ (kWd k o1 aWD (WD) ++ (kSc k (aWD 1) aSC (r6) ++ (kSk k (aWD 2) aSK (r8))))))) (run_V (rest := []) X (ctX4_take hZ (aWD 2) (aHI 17) aSK (aHK 7) hcr8) mk_X4_take ml_X0_45 ⟨(Nat.le_of_ble_eq_true rfl), (Nat.le_of_ble_eq_true rfl)⟩ G [101, 102, 89, 90] rfl rfl 101 rfl rfl rfl hl.1 rfl (Nat.le_of_ble_eq_true rfl) dX0_pop_62 ⟨Nat.zero_le _, Nat.zero_le _⟩) rfl G [101, 102, 89, 90] [0, 1, 2, 3, 4, 5, 6, 7, 8, 9, 10, 11, 12, 13, 14, 15, 16, 17, 18, 19, 20, 21, 22, 23, 24, 25, 26, 27, 28, 29, 30, 31, 32, 33, 34, 35, 36, 37, 38, 39, 40, 41, 42, 43, 44, 45, 46, 47, 48, 49, 50, 51, 52, 53, 54, 55, 56, 57, 58, 59, 60, 61, 62, 63, 64, 65, 66, 67, 68, 69, 70, 71, 72, 73, 74, 75, 76, 77, 78, 79, 80, 81, 82, 83, 84, 85, 86, 87, 88, 91, 92, 93, 94, 95, 96, 97, 98, 99, 100] 103 rfl rfl rfl rfl rfl (by decide +kernel) (by decide +kernel) rfl (fun H locs G => ?_)
      cases hf
      exact e_mv X G dX0_pop_65
theorem mk_X0_pop : MV yX0_pop cX0_pop 2 none 1 := ⟨co_X0_pop, in_X0, im_X0_pop, se_X0_pop, by decide +kernel, by decide +kernel⟩
