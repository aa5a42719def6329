noncomputable def FX1_clear (PL : PlT) : Option (PlT) :=
  nm (sPl_workers PL (0 : Int32)) fun PL1 =>
  nm (sPl_window PL1 (4 : Int32)) fun PL2 =>
  nm (sPl_grace PL2 (6 : Int32)) fun PL3 =>
  (FJ7_fill_53178 8 (Pl_lengths PL3) (0 : Int32)).bind fun r4 =>
  nm (sPl_lengths PL3 r4) fun PL5 =>
  (FJ7_fill_53178 4 (Pl_rooms PL5) (1 : Int32)).bind fun r6 =>
  nm (sPl_rooms PL5 r6) fun PL7 =>
  some PL7
set_option maxHeartbeats 4000000 in
set_option maxRecDepth 100000 in
theorem ctX1_clear {l : Launch} {D : va_G} {k : Nat → ClassId} {Z : ZT} (hZ : ZOK Z) (ot : Nat) (aPL : Nat → Nat) {PL : PlT} {q : PlT} (hf : FX1_clear PL = some q) :
    CM l D k Z yX1_clear cX1_clear 1 none 1 23 [.ref ot] none (kPl k ot aPL (PL)) (kPl k ot aPL (q)) := by
  refine CM.start hZ (by decide) (Nat.le_of_ble_eq_true rfl) ?_
  intro p e s m below meth c ls X hl G
  have hx := X.1
  have hb := X.2.1
  have hl : lv_has ls 1 [(0, .ref ot)] := hl
  unfold FX1_clear at hf
  refine lv_aload_n hx hb dX1_clear_0 rfl (lv_at hl 0 rfl) ?_
  refine lv_iconst (v := 0) hx hb dX1_clear_1 (by decide) ?_
  obtain ⟨PL1, ePL1, hf⟩ := nm_some hf
  refine r_put X inw_X1 tyX1 tyX1_ok nmX1 G 0 rfl rfl 0 (by decide) fl_X1_9 rfl rfl rfl (Nat.le_of_ble_eq_true rfl) (ws' := kPl k ot aPL (PL1)) (by subst ePL1; rfl) dX1_clear_2 (fun H locs G => ?_)
  refine lv_aload_n hx hb dX1_clear_5 rfl (lv_at hl 0 rfl) ?_
  refine lv_iconst (v := 4) hx hb dX1_clear_6 (by decide) ?_
  obtain ⟨PL2, ePL2, hf⟩ := nm_some hf
  refine r_put X inw_X1 tyX1 tyX1_ok nmX1 G 0 rfl rfl 1 (by decide) fl_X1_15 rfl rfl rfl (Nat.le_of_ble_eq_true rfl) (ws' := kPl k ot aPL (PL2)) (by subst ePL2; rfl) dX1_clear_7 (fun H locs G => ?_)
  refine lv_aload_n hx hb dX1_clear_10 rfl (lv_at hl 0 rfl) ?_
  refine lv_bipush (v := 6) hx hb dX1_clear_11 (by decide) ?_
  obtain ⟨PL3, ePL3, hf⟩ := nm_some hf
  refine r_put X inw_X1 tyX1 tyX1_ok nmX1 G 0 rfl rfl 2 (by decide) fl_X1_18 rfl rfl rfl (Nat.le_of_ble_eq_true rfl) (ws' := kPl k ot aPL (PL3)) (by subst ePL3; rfl) dX1_clear_13 (fun H locs G => ?_)
  refine lv_aload_n hx hb dX1_clear_16 rfl (lv_at hl 0 rfl) ?_
  refine r_get X inw_X1 G 0 rfl rfl 3 (by decide) fl_X1_21 (v := .ref (aPL 0)) rfl dX1_clear_17 ?_
  refine lv_iconst (v := 0) hx hb dX1_clear_20 (by decide) ?_
  obtain ⟨r4, hcr4, hf⟩ := bd_some hf
  obtain ⟨PL5, ePL5, hf⟩ := nm_some hf
  refine p_N (st1 := []) (wr := [(ot, .inr (1, [.int (Pl_workers PL3), .int (Pl_window PL3), .int (Pl_grace PL3), .ref (aPL 0), .ref (aPL 1), .ref (aPL 2), .ref (aPL 3), .ref (aPL 4)])), (aPL 1, .inl (k 0, 96, .inl (Pl_kinds PL3))), (aPL 2, .inl (k 0, 96, .inl (Pl_numbers PL3))), (aPL 3, .inl (k 0, 96, .inl (Pl_reach PL3))), (aPL 4, .inl (k 0, 4, .inl (Pl_rooms PL3)))]) (ws' := kPl k ot aPL (PL5)) (run_S (rest := []) X (ctJ7_fill_53178 hZ (aPL 0) hcr4) mk_J7_fill_53178 ml_X1_37 ⟨(Nat.le_of_ble_eq_true rfl), (Nat.le_of_ble_eq_true rfl)⟩ G [1] rfl rfl rfl hl.1 rfl (Nat.le_of_ble_eq_true rfl) dX1_clear_21 ⟨Nat.zero_le _, Nat.zero_le _⟩) rfl G [1] [0, 2, 3, 4, 5] 6 rfl (by subst ePL5; rfl) rfl (by subst ePL5; rfl) rfl (by decide) (by decide) rfl (fun H locs G => ?_)
  refine lv_aload_n hx hb dX1_clear_24 rfl (lv_at hl 0 rfl) ?_
  refine r_get X inw_X1 G 0 rfl rfl 7 (by decide) fl_X1_34 (v := .ref (aPL 4)) rfl dX1_clear_25 ?_
  refine lv_iconst (v := 1) hx hb dX1_clear_28 (by decide) ?_
  obtain ⟨r6, hcr6, hf⟩ := bd_some hf
  obtain ⟨PL7, ePL7, hf⟩ := nm_some hf
  refine p_N (st1 := []) (wr := [(ot, .inr (1, [.int (Pl_workers PL5), .int (Pl_window PL5), .int (Pl_grace PL5), .ref (aPL 0), .ref (aPL 1), .ref (aPL 2), .ref (aPL 3), .ref (aPL 4)])), (aPL 0, .inl (k 0, 8, .inl (Pl_lengths PL5))), (aPL 1, .inl (k 0, 96, .inl (Pl_kinds PL5))), (aPL 2, .inl (k 0, 96, .inl (Pl_numbers PL5))), (aPL 3, .inl (k 0, 96, .inl (Pl_reach PL5)))]) (ws' := kPl k ot aPL (PL7)) (run_S (rest := []) X (ctJ7_fill_53178 hZ (aPL 4) hcr6) mk_J7_fill_53178 ml_X1_37 ⟨(Nat.le_of_ble_eq_true rfl), (Nat.le_of_ble_eq_true rfl)⟩ G [5] rfl rfl rfl hl.1 rfl (Nat.le_of_ble_eq_true rfl) dX1_clear_29 ⟨Nat.zero_le _, Nat.zero_le _⟩) rfl G [5] [0, 1, 2, 3, 4] 6 rfl (by subst ePL7; rfl) rfl (by subst ePL7; rfl) rfl (by decide) (by decide) rfl (fun H locs G => ?_)
  cases hf
  exact e_mv X G dX1_clear_32
theorem mk_X1_clear : MV yX1_clear cX1_clear 1 none 0 := ⟨co_X1_clear, in_X1, im_X1_clear, se_X1_clear, by decide +kernel, by decide +kernel⟩
noncomputable def FX1_take (PL : PlT) (PL_2 : PlT) : Option (PlT) :=
  nm (sPl_workers PL (Pl_workers PL_2)) fun PL1 =>
  nm (sPl_window PL1 (Pl_window PL_2)) fun PL2 =>
  nm (sPl_grace PL2 (Pl_grace PL_2)) fun PL3 =>
  (FX9_copy 8 (Pl_lengths PL_2) 8 (Pl_lengths PL3)).bind fun r4 =>
  nm (sPl_lengths PL3 r4) fun PL5 =>
  (FX9_copy 96 (Pl_kinds PL_2) 96 (Pl_kinds PL5)).bind fun r6 =>
  nm (sPl_kinds PL5 r6) fun PL7 =>
  (FX9_copy 96 (Pl_numbers PL_2) 96 (Pl_numbers PL7)).bind fun r8 =>
  nm (sPl_numbers PL7 r8) fun PL9 =>
  (FX9_copy 96 (Pl_reach PL_2) 96 (Pl_reach PL9)).bind fun r10 =>
  nm (sPl_reach PL9 r10) fun PL11 =>
  (FX9_copy 4 (Pl_rooms PL_2) 4 (Pl_rooms PL11)).bind fun r12 =>
  nm (sPl_rooms PL11 r12) fun PL13 =>
  some PL13
set_option maxHeartbeats 4000000 in
set_option maxRecDepth 100000 in
theorem ctX1_take {l : Launch} {D : va_G} {k : Nat → ClassId} {Z : ZT} (hZ : ZOK Z) (ot : Nat) (o1 : Nat) (aPL : Nat → Nat) (aPL_2 : Nat → Nat) {PL : PlT} {PL_2 : PlT} {q : PlT} (hf : FX1_take PL PL_2 = some q) :
    CM l D k Z yX1_take cX1_take 2 none 2 61 [.ref ot, .ref o1] none (kPl k ot aPL (PL) ++ (kPl k o1 aPL_2 (PL_2))) (kPl k ot aPL (q) ++ (kPl k o1 aPL_2 (PL_2))) := by
  refine CM.start hZ (by decide) (Nat.le_of_ble_eq_true rfl) ?_
  intro p e s m below meth c ls X hl G
  have hx := X.1
  have hb := X.2.1
  have hl : lv_has ls 2 [(0, .ref ot), (1, .ref o1)] := hl
  unfold FX1_take at hf
  refine lv_aload_n hx hb dX1_take_0 rfl (lv_at hl 0 rfl) ?_
  refine lv_aload_n hx hb dX1_take_1 rfl (lv_at hl 1 rfl) ?_
  refine r_get X inw_X1 G 6 rfl rfl 0 (by decide) fl_X1_9 (v := .int (Pl_workers PL_2)) rfl dX1_take_2 ?_
  obtain ⟨PL1, ePL1, hf⟩ := nm_some hf
  refine r_put X inw_X1 tyX1 tyX1_ok nmX1 G 0 rfl rfl 0 (by decide) fl_X1_9 rfl rfl rfl (Nat.le_of_ble_eq_true rfl) (ws' := kPl k ot aPL (PL1) ++ (kPl k o1 aPL_2 (PL_2))) (by subst ePL1; rfl) dX1_take_5 (fun H locs G => ?_)
  refine lv_aload_n hx hb dX1_take_8 rfl (lv_at hl 0 rfl) ?_
  refine lv_aload_n hx hb dX1_take_9 rfl (lv_at hl 1 rfl) ?_
  refine r_get X inw_X1 G 6 rfl rfl 1 (by decide) fl_X1_15 (v := .int (Pl_window PL_2)) rfl dX1_take_10 ?_
  obtain ⟨PL2, ePL2, hf⟩ := nm_some hf
  refine r_put X inw_X1 tyX1 tyX1_ok nmX1 G 0 rfl rfl 1 (by decide) fl_X1_15 rfl rfl rfl (Nat.le_of_ble_eq_true rfl) (ws' := kPl k ot aPL (PL2) ++ (kPl k o1 aPL_2 (PL_2))) (by subst ePL2; rfl) dX1_take_13 (fun H locs G => ?_)
  refine lv_aload_n hx hb dX1_take_16 rfl (lv_at hl 0 rfl) ?_
  refine lv_aload_n hx hb dX1_take_17 rfl (lv_at hl 1 rfl) ?_
  refine r_get X inw_X1 G 6 rfl rfl 2 (by decide) fl_X1_18 (v := .int (Pl_grace PL_2)) rfl dX1_take_18 ?_
  obtain ⟨PL3, ePL3, hf⟩ := nm_some hf
  refine r_put X inw_X1 tyX1 tyX1_ok nmX1 G 0 rfl rfl 2 (by decide) fl_X1_18 rfl rfl rfl (Nat.le_of_ble_eq_true rfl) (ws' := kPl k ot aPL (PL3) ++ (kPl k o1 aPL_2 (PL_2))) (by subst ePL3; rfl) dX1_take_21 (fun H locs G => ?_)
  refine lv_aload_n hx hb dX1_take_24 rfl (lv_at hl 1 rfl) ?_
  refine r_get X inw_X1 G 6 rfl rfl 3 (by decide) fl_X1_21 (v := .ref (aPL_2 0)) rfl dX1_take_25 ?_
  refine lv_aload_n hx hb dX1_take_28 rfl (lv_at hl 0 rfl) ?_
  refine r_get X inw_X1 G 0 rfl rfl 3 (by decide) fl_X1_21 (v := .ref (aPL 0)) rfl dX1_take_29 ?_
  obtain ⟨r4, hcr4, hf⟩ := bd_some hf
  obtain ⟨PL5, ePL5, hf⟩ := nm_some hf
  refine p_N (st1 := []) (wr := [(ot, .inr (1, [.int (Pl_workers PL3), .int (Pl_window PL3), .int (Pl_grace PL3), .ref (aPL 0), .ref (aPL 1), .ref (aPL 2), .ref (aPL 3), .ref (aPL 4)])), (aPL 1, .inl (k 0, 96, .inl (Pl_kinds PL3))), (aPL 2, .inl (k 0, 96, .inl (Pl_numbers PL3))), (aPL 3, .inl (k 0, 96, .inl (Pl_reach PL3))), (aPL 4, .inl (k 0, 4, .inl (Pl_rooms PL3)))] ++ ([(o1, .inr (1, [.int (Pl_workers PL_2), .int (Pl_window PL_2), .int (Pl_grace PL_2), .ref (aPL_2 0), .ref (aPL_2 1), .ref (aPL_2 2), .ref (aPL_2 3), .ref (aPL_2 4)])), (aPL_2 1, .inl (k 0, 96, .inl (Pl_kinds PL_2))), (aPL_2 2, .inl (k 0, 96, .inl (Pl_numbers PL_2))), (aPL_2 3, .inl (k 0, 96, .inl (Pl_reach PL_2))), (aPL_2 4, .inl (k 0, 4, .inl (Pl_rooms PL_2)))])) (ws' := kPl k ot aPL (PL5) ++ (kPl k o1 aPL_2 (PL_2))) (run_N (rest := []) X (ctX9_copy hZ (aPL_2 0) (aPL 0) hcr4) mk_X9_copy mn_X1_43 ⟨(Nat.le_of_ble_eq_true rfl), (Nat.le_of_ble_eq_true rfl)⟩ G [7, 1] rfl rfl rfl hl.1 rfl (Nat.le_of_ble_eq_true rfl) dX1_take_32 ⟨Nat.zero_le _, Nat.zero_le _⟩) rfl G [7, 1] [0, 2, 3, 4, 5, 6, 8, 9, 10, 11] 12 rfl (by subst ePL5; rfl) rfl (by subst ePL5; rfl) rfl (by decide) (by decide) rfl (fun H locs G => ?_)
  refine lv_aload_n hx hb dX1_take_35 rfl (lv_at hl 1 rfl) ?_
  refine r_get X inw_X1 G 6 rfl rfl 4 (by decide) fl_X1_25 (v := .ref (aPL_2 1)) rfl dX1_take_36 ?_
  refine lv_aload_n hx hb dX1_take_39 rfl (lv_at hl 0 rfl) ?_
  refine r_get X inw_X1 G 0 rfl rfl 4 (by decide) fl_X1_25 (v := .ref (aPL 1)) rfl dX1_take_40 ?_
  obtain ⟨r6, hcr6, hf⟩ := bd_some hf
  obtain ⟨PL7, ePL7, hf⟩ := nm_some hf
  refine p_N (st1 := []) (wr := [(ot, .inr (1, [.int (Pl_workers PL5), .int (Pl_window PL5), .int (Pl_grace PL5), .ref (aPL 0), .ref (aPL 1), .ref (aPL 2), .ref (aPL 3), .ref (aPL 4)])), (aPL 0, .inl (k 0, 8, .inl (Pl_lengths PL5))), (aPL 2, .inl (k 0, 96, .inl (Pl_numbers PL5))), (aPL 3, .inl (k 0, 96, .inl (Pl_reach PL5))), (aPL 4, .inl (k 0, 4, .inl (Pl_rooms PL5)))] ++ ([(o1, .inr (1, [.int (Pl_workers PL_2), .int (Pl_window PL_2), .int (Pl_grace PL_2), .ref (aPL_2 0), .ref (aPL_2 1), .ref (aPL_2 2), .ref (aPL_2 3), .ref (aPL_2 4)])), (aPL_2 0, .inl (k 0, 8, .inl (Pl_lengths PL_2))), (aPL_2 2, .inl (k 0, 96, .inl (Pl_numbers PL_2))), (aPL_2 3, .inl (k 0, 96, .inl (Pl_reach PL_2))), (aPL_2 4, .inl (k 0, 4, .inl (Pl_rooms PL_2)))])) (ws' := kPl k ot aPL (PL7) ++ (kPl k o1 aPL_2 (PL_2))) (run_N (rest := []) X (ctX9_copy hZ (aPL_2 1) (aPL 1) hcr6) mk_X9_copy mn_X1_43 ⟨(Nat.le_of_ble_eq_true rfl), (Nat.le_of_ble_eq_true rfl)⟩ G [8, 2] rfl rfl rfl hl.1 rfl (Nat.le_of_ble_eq_true rfl) dX1_take_43 ⟨Nat.zero_le _, Nat.zero_le _⟩) rfl G [8, 2] [0, 1, 3, 4, 5, 6, 7, 9, 10, 11] 12 rfl (by subst ePL7; rfl) rfl (by subst ePL7; rfl) rfl (by decide) (by decide) rfl (fun H locs G => ?_)
  refine lv_aload_n hx hb dX1_take_46 rfl (lv_at hl 1 rfl) ?_
  refine r_get X inw_X1 G 6 rfl rfl 5 (by decide) fl_X1_28 (v := .ref (aPL_2 2)) rfl dX1_take_47 ?_
  refine lv_aload_n hx hb dX1_take_50 rfl (lv_at hl 0 rfl) ?_
  refine r_get X inw_X1 G 0 rfl rfl 5 (by decide) fl_X1_28 (v := .ref (aPL 2)) rfl dX1_take_51 ?_
  obtain ⟨r8, hcr8, hf⟩ := bd_some hf
  obtain ⟨PL9, ePL9, hf⟩ := nm_some hf
  refine p_N (st1 := []) (wr := [(ot, .inr (1, [.int (Pl_workers PL7), .int (Pl_window PL7), .int (Pl_grace PL7), .ref (aPL 0), .ref (aPL 1), .ref (aPL 2), .ref (aPL 3), .ref (aPL 4)])), (aPL 0, .inl (k 0, 8, .inl (Pl_lengths PL7))), (aPL 1, .inl (k 0, 96, .inl (Pl_kinds PL7))), (aPL 3, .inl (k 0, 96, .inl (Pl_reach PL7))), (aPL 4, .inl (k 0, 4, .inl (Pl_rooms PL7)))] ++ ([(o1, .inr (1, [.int (Pl_workers PL_2), .int (Pl_window PL_2), .int (Pl_grace PL_2), .ref (aPL_2 0), .ref (aPL_2 1), .ref (aPL_2 2), .ref (aPL_2 3), .ref (aPL_2 4)])), (aPL_2 0, .inl (k 0, 8, .inl (Pl_lengths PL_2))), (aPL_2 1, .inl (k 0, 96, .inl (Pl_kinds PL_2))), (aPL_2 3, .inl (k 0, 96, .inl (Pl_reach PL_2))), (aPL_2 4, .inl (k 0, 4, .inl (Pl_rooms PL_2)))])) (ws' := kPl k ot aPL (PL9) ++ (kPl k o1 aPL_2 (PL_2))) (run_N (rest := []) X (ctX9_copy hZ (aPL_2 2) (aPL 2) hcr8) mk_X9_copy mn_X1_43 ⟨(Nat.le_of_ble_eq_true rfl), (Nat.le_of_ble_eq_true rfl)⟩ G [9, 3] rfl rfl rfl hl.1 rfl (Nat.le_of_ble_eq_true rfl) dX1_take_54 ⟨Nat.zero_le _, Nat.zero_le _⟩) rfl G [9, 3] [0, 1, 2, 4, 5, 6, 7, 8, 10, 11] 12 rfl (by subst ePL9; rfl) rfl (by subst ePL9; rfl) rfl (by decide) (by decide) rfl (fun H locs G => ?_)
  refine lv_aload_n hx hb dX1_take_57 rfl (lv_at hl 1 rfl) ?_
  refine r_get X inw_X1 G 6 rfl rfl 6 (by decide) fl_X1_31 (v := .ref (aPL_2 3)) rfl dX1_take_58 ?_
  refine lv_aload_n hx hb dX1_take_61 rfl (lv_at hl 0 rfl) ?_
  refine r_get X inw_X1 G 0 rfl rfl 6 (by decide) fl_X1_31 (v := .ref (aPL 3)) rfl dX1_take_62 ?_
  obtain ⟨r10, hcr10, hf⟩ := bd_some hf
  obtain ⟨PL11, ePL11, hf⟩ := nm_some hf
  refine p_N (st1 := []) (wr := [(ot, .inr (1, [.int (Pl_workers PL9), .int (Pl_window PL9), .int (Pl_grace PL9), .ref (aPL 0), .ref (aPL 1), .ref (aPL 2), .ref (aPL 3), .ref (aPL 4)])), (aPL 0, .inl (k 0, 8, .inl (Pl_lengths PL9))), (aPL 1, .inl (k 0, 96, .inl (Pl_kinds PL9))), (aPL 2, .inl (k 0, 96, .inl (Pl_numbers PL9))), (aPL 4, .inl (k 0, 4, .inl (Pl_rooms PL9)))] ++ ([(o1, .inr (1, [.int (Pl_workers PL_2), .int (Pl_window PL_2), .int (Pl_grace PL_2), .ref (aPL_2 0), .ref (aPL_2 1), .ref (aPL_2 2), .ref (aPL_2 3), .ref (aPL_2 4)])), (aPL_2 0, .inl (k 0, 8, .inl (Pl_lengths PL_2))), (aPL_2 1, .inl (k 0, 96, .inl (Pl_kinds PL_2))), (aPL_2 2, .inl (k 0, 96, .inl (Pl_numbers PL_2))), (aPL_2 4, .inl (k 0, 4, .inl (Pl_rooms PL_2)))])) (ws' := kPl k ot aPL (PL11) ++ (kPl k o1 aPL_2 (PL_2))) (run_N (rest := []) X (ctX9_copy hZ (aPL_2 3) (aPL 3) hcr10) mk_X9_copy mn_X1_43 ⟨(Nat.le_of_ble_eq_true rfl), (Nat.le_of_ble_eq_true rfl)⟩ G [10, 4] rfl rfl rfl hl.1 rfl (Nat.le_of_ble_eq_true rfl) dX1_take_65 ⟨Nat.zero_le _, Nat.zero_le _⟩) rfl G [10, 4] [0, 1, 2, 3, 5, 6, 7, 8, 9, 11] 12 rfl (by subst ePL11; rfl) rfl (by subst ePL11; rfl) rfl (by decide) (by decide) rfl (fun H locs G => ?_)
  refine lv_aload_n hx hb dX1_take_68 rfl (lv_at hl 1 rfl) ?_
  refine r_get X inw_X1 G 6 rfl rfl 7 (by decide) fl_X1_34 (v := .ref (aPL_2 4)) rfl dX1_take_69 ?_
  refine lv_aload_n hx hb dX1_take_72 rfl (lv_at hl 0 rfl) ?_
  refine r_get X inw_X1 G 0 rfl rfl 7 (by decide) fl_X1_34 (v := .ref (aPL 4)) rfl dX1_take_73 ?_
  obtain ⟨r12, hcr12, hf⟩ := bd_some hf
  obtain ⟨PL13, ePL13, hf⟩ := nm_some hf
  refine p_N (st1 := []) (wr := [(ot, .inr (1, [.int (Pl_workers PL11), .int (Pl_window PL11), .int (Pl_grace PL11), .ref (aPL 0), .ref (aPL 1), .ref (aPL 2), .ref (aPL 3), .ref (aPL 4)])), (aPL 0, .inl (k 0, 8, .inl (Pl_lengths PL11))), (aPL 1, .inl (k 0, 96, .inl (Pl_kinds PL11))), (aPL 2, .inl (k 0, 96, .inl (Pl_numbers PL11))), (aPL 3, .inl (k 0, 96, .inl (Pl_reach PL11)))] ++ ([(o1, .inr (1, [.int (Pl_workers PL_2), .int (Pl_window PL_2), .int (Pl_grace PL_2), .ref (aPL_2 0), .ref (aPL_2 1), .ref (aPL_2 2), .ref (aPL_2 3), .ref (aPL_2 4)])), (aPL_2 0, .inl (k 0, 8, .inl (Pl_lengths PL_2))), (aPL_2 1, .inl (k 0, 96, .inl (Pl_kinds PL_2))), (aPL_2 2, .inl (k 0, 96, .inl (Pl_numbers PL_2))), (aPL_2 3, .inl (k 0, 96, .inl (Pl_reach PL_2)))])) (ws' := kPl k ot aPL (PL13) ++ (kPl k o1 aPL_2 (PL_2))) (run_N (rest := []) X (ctX9_copy hZ (aPL_2 4) (aPL 4) hcr12) mk_X9_copy mn_X1_43 ⟨(Nat.le_of_ble_eq_true rfl), (Nat.le_of_ble_eq_true rfl)⟩ G [11, 5] rfl rfl rfl hl.1 rfl (Nat.le_of_ble_eq_true rfl) dX1_take_76 ⟨Nat.zero_le _, Nat.zero_le _⟩) rfl G [11, 5] [0, 1, 2, 3, 4, 6, 7, 8, 9, 10] 12 rfl (by subst ePL13; rfl) rfl (by subst ePL13; rfl) rfl (by decide) (by decide) rfl (fun H locs G => ?_)
  cases hf
  exact e_mv X G dX1_take_79
theorem mk_X1_take : MV yX1_take cX1_take 2 none 1 := ⟨co_X1_take, in_X1, im_X1_take, se_X1_take, by decide +kernel, by decide +kernel⟩
noncomputable def FX1_addWorker (PL : PlT) : Option (Bool × PlT) :=
  if (Pl_workers PL) < (8 : Int32) then (
    nm (sPl_workers PL ((Pl_workers PL) + (1 : Int32))) fun PL2 =>
    some (true, PL2)
  ) else (
    some (false, PL)
  )
set_option maxHeartbeats 4000000 in
set_option maxRecDepth 100000 in
theorem ctX1_addWorker {l : Launch} {D : va_G} {k : Nat → ClassId} {Z : ZT} (hZ : ZOK Z) (ot : Nat) (aPL : Nat → Nat) {PL : PlT} {q : Bool × PlT} (hf : FX1_addWorker PL = some q) :
    CM l D k Z yX1_addWorker cX1_addWorker 1 (some .boolean) 0 0 [.ref ot] (some (.int (bI q.1))) (kPl k ot aPL (PL)) (kPl k ot aPL (q.2)) := by
  refine CM.start hZ (by decide) (Nat.le_of_ble_eq_true rfl) ?_
  intro p e s m below meth c ls X hl G
  have hx := X.1
  have hb := X.2.1
  have hl : lv_has ls 1 [(0, .ref ot)] := hl
  unfold FX1_addWorker at hf
  refine lv_aload_n hx hb dX1_addWorker_0 rfl (lv_at hl 0 rfl) ?_
  refine r_get X inw_X1 G 0 rfl rfl 0 (by decide) fl_X1_9 (v := .int (Pl_workers PL)) rfl dX1_addWorker_1 ?_
  refine lv_bipush (v := 8) hx hb dX1_addWorker_4 (by decide) ?_
  refine lv_icmp_lt (tgt := 11) hx hb dX1_addWorker_6 (by decide) (fun c1 => ?_) (fun c1 => ?_)
  · replace hf := if_t hf c1
    refine lv_aload_n hx hb dX1_addWorker_11 rfl (lv_at hl 0 rfl) ?_
    refine lv_dup hx hb dX1_addWorker_12 rfl ?_
    refine r_get X inw_X1 G 0 rfl rfl 0 (by decide) fl_X1_9 (v := .int (Pl_workers PL)) rfl dX1_addWorker_13 ?_
    refine lv_iconst (v := 1) hx hb dX1_addWorker_16 (by decide) ?_
    refine lv_iadd hx hb dX1_addWorker_17 ?_
    obtain ⟨PL2, ePL2, hf⟩ := nm_some hf
    refine r_put X inw_X1 tyX1 tyX1_ok nmX1 G 0 rfl rfl 0 (by decide) fl_X1_9 rfl rfl rfl (Nat.le_of_ble_eq_true rfl) (ws' := kPl k ot aPL (PL2)) (by subst ePL2; rfl) dX1_addWorker_18 (fun H locs G => ?_)
    refine lv_iconst (v := 1) hx hb dX1_addWorker_21 (by decide) ?_
    cases hf
    exact e_mz _ rfl X G dX1_addWorker_22
  · replace hf := if_f hf c1
    refine lv_iconst (v := 0) hx hb dX1_addWorker_9 (by decide) ?_
    cases hf
    exact e_mz _ rfl X G dX1_addWorker_10
theorem mk_X1_addWorker : MV yX1_addWorker cX1_addWorker 1 (some .boolean) 0 := ⟨co_X1_addWorker, in_X1, im_X1_addWorker, se_X1_addWorker, by decide +kernel, by decide +kernel⟩
noncomputable def FX1_addStep (PL : PlT) (v1 : Int32) : Option (Int32 × PlT) :=
  nm ((Pl_workers PL) - (1 : Int32)) fun x1 =>
  if x1 < 0 then (
    some ((-1 : Int32), PL)
  ) else (
    if (8 : Int32) ≤ x1 then (
      some ((-1 : Int32), PL)
    ) else (
      ix x1 8 <|
      if (Pl_lengths PL (Int32.toNatClampNeg x1)) < (12 : Int32) then (
        ix x1 8 <|
        nm ((x1 * (12 : Int32)) + (Pl_lengths PL (Int32.toNatClampNeg x1))) fun x7 =>
        ix x1 8 <|
        ix x1 8 <|
        nm (sPl_lengths PL (upd (Pl_lengths PL) (Int32.toNatClampNeg x1) ((Pl_lengths PL (Int32.toNatClampNeg x1)) + (1 : Int32)))) fun PL10 =>
        ix x7 96 <|
        nm (sPl_kinds PL10 (upd (Pl_kinds PL10) (Int32.toNatClampNeg x7) v1)) fun PL12 =>
        ix x7 96 <|
        nm (sPl_numbers PL12 (upd (Pl_numbers PL12) (Int32.toNatClampNeg x7) (-1 : Int32))) fun PL14 =>
        some (x7, PL14)
      ) else (
        some ((-1 : Int32), PL)
      )
    )
  )
set_option maxHeartbeats 4000000 in
set_option maxRecDepth 100000 in
theorem ctX1_addStep {l : Launch} {D : va_G} {k : Nat → ClassId} {Z : ZT} (hZ : ZOK Z) (ot : Nat) (aPL : Nat → Nat) {PL : PlT} {v1 : Int32} {q : Int32 × PlT} (hf : FX1_addStep PL v1 = some q) :
    CM l D k Z yX1_addStep cX1_addStep 4 (some .int) 0 0 [.ref ot, .int v1] (some (.int q.1)) (kPl k ot aPL (PL)) (kPl k ot aPL (q.2)) := by
  refine CM.start hZ (by decide) (Nat.le_of_ble_eq_true rfl) ?_
  intro p e s m below meth c ls X hl G
  have hx := X.1
  have hb := X.2.1
  have hl : lv_has ls 4 [(0, .ref ot), (1, .int v1)] := hl
  unfold FX1_addStep at hf
  refine lv_aload_n hx hb dX1_addStep_0 rfl (lv_at hl 0 rfl) ?_
  refine r_get X inw_X1 G 0 rfl rfl 0 (by decide) fl_X1_9 (v := .int (Pl_workers PL)) rfl dX1_addStep_1 ?_
  refine lv_iconst (v := 1) hx hb dX1_addStep_4 (by decide) ?_
  refine lv_isub hx hb dX1_addStep_5 ?_
  obtain ⟨x1, ex1, hf⟩ := nm_some hf
  refine r_top (congrArg Value.int ex1) ?_
  refine lv_istore_n (lv' := [(2, .int x1), (0, .ref ot), (1, .int v1)]) hx hb dX1_addStep_6 rfl hl (by decide) rfl (fun ls hl => ?_)
  refine lv_iload_n hx hb dX1_addStep_7 rfl (lv_at hl 0 rfl) ?_
  refine lv_if_lt (tgt := 28) hx hb dX1_addStep_8 (by decide) (fun c2 => ?_) (fun c2 => ?_)
  · replace hf := if_t hf c2
    refine lv_iconst (v := -1) hx hb dX1_addStep_28 (by decide) ?_
    cases hf
    exact e_mi X G dX1_addStep_29
  · replace hf := if_f hf c2
    refine lv_iload_n hx hb dX1_addStep_11 rfl (lv_at hl 0 rfl) ?_
    refine lv_bipush (v := 8) hx hb dX1_addStep_12 (by decide) ?_
    refine lv_icmp_ge (tgt := 28) hx hb dX1_addStep_14 (by decide) (fun c3 => ?_) (fun c3 => ?_)
    · replace hf := if_t hf c3
      refine lv_iconst (v := -1) hx hb dX1_addStep_28 (by decide) ?_
      cases hf
      exact e_mi X G dX1_addStep_29
    · replace hf := if_f hf c3
      refine lv_aload_n hx hb dX1_addStep_17 rfl (lv_at hl 1 rfl) ?_
      refine r_get X inw_X1 G 0 rfl rfl 3 (by decide) fl_X1_21 (v := .ref (aPL 0)) rfl dX1_addStep_18 ?_
      refine lv_iload_n hx hb dX1_addStep_21 rfl (lv_at hl 0 rfl) ?_
      obtain ⟨h4, hf⟩ := ix_some hf
      refine r_iald X G 1 rfl h4 dX1_addStep_22 ?_
      refine lv_bipush (v := 12) hx hb dX1_addStep_23 (by decide) ?_
      refine lv_icmp_lt (tgt := 30) hx hb dX1_addStep_25 (by decide) (fun c5 => ?_) (fun c5 => ?_)
      · replace hf := if_t hf c5
        refine lv_iload_n hx hb dX1_addStep_30 rfl (lv_at hl 0 rfl) ?_
        refine lv_bipush (v := 12) hx hb dX1_addStep_31 (by decide) ?_
        refine lv_imul hx hb dX1_addStep_33 ?_
        refine lv_aload_n hx hb dX1_addStep_34 rfl (lv_at hl 1 rfl) ?_
        refine r_get X inw_X1 G 0 rfl rfl 3 (by decide) fl_X1_21 (v := .ref (aPL 0)) rfl dX1_addStep_35 ?_
        refine lv_iload_n hx hb dX1_addStep_38 rfl (lv_at hl 0 rfl) ?_
        obtain ⟨h6, hf⟩ := ix_some hf
        refine r_iald X G 1 rfl h6 dX1_addStep_39 ?_
        refine lv_iadd hx hb dX1_addStep_40 ?_
        obtain ⟨x7, ex7, hf⟩ := nm_some hf
        refine r_top (congrArg Value.int ex7) ?_
        refine lv_istore_n (lv' := [(3, .int x7), (2, .int x1), (0, .ref ot), (1, .int v1)]) hx hb dX1_addStep_41 rfl hl (by decide) rfl (fun ls hl => ?_)
        refine lv_aload_n hx hb dX1_addStep_42 rfl (lv_at hl 2 rfl) ?_
        refine r_get X inw_X1 G 0 rfl rfl 3 (by decide) fl_X1_21 (v := .ref (aPL 0)) rfl dX1_addStep_43 ?_
        refine lv_iload_n hx hb dX1_addStep_46 rfl (lv_at hl 1 rfl) ?_
        refine lv_dup2_11 hx hb dX1_addStep_47 rfl rfl ?_
        obtain ⟨h8, hf⟩ := ix_some hf
        refine r_iald X G 1 rfl h8 dX1_addStep_48 ?_
        refine lv_iconst (v := 1) hx hb dX1_addStep_49 (by decide) ?_
        refine lv_iadd hx hb dX1_addStep_50 ?_
        obtain ⟨h9, hf⟩ := ix_some hf
        obtain ⟨PL10, ePL10, hf⟩ := nm_some hf
        refine r_iast X G 1 rfl h9 (ws' := kPl k ot aPL (PL10)) (by subst ePL10; rfl) dX1_addStep_51 (fun H locs G => ?_)
        refine lv_aload_n hx hb dX1_addStep_52 rfl (lv_at hl 2 rfl) ?_
        refine r_get X inw_X1 G 0 rfl rfl 4 (by decide) fl_X1_25 (v := .ref (aPL 1)) rfl dX1_addStep_53 ?_
        refine lv_iload_n hx hb dX1_addStep_56 rfl (lv_at hl 0 rfl) ?_
        refine lv_iload_n hx hb dX1_addStep_57 rfl (lv_at hl 3 rfl) ?_
        obtain ⟨h11, hf⟩ := ix_some hf
        obtain ⟨PL12, ePL12, hf⟩ := nm_some hf
        refine r_iast X G 2 rfl h11 (ws' := kPl k ot aPL (PL12)) (by subst ePL12; rfl) dX1_addStep_58 (fun H locs G => ?_)
        refine lv_aload_n hx hb dX1_addStep_59 rfl (lv_at hl 2 rfl) ?_
        refine r_get X inw_X1 G 0 rfl rfl 5 (by decide) fl_X1_28 (v := .ref (aPL 2)) rfl dX1_addStep_60 ?_
        refine lv_iload_n hx hb dX1_addStep_63 rfl (lv_at hl 0 rfl) ?_
        refine lv_iconst (v := -1) hx hb dX1_addStep_64 (by decide) ?_
        obtain ⟨h13, hf⟩ := ix_some hf
        obtain ⟨PL14, ePL14, hf⟩ := nm_some hf
        refine r_iast X G 3 rfl h13 (ws' := kPl k ot aPL (PL14)) (by subst ePL14; rfl) dX1_addStep_65 (fun H locs G => ?_)
        refine lv_iload_n hx hb dX1_addStep_66 rfl (lv_at hl 0 rfl) ?_
        cases hf
        exact e_mi X G dX1_addStep_67
      · replace hf := if_f hf c5
        refine lv_iconst (v := -1) hx hb dX1_addStep_28 (by decide) ?_
        cases hf
        exact e_mi X G dX1_addStep_29
theorem mk_X1_addStep : MV yX1_addStep cX1_addStep 4 (some .int) 1 := ⟨co_X1_addStep, in_X1, im_X1_addStep, se_X1_addStep, by decide +kernel, by decide +kernel⟩
noncomputable def FX1_cellOf (PL : PlT) (v1 : Int32) (v2 : Int32) : Option (Int32) :=
  if v1 < 0 then (
    some (-1 : Int32)
  ) else (
    if (Pl_workers PL) ≤ v1 then (
      some (-1 : Int32)
    ) else (
      if v2 < 0 then (
        some (-1 : Int32)
      ) else (
        ix v1 8 <|
        if v2 < (Pl_lengths PL (Int32.toNatClampNeg v1)) then (
          some ((v1 * (12 : Int32)) + v2)
        ) else (
          some (-1 : Int32)
        )
      )
    )
  )
set_option maxHeartbeats 4000000 in
set_option maxRecDepth 100000 in
theorem ctX1_cellOf {l : Launch} {D : va_G} {k : Nat → ClassId} {Z : ZT} (hZ : ZOK Z) (ot : Nat) (aPL : Nat → Nat) {PL : PlT} {v1 : Int32} {v2 : Int32} {q : Int32} (hf : FX1_cellOf PL v1 v2 = some q) :
    CR l D k Z yX1_cellOf cX1_cellOf 3 (some .int) 0 0 [.ref ot, .int v1, .int v2] (some (.int q)) (kPl k ot aPL (PL)) := by
  refine CR.start hZ (by decide) (Nat.le_of_ble_eq_true rfl) ?_
  intro p e s m below meth c ls X hl G
  have hx := X.1
  have hb := X.2.1
  have hl : lv_has ls 3 [(0, .ref ot), (1, .int v1), (2, .int v2)] := hl
  unfold FX1_cellOf at hf
  refine lv_iload_n hx hb dX1_cellOf_0 rfl (lv_at hl 1 rfl) ?_
  refine lv_if_lt (tgt := 26) hx hb dX1_cellOf_1 (by decide) (fun c1 => ?_) (fun c1 => ?_)
  · replace hf := if_t hf c1
    refine lv_iconst (v := -1) hx hb dX1_cellOf_26 (by decide) ?_
    cases hf
    exact e_ri X dX1_cellOf_27
  · replace hf := if_f hf c1
    refine lv_iload_n hx hb dX1_cellOf_4 rfl (lv_at hl 1 rfl) ?_
    refine lv_aload_n hx hb dX1_cellOf_5 rfl (lv_at hl 0 rfl) ?_
    refine r_get X inw_X1 G 0 rfl rfl 0 (by decide) fl_X1_9 (v := .int (Pl_workers PL)) rfl dX1_cellOf_6 ?_
    refine lv_icmp_ge (tgt := 26) hx hb dX1_cellOf_9 (by decide) (fun c2 => ?_) (fun c2 => ?_)
    · replace hf := if_t hf c2
      refine lv_iconst (v := -1) hx hb dX1_cellOf_26 (by decide) ?_
      cases hf
      exact e_ri X dX1_cellOf_27
    · replace hf := if_f hf c2
      refine lv_iload_n hx hb dX1_cellOf_12 rfl (lv_at hl 2 rfl) ?_
      refine lv_if_lt (tgt := 26) hx hb dX1_cellOf_13 (by decide) (fun c3 => ?_) (fun c3 => ?_)
      · replace hf := if_t hf c3
        refine lv_iconst (v := -1) hx hb dX1_cellOf_26 (by decide) ?_
        cases hf
        exact e_ri X dX1_cellOf_27
      · replace hf := if_f hf c3
        refine lv_iload_n hx hb dX1_cellOf_16 rfl (lv_at hl 2 rfl) ?_
        refine lv_aload_n hx hb dX1_cellOf_17 rfl (lv_at hl 0 rfl) ?_
        refine r_get X inw_X1 G 0 rfl rfl 3 (by decide) fl_X1_21 (v := .ref (aPL 0)) rfl dX1_cellOf_18 ?_
        refine lv_iload_n hx hb dX1_cellOf_21 rfl (lv_at hl 1 rfl) ?_
        obtain ⟨h4, hf⟩ := ix_some hf
        refine r_iald X G 1 rfl h4 dX1_cellOf_22 ?_
        refine lv_icmp_lt (tgt := 28) hx hb dX1_cellOf_23 (by decide) (fun c5 => ?_) (fun c5 => ?_)
        · replace hf := if_t hf c5
          refine lv_iload_n hx hb dX1_cellOf_28 rfl (lv_at hl 1 rfl) ?_
          refine lv_bipush (v := 12) hx hb dX1_cellOf_29 (by decide) ?_
          refine lv_imul hx hb dX1_cellOf_31 ?_
          refine lv_iload_n hx hb dX1_cellOf_32 rfl (lv_at hl 2 rfl) ?_
          refine lv_iadd hx hb dX1_cellOf_33 ?_
          cases hf
          exact e_ri X dX1_cellOf_34
        · replace hf := if_f hf c5
          refine lv_iconst (v := -1) hx hb dX1_cellOf_26 (by decide) ?_
          cases hf
          exact e_ri X dX1_cellOf_27
theorem mk_X1_cellOf : MV yX1_cellOf cX1_cellOf 3 (some .int) 2 := ⟨co_X1_cellOf, in_X1, im_X1_cellOf, se_X1_cellOf, by decide +kernel, by decide +kernel⟩
noncomputable def FX1_kindAt (PL : PlT) (v1 : Int32) (v2 : Int32) : Option (Int32) :=
  (FX1_cellOf PL v1 v2).bind fun r1 =>
  (FX9_at 96 (Pl_kinds PL) r1).bind fun r2 =>
  some r2
set_option maxHeartbeats 4000000 in
set_option maxRecDepth 100000 in
theorem ctX1_kindAt {l : Launch} {D : va_G} {k : Nat → ClassId} {Z : ZT} (hZ : ZOK Z) (ot : Nat) (aPL : Nat → Nat) {PL : PlT} {v1 : Int32} {v2 : Int32} {q : Int32} (hf : FX1_kindAt PL v1 v2 = some q) :
    CR l D k Z yX1_kindAt cX1_kindAt 3 (some .int) 1 22 [.ref ot, .int v1, .int v2] (some (.int q)) (kPl k ot aPL (PL)) := by
  refine CR.start hZ (by decide) (Nat.le_of_ble_eq_true rfl) ?_
  intro p e s m below meth c ls X hl G
  have hx := X.1
  have hb := X.2.1
  have hl : lv_has ls 3 [(0, .ref ot), (1, .int v1), (2, .int v2)] := hl
  unfold FX1_kindAt at hf
  refine lv_aload_n hx hb dX1_kindAt_0 rfl (lv_at hl 0 rfl) ?_
  refine r_get X inw_X1 G 0 rfl rfl 4 (by decide) fl_X1_25 (v := .ref (aPL 1)) rfl dX1_kindAt_1 ?_
  refine lv_aload_n hx hb dX1_kindAt_4 rfl (lv_at hl 0 rfl) ?_
  refine lv_iload_n hx hb dX1_kindAt_5 rfl (lv_at hl 1 rfl) ?_
  refine lv_iload_n hx hb dX1_kindAt_6 rfl (lv_at hl 2 rfl) ?_
  obtain ⟨r1, hcr1, hf⟩ := bd_some hf
  refine p_R (st1 := [.int r1, .ref (aPL 1)]) (run_V (rest := [.ref (aPL 1)]) X (ctX1_cellOf hZ ot aPL hcr1) mk_X1_cellOf ml_X1_47 ⟨(Nat.le_of_ble_eq_true rfl), (Nat.le_of_ble_eq_true rfl)⟩ G [0, 1, 2, 3, 4, 5] rfl rfl 0 rfl rfl rfl hl.1 rfl (Nat.le_of_ble_eq_true rfl) dX1_kindAt_7 ⟨Nat.zero_le _, Nat.zero_le _⟩) rfl ?_
  obtain ⟨r2, hcr2, hf⟩ := bd_some hf
  refine p_R (st1 := [.int r2]) (run_N (rest := []) X (ctX9_at hZ (aPL 1) hcr2) mk_X9_at mn_X1_51 ⟨(Nat.le_of_ble_eq_true rfl), (Nat.le_of_ble_eq_true rfl)⟩ G [2] rfl rfl rfl hl.1 rfl (Nat.le_of_ble_eq_true rfl) dX1_kindAt_10 ⟨Nat.zero_le _, Nat.zero_le _⟩) rfl ?_
  cases hf
  exact e_ri X dX1_kindAt_13
theorem mk_X1_kindAt : MV yX1_kindAt cX1_kindAt 3 (some .int) 2 := ⟨co_X1_kindAt, in_X1, im_X1_kindAt, se_X1_kindAt, by decide +kernel, by decide +kernel⟩
noncomputable def FX1_numberAt (PL : PlT) (v1 : Int32) (v2 : Int32) : Option (Int32) :=
  (FX1_cellOf PL v1 v2).bind fun r1 =>
  (FX9_at 96 (Pl_numbers PL) r1).bind fun r2 =>
  some r2
set_option maxHeartbeats 4000000 in
set_option maxRecDepth 100000 in
theorem ctX1_numberAt {l : Launch} {D : va_G} {k : Nat → ClassId} {Z : ZT} (hZ : ZOK Z) (ot : Nat) (aPL : Nat → Nat) {PL : PlT} {v1 : Int32} {v2 : Int32} {q : Int32} (hf : FX1_numberAt PL v1 v2 = some q) :
    CR l D k Z yX1_numberAt cX1_numberAt 3 (some .int) 1 22 [.ref ot, .int v1, .int v2] (some (.int q)) (kPl k ot aPL (PL)) := by
  refine CR.start hZ (by decide) (Nat.le_of_ble_eq_true rfl) ?_
  intro p e s m below meth c ls X hl G
  have hx := X.1
  have hb := X.2.1
  have hl : lv_has ls 3 [(0, .ref ot), (1, .int v1), (2, .int v2)] := hl
  unfold FX1_numberAt at hf
  refine lv_aload_n hx hb dX1_numberAt_0 rfl (lv_at hl 0 rfl) ?_
  refine r_get X inw_X1 G 0 rfl rfl 5 (by decide) fl_X1_28 (v := .ref (aPL 2)) rfl dX1_numberAt_1 ?_
  refine lv_aload_n hx hb dX1_numberAt_4 rfl (lv_at hl 0 rfl) ?_
  refine lv_iload_n hx hb dX1_numberAt_5 rfl (lv_at hl 1 rfl) ?_
  refine lv_iload_n hx hb dX1_numberAt_6 rfl (lv_at hl 2 rfl) ?_
  obtain ⟨r1, hcr1, hf⟩ := bd_some hf
  refine p_R (st1 := [.int r1, .ref (aPL 2)]) (run_V (rest := [.ref (aPL 2)]) X (ctX1_cellOf hZ ot aPL hcr1) mk_X1_cellOf ml_X1_47 ⟨(Nat.le_of_ble_eq_true rfl), (Nat.le_of_ble_eq_true rfl)⟩ G [0, 1, 2, 3, 4, 5] rfl rfl 0 rfl rfl rfl hl.1 rfl (Nat.le_of_ble_eq_true rfl) dX1_numberAt_7 ⟨Nat.zero_le _, Nat.zero_le _⟩) rfl ?_
  obtain ⟨r2, hcr2, hf⟩ := bd_some hf
  refine p_R (st1 := [.int r2]) (run_N (rest := []) X (ctX9_at hZ (aPL 2) hcr2) mk_X9_at mn_X1_51 ⟨(Nat.le_of_ble_eq_true rfl), (Nat.le_of_ble_eq_true rfl)⟩ G [3] rfl rfl rfl hl.1 rfl (Nat.le_of_ble_eq_true rfl) dX1_numberAt_10 ⟨Nat.zero_le _, Nat.zero_le _⟩) rfl ?_
  cases hf
  exact e_ri X dX1_numberAt_13
theorem mk_X1_numberAt : MV yX1_numberAt cX1_numberAt 3 (some .int) 2 := ⟨co_X1_numberAt, in_X1, im_X1_numberAt, se_X1_numberAt, by decide +kernel, by decide +kernel⟩
noncomputable def FX1_reachAt (PL : PlT) (v1 : Int32) (v2 : Int32) : Option (Int32) :=
  (FX1_cellOf PL v1 v2).bind fun r1 =>
  if r1 = (-1 : Int32) then (
    some (0 : Int32)
  ) else (
    (FX9_at 96 (Pl_reach PL) r1).bind fun r3 =>
    some r3
  )
set_option maxHeartbeats 4000000 in
set_option maxRecDepth 100000 in
theorem ctX1_reachAt {l : Launch} {D : va_G} {k : Nat → ClassId} {Z : ZT} (hZ : ZOK Z) (ot : Nat) (aPL : Nat → Nat) {PL : PlT} {v1 : Int32} {v2 : Int32} {q : Int32} (hf : FX1_reachAt PL v1 v2 = some q) :
    CR l D k Z yX1_reachAt cX1_reachAt 4 (some .int) 1 22 [.ref ot, .int v1, .int v2] (some (.int q)) (kPl k ot aPL (PL)) := by
  refine CR.start hZ (by decide) (Nat.le_of_ble_eq_true rfl) ?_
  intro p e s m below meth c ls X hl G
  have hx := X.1
  have hb := X.2.1
  have hl : lv_has ls 4 [(0, .ref ot), (1, .int v1), (2, .int v2)] := hl
  unfold FX1_reachAt at hf
  refine lv_aload_n hx hb dX1_reachAt_0 rfl (lv_at hl 0 rfl) ?_
  refine lv_iload_n hx hb dX1_reachAt_1 rfl (lv_at hl 1 rfl) ?_
  refine lv_iload_n hx hb dX1_reachAt_2 rfl (lv_at hl 2 rfl) ?_
  obtain ⟨r1, hcr1, hf⟩ := bd_some hf
  refine p_R (st1 := [.int r1]) (run_V (rest := []) X (ctX1_cellOf hZ ot aPL hcr1) mk_X1_cellOf ml_X1_47 ⟨(Nat.le_of_ble_eq_true rfl), (Nat.le_of_ble_eq_true rfl)⟩ G [0, 1, 2, 3, 4, 5] rfl rfl 0 rfl rfl rfl hl.1 rfl (Nat.le_of_ble_eq_true rfl) dX1_reachAt_3 ⟨Nat.zero_le _, Nat.zero_le _⟩) rfl ?_
  refine lv_istore_n (lv' := [(3, .int r1), (0, .ref ot), (1, .int v1), (2, .int v2)]) hx hb dX1_reachAt_6 rfl hl (by decide) rfl (fun ls hl => ?_)
  refine lv_iload_n hx hb dX1_reachAt_7 rfl (lv_at hl 0 rfl) ?_
  refine lv_iconst (v := -1) hx hb dX1_reachAt_8 (by decide) ?_
  refine lv_icmp_ne (tgt := 16) hx hb dX1_reachAt_9 (by decide) (fun c2 => ?_) (fun c2 => ?_)
  · replace hf := if_f hf c2
    refine lv_aload_n hx hb dX1_reachAt_16 rfl (lv_at hl 1 rfl) ?_
    refine r_get X inw_X1 G 0 rfl rfl 6 (by decide) fl_X1_31 (v := .ref (aPL 3)) rfl dX1_reachAt_17 ?_
    refine lv_iload_n hx hb dX1_reachAt_20 rfl (lv_at hl 0 rfl) ?_
    obtain ⟨r3, hcr3, hf⟩ := bd_some hf
    refine p_R (st1 := [.int r3]) (run_N (rest := []) X (ctX9_at hZ (aPL 3) hcr3) mk_X9_at mn_X1_51 ⟨(Nat.le_of_ble_eq_true rfl), (Nat.le_of_ble_eq_true rfl)⟩ G [4] rfl rfl rfl hl.1 rfl (Nat.le_of_ble_eq_true rfl) dX1_reachAt_21 ⟨Nat.zero_le _, Nat.zero_le _⟩) rfl ?_
    cases hf
    exact e_ri X dX1_reachAt_24
  · replace hf := if_t hf c2
    refine lv_iconst (v := 0) hx hb dX1_reachAt_12 (by decide) ?_
    refine lv_goto (tgt := 24) hx hb dX1_reachAt_13 (by decide) ?_
    cases hf
    exact e_ri X dX1_reachAt_24
theorem mk_X1_reachAt : MV yX1_reachAt cX1_reachAt 4 (some .int) 2 := ⟨co_X1_reachAt, in_X1, im_X1_reachAt, se_X1_reachAt, by decide +kernel, by decide +kernel⟩
noncomputable def FX1_bitOf (v1 : Int32) (v2 : Int32) : Option (Int32) :=
  if v1 = (3 : Int32) then (
    some ((1 : Int32) <<< (((4 : Int32) + v2) &&& 31))
  ) else (
  if v1 = (4 : Int32) then (
    some ((1 : Int32) <<< (v2 &&& 31))
  ) else (
  if v1 = (5 : Int32) then (
    some ((1 : Int32) <<< (((8 : Int32) + v2) &&& 31))
  ) else (
    some (0 : Int32)
  )))
set_option maxHeartbeats 4000000 in
set_option maxRecDepth 100000 in
theorem ctX1_bitOf {l : Launch} {D : va_G} {k : Nat → ClassId} {Z : ZT} (hZ : ZOK Z)  {v1 : Int32} {v2 : Int32} {q : Int32} (hf : FX1_bitOf v1 v2 = some q) :
    CR l D k Z yX1_bitOf cX1_bitOf 2 (some .int) 0 0 [.int v1, .int v2] (some (.int q)) ([]) := by
  refine CR.start hZ (by decide) (Nat.le_of_ble_eq_true rfl) ?_
  intro p e s m below meth c ls X hl G
  have hx := X.1
  have hb := X.2.1
  have hl : lv_has ls 2 [(0, .int v1), (1, .int v2)] := hl
  unfold FX1_bitOf at hf
  refine lv_iload_n hx hb dX1_bitOf_0 rfl (lv_at hl 0 rfl) ?_
  by_cases c1 : v1 = (3 : Int32)
  · replace hf := if_t hf c1
    refine r_tsw X (tgt := 32) dX1_bitOf_1 (by rw [c1]; decide +kernel) (by rw [c1]; decide +kernel) ?_
    refine lv_iconst (v := 1) hx hb dX1_bitOf_32 (by decide) ?_
    refine lv_iconst (v := 4) hx hb dX1_bitOf_33 (by decide) ?_
    refine lv_iload_n hx hb dX1_bitOf_34 rfl (lv_at hl 1 rfl) ?_
    refine lv_iadd hx hb dX1_bitOf_35 ?_
    refine lv_ishl hx hb dX1_bitOf_36 ?_
    cases hf
    exact e_ri X dX1_bitOf_37
  replace hf := if_f hf c1
  by_cases c2 : v1 = (4 : Int32)
  · replace hf := if_t hf c2
    refine r_tsw X (tgt := 28) dX1_bitOf_1 (by rw [c2]; decide +kernel) (by rw [c2]; decide +kernel) ?_
    refine lv_iconst (v := 1) hx hb dX1_bitOf_28 (by decide) ?_
    refine lv_iload_n hx hb dX1_bitOf_29 rfl (lv_at hl 1 rfl) ?_
    refine lv_ishl hx hb dX1_bitOf_30 ?_
    cases hf
    exact e_ri X dX1_bitOf_31
  replace hf := if_f hf c2
  by_cases c3 : v1 = (5 : Int32)
  · replace hf := if_t hf c3
    refine r_tsw X (tgt := 38) dX1_bitOf_1 (by rw [c3]; decide +kernel) (by rw [c3]; decide +kernel) ?_
    refine lv_iconst (v := 1) hx hb dX1_bitOf_38 (by decide) ?_
    refine lv_bipush (v := 8) hx hb dX1_bitOf_39 (by decide) ?_
    refine lv_iload_n hx hb dX1_bitOf_41 rfl (lv_at hl 1 rfl) ?_
    refine lv_iadd hx hb dX1_bitOf_42 ?_
    refine lv_ishl hx hb dX1_bitOf_43 ?_
    cases hf
    exact e_ri X dX1_bitOf_44
  replace hf := if_f hf c3
  have hd := tsw_d (x := v1) (lo' := 3) (hi' := 5) (dflt := 44) (offs := #[31, 27, 37]) [(3 : Int32), (4 : Int32), (5 : Int32)] (by
      intro k hk
      simp only [List.mem_cons, List.not_mem_nil, or_false] at hk
      rcases hk with rfl | rfl | rfl
      · exact c1
      · exact c2
      · exact c3
      ) 2 (by decide) (by decide +kernel)
  refine r_tsw X (tgt := 45) dX1_bitOf_1 (by rw [hd.1]; rfl) hd.2 ?_
  refine lv_iconst (v := 0) hx hb dX1_bitOf_45 (by decide) ?_
  cases hf
  exact e_ri X dX1_bitOf_46
theorem mk_X1_bitOf : MS yX1_bitOf cX1_bitOf 2 (some .int) 2 := ⟨co_X1_bitOf, in_X1, st_X1_bitOf, trivial, by decide +kernel, by decide +kernel⟩
noncomputable def FX1_reachBetween_6 (PL : PlT) (v1 : Int32) (v3 : Int32) : (Int32 × Int32) → Option ((Int32 × Int32) ⊕ (Int32)) := fun stL1 =>
  if v3 ≤ stL1.2 then (
    some (.inr stL1.1)
  ) else (
    (FX1_kindAt PL v1 stL1.2).bind fun r3 =>
    (FX1_numberAt PL v1 stL1.2).bind fun r4 =>
    (FX1_bitOf r3 r4).bind fun r5 =>
    nm (stL1.1 ||| r5) fun x6 =>
    nm (stL1.2 + 1) fun x7 =>
    some (.inl (x6, x7))
  )
noncomputable def FX1_reachBetween (PL : PlT) (v1 : Int32) (v2 : Int32) (v3 : Int32) : Option (Int32) :=
  (itr (FX1_reachBetween_6 PL v1 v3) ((0 : Int32), v2)).bind fun uL1 =>
  some uL1
set_option maxHeartbeats 4000000 in
set_option maxRecDepth 100000 in
theorem ctX1_reachBetween {l : Launch} {D : va_G} {k : Nat → ClassId} {Z : ZT} (hZ : ZOK Z) (ot : Nat) (aPL : Nat → Nat) {PL : PlT} {v1 : Int32} {v2 : Int32} {v3 : Int32} {q : Int32} (hf : FX1_reachBetween PL v1 v2 v3 = some q) :
    CR l D k Z yX1_reachBetween cX1_reachBetween 6 (some .int) 2 44 [.ref ot, .int v1, .int v2, .int v3] (some (.int q)) (kPl k ot aPL (PL)) := by
  refine CR.start hZ (by decide) (Nat.le_of_ble_eq_true rfl) ?_
  intro p e s m below meth c ls X hl G
  have hx := X.1
  have hb := X.2.1
  have hl : lv_has ls 6 [(0, .ref ot), (1, .int v1), (2, .int v2), (3, .int v3)] := hl
  unfold FX1_reachBetween at hf
  refine lv_iconst (v := 0) hx hb dX1_reachBetween_0 (by decide) ?_
  refine lv_istore (lv' := [(4, .int (0 : Int32)), (0, .ref ot), (1, .int v1), (2, .int v2), (3, .int v3)]) hx hb dX1_reachBetween_1 hl (by decide) rfl (fun ls hl => ?_)
  refine lv_iload_n hx hb dX1_reachBetween_3 rfl (lv_at hl 3 rfl) ?_
  refine lv_istore (lv' := [(5, .int v2), (4, .int (0 : Int32)), (0, .ref ot), (1, .int v1), (2, .int v2), (3, .int v3)]) hx hb dX1_reachBetween_4 hl (by decide) rfl (fun ls hl => ?_)
  obtain ⟨exL1, hitL1, hfL1⟩ := bd_some hf
  obtain ⟨nL1, hitL1⟩ := itr_ex hitL1
  have KL1_0 : ∀ (u : Int32) (ls : Array Slot), exL1 = u → lv_has ls 6 [(4, .int u)] → W p l e (rmz 2 44) s m [.ref ot, .int v1, .int v2, .int v3].toArray below meth c s.heap [] 0 0 (MQ below (Qr (some (.int q))) [.ref ot, .int v1, .int v2, .int v3].toArray s 0 0 (fun _ => False)) (F0 m 40 ls []) := by
    intro uL1 ls hex hl
    rw [hex] at hfL1
    have hf := hfL1
    refine lv_iload hx hb dX1_reachBetween_40 (lv_at hl 0 rfl) ?_
    cases hf
    exact e_ri X dX1_reachBetween_42
  have LL1 : ∀ (n : Nat) (stL1 : Int32 × Int32) (ls : Array Slot), lv_has ls 6 [(0, .ref ot), (1, .int v1), (3, .int v3), (4, .int (stL1.1)), (5, .int (stL1.2))] → it (FX1_reachBetween_6 PL v1 v3) n stL1 = some exL1 → W p l e (rmz 2 44) s m [.ref ot, .int v1, .int v2, .int v3].toArray below meth c s.heap [] 0 0 (MQ below (Qr (some (.int q))) [.ref ot, .int v1, .int v2, .int v3].toArray s 0 0 (fun _ => False)) (F0 m 6 ls []) := by
    intro n
    induction n with
    | zero =>
      intro stL1 ls hl hit
      exact (it_zero hit).elim
    | succ n ih =>
      intro stL1 ls hl hit
      obtain ⟨oL1, hf, hoL1⟩ := it_bd hit
      unfold FX1_reachBetween_6 at hf
      refine lv_iload hx hb dX1_reachBetween_6 (lv_at hl 4 rfl) ?_
      refine lv_iload_n hx hb dX1_reachBetween_8 rfl (lv_at hl 2 rfl) ?_
      refine lv_icmp_ge (tgt := 40) hx hb dX1_reachBetween_9 (by decide) (fun c2 => ?_) (fun c2 => ?_)
      · replace hf := if_t hf c2
        cases hf
        exact KL1_0 stL1.1 _ (it_out hoL1) (lv_sub hl [3] rfl)
      · replace hf := if_f hf c2
        refine lv_iload hx hb dX1_reachBetween_12 (lv_at hl 3 rfl) ?_
        refine lv_aload_n hx hb dX1_reachBetween_14 rfl (lv_at hl 0 rfl) ?_
        refine lv_iload_n hx hb dX1_reachBetween_15 rfl (lv_at hl 1 rfl) ?_
        refine lv_iload hx hb dX1_reachBetween_16 (lv_at hl 4 rfl) ?_
        obtain ⟨r3, hcr3, hf⟩ := bd_some hf
        refine p_R (st1 := [.int r3, .int (stL1.1)]) (run_V (rest := [.int (stL1.1)]) X (ctX1_kindAt hZ ot aPL hcr3) mk_X1_kindAt ml_X1_58 ⟨(Nat.le_of_ble_eq_true rfl), (Nat.le_of_ble_eq_true rfl)⟩ G [0, 1, 2, 3, 4, 5] rfl rfl 0 rfl rfl rfl hl.1 rfl (Nat.le_of_ble_eq_true rfl) dX1_reachBetween_18 ⟨Nat.zero_le _, Nat.zero_le _⟩) rfl ?_
        refine lv_aload_n hx hb dX1_reachBetween_21 rfl (lv_at hl 0 rfl) ?_
        refine lv_iload_n hx hb dX1_reachBetween_22 rfl (lv_at hl 1 rfl) ?_
        refine lv_iload hx hb dX1_reachBetween_23 (lv_at hl 4 rfl) ?_
        obtain ⟨r4, hcr4, hf⟩ := bd_some hf
        refine p_R (st1 := [.int r4, .int r3, .int (stL1.1)]) (run_V (rest := [.int r3, .int (stL1.1)]) X (ctX1_numberAt hZ ot aPL hcr4) mk_X1_numberAt ml_X1_65 ⟨(Nat.le_of_ble_eq_true rfl), (Nat.le_of_ble_eq_true rfl)⟩ G [0, 1, 2, 3, 4, 5] rfl rfl 0 rfl rfl rfl hl.1 rfl (Nat.le_of_ble_eq_true rfl) dX1_reachBetween_25 ⟨Nat.zero_le _, Nat.zero_le _⟩) rfl ?_
        obtain ⟨r5, hcr5, hf⟩ := bd_some hf
        refine p_R (st1 := [.int r5, .int (stL1.1)]) (run_S (rest := [.int (stL1.1)]) X (ctX1_bitOf hZ hcr5) mk_X1_bitOf ml_X1_68 ⟨(Nat.le_of_ble_eq_true rfl), (Nat.le_of_ble_eq_true rfl)⟩ G [] rfl rfl rfl hl.1 rfl (Nat.le_of_ble_eq_true rfl) dX1_reachBetween_28 ⟨Nat.zero_le _, Nat.zero_le _⟩) rfl ?_
        refine lv_ior hx hb dX1_reachBetween_31 ?_
        obtain ⟨x6, ex6, hf⟩ := nm_some hf
        refine r_top (congrArg Value.int ex6) ?_
        refine lv_istore (lv' := [(4, .int x6), (0, .ref ot), (1, .int v1), (3, .int v3), (5, .int (stL1.2))]) hx hb dX1_reachBetween_32 hl (by decide) rfl (fun ls hl => ?_)
        obtain ⟨x7, ex7, hf⟩ := nm_some hf
        refine lv_iinc (v := x7) (lv' := [(5, .int x7), (4, .int x6), (0, .ref ot), (1, .int v1), (3, .int v3)]) hx hb dX1_reachBetween_34 hl (k := 4) rfl (by subst ex7; rfl) (by decide) rfl (fun ls hl => ?_)
        refine lv_goto (tgt := 6) hx hb dX1_reachBetween_37 (by decide) ?_
        cases hf
        exact ih (x6, x7) _ (lv_sub hl [2, 3, 4, 1, 0] rfl) hoL1
  exact LL1 nL1 ((0 : Int32), v2) _ (lv_sub hl [2, 3, 5, 1, 0] rfl) hitL1
theorem mk_X1_reachBetween : MV yX1_reachBetween cX1_reachBetween 6 (some .int) 3 := ⟨co_X1_reachBetween, in_X1, im_X1_reachBetween, se_X1_reachBetween, by decide +kernel, by decide +kernel⟩
noncomputable def FX1_reachFrom_5 (PL : PlT) (v1 : Int32) : (Int32 × Int32) → Option ((Int32 × Int32) ⊕ ((Int32) ⊕ ((Int32) ⊕ (Int32 × Int32)))) := fun stL1 =>
  ix v1 8 <|
  if (Pl_lengths PL (Int32.toNatClampNeg v1)) ≤ stL1.2 then (
    some (.inr (.inl stL1.1))
  ) else (
    (FX1_kindAt PL v1 stL1.2).bind fun r4 =>
    if r4 = (9 : Int32) then (
      some (.inr (.inr (.inl stL1.1)))
    ) else (
      if r4 = (8 : Int32) then (
        some (.inr (.inr (.inr ((stL1.1, stL1.2)))))
      ) else (
        (FX1_reachBetween PL v1 stL1.2 (stL1.2 + (1 : Int32))).bind fun r7 =>
        nm (stL1.1 ||| r7) fun x8 =>
        nm (stL1.2 + 1) fun x9 =>
        some (.inl (x8, x9))
      )
    )
  )
noncomputable def FX1_reachFrom (PL : PlT) (v1 : Int32) (v2 : Int32) : Option (Int32) :=
  (itr (FX1_reachFrom_5 PL v1) ((0 : Int32), v2)).bind fun exL1 =>
  Sum.elim (fun uL1 =>
    some uL1
  ) (
    Sum.elim (fun uL1 =>
      some uL1
    )
    (fun uL1 =>
      (FX1_reachBetween PL v1 (0 : Int32) uL1.2).bind fun r10 =>
      some (uL1.1 ||| r10)
    )
  ) exL1
set_option maxHeartbeats 4000000 in
set_option maxRecDepth 100000 in
theorem ctX1_reachFrom {l : Launch} {D : va_G} {k : Nat → ClassId} {Z : ZT} (hZ : ZOK Z) (ot : Nat) (aPL : Nat → Nat) {PL : PlT} {v1 : Int32} {v2 : Int32} {q : Int32} (hf : FX1_reachFrom PL v1 v2 = some q) :
    CR l D k Z yX1_reachFrom cX1_reachFrom 6 (some .int) 3 69 [.ref ot, .int v1, .int v2] (some (.int q)) (kPl k ot aPL (PL)) := by
  refine CR.start hZ (by decide) (Nat.le_of_ble_eq_true rfl) ?_
  intro p e s m below meth c ls X hl G
  have hx := X.1
  have hb := X.2.1
  have hl : lv_has ls 6 [(0, .ref ot), (1, .int v1), (2, .int v2)] := hl
  unfold FX1_reachFrom at hf
  refine lv_iconst (v := 0) hx hb dX1_reachFrom_0 (by decide) ?_
  refine lv_istore_n (lv' := [(3, .int (0 : Int32)), (0, .ref ot), (1, .int v1), (2, .int v2)]) hx hb dX1_reachFrom_1 rfl hl (by decide) rfl (fun ls hl => ?_)
  refine lv_iload_n hx hb dX1_reachFrom_2 rfl (lv_at hl 3 rfl) ?_
  refine lv_istore (lv' := [(4, .int v2), (3, .int (0 : Int32)), (0, .ref ot), (1, .int v1), (2, .int v2)]) hx hb dX1_reachFrom_3 hl (by decide) rfl (fun ls hl => ?_)
  obtain ⟨exL1, hitL1, hfL1⟩ := bd_some hf
  obtain ⟨nL1, hitL1⟩ := itr_ex hitL1
  have KL1_0 : ∀ (u : Int32) (ls : Array Slot), exL1 = Sum.inl u → lv_has ls 6 [(3, .int u)] → W p l e (rmz 3 69) s m [.ref ot, .int v1, .int v2].toArray below meth c s.heap [] 0 0 (MQ below (Qr (some (.int q))) [.ref ot, .int v1, .int v2].toArray s 0 0 (fun _ => False)) (F0 m 72 ls []) := by
    intro uL1 ls hex hl
    rw [hex] at hfL1
    have hf := hfL1
    replace hf := sl_l hf
    refine lv_iload_n hx hb dX1_reachFrom_72 rfl (lv_at hl 0 rfl) ?_
    cases hf
    exact e_ri X dX1_reachFrom_73
  have KL1_1 : ∀ (u : Int32) (ls : Array Slot), exL1 = Sum.inr (Sum.inl u) → lv_has ls 6 [(3, .int u)] → W p l e (rmz 3 69) s m [.ref ot, .int v1, .int v2].toArray below meth c s.heap [] 0 0 (MQ below (Qr (some (.int q))) [.ref ot, .int v1, .int v2].toArray s 0 0 (fun _ => False)) (F0 m 32 ls []) := by
    intro uL1 ls hex hl
    rw [hex] at hfL1
    have hf := hfL1
    replace hf := sl_r hf
    replace hf := sl_l hf
    refine lv_iload_n hx hb dX1_reachFrom_32 rfl (lv_at hl 0 rfl) ?_
    cases hf
    exact e_ri X dX1_reachFrom_33
  have KL1_2 : ∀ (u : Int32 × Int32) (ls : Array Slot), exL1 = Sum.inr (Sum.inr (u)) → lv_has ls 6 [(0, .ref ot), (1, .int v1), (3, .int (u.1)), (4, .int (u.2))] → W p l e (rmz 3 69) s m [.ref ot, .int v1, .int v2].toArray below meth c s.heap [] 0 0 (MQ below (Qr (some (.int q))) [.ref ot, .int v1, .int v2].toArray s 0 0 (fun _ => False)) (F0 m 41 ls []) := by
    intro uL1 ls hex hl
    rw [hex] at hfL1
    have hf := hfL1
    replace hf := sl_r hf
    replace hf := sl_r hf
    refine lv_iload_n hx hb dX1_reachFrom_41 rfl (lv_at hl 2 rfl) ?_
    refine lv_aload_n hx hb dX1_reachFrom_42 rfl (lv_at hl 0 rfl) ?_
    refine lv_iload_n hx hb dX1_reachFrom_43 rfl (lv_at hl 1 rfl) ?_
    refine lv_iconst (v := 0) hx hb dX1_reachFrom_44 (by decide) ?_
    refine lv_iload hx hb dX1_reachFrom_45 (lv_at hl 3 rfl) ?_
    obtain ⟨r10, hcr10, hf⟩ := bd_some hf
    refine p_R (st1 := [.int r10, .int (uL1.1)]) (run_V (rest := [.int (uL1.1)]) X (ctX1_reachBetween hZ ot aPL hcr10) mk_X1_reachBetween ml_X1_61 ⟨(Nat.le_of_ble_eq_true rfl), (Nat.le_of_ble_eq_true rfl)⟩ G [0, 1, 2, 3, 4, 5] rfl rfl 0 rfl rfl rfl hl.1 rfl (Nat.le_of_ble_eq_true rfl) dX1_reachFrom_47 ⟨Nat.zero_le _, Nat.zero_le _⟩) rfl ?_
    refine lv_ior hx hb dX1_reachFrom_50 ?_
    cases hf
    exact e_ri X dX1_reachFrom_51
  have LL1 : ∀ (n : Nat) (stL1 : Int32 × Int32) (ls : Array Slot), lv_has ls 6 [(0, .ref ot), (1, .int v1), (3, .int (stL1.1)), (4, .int (stL1.2))] → it (FX1_reachFrom_5 PL v1) n stL1 = some exL1 → W p l e (rmz 3 69) s m [.ref ot, .int v1, .int v2].toArray below meth c s.heap [] 0 0 (MQ below (Qr (some (.int q))) [.ref ot, .int v1, .int v2].toArray s 0 0 (fun _ => False)) (F0 m 5 ls []) := by
    intro n
    induction n with
    | zero =>
      intro stL1 ls hl hit
      exact (it_zero hit).elim
    | succ n ih =>
      intro stL1 ls hl hit
      obtain ⟨oL1, hf, hoL1⟩ := it_bd hit
      unfold FX1_reachFrom_5 at hf
      refine lv_iload hx hb dX1_reachFrom_5 (lv_at hl 3 rfl) ?_
      refine lv_aload_n hx hb dX1_reachFrom_7 rfl (lv_at hl 0 rfl) ?_
      refine r_get X inw_X1 G 0 rfl rfl 3 (by decide) fl_X1_21 (v := .ref (aPL 0)) rfl dX1_reachFrom_8 ?_
      refine lv_iload_n hx hb dX1_reachFrom_11 rfl (lv_at hl 1 rfl) ?_
      obtain ⟨h2, hf⟩ := ix_some hf
      refine r_iald X G 1 rfl h2 dX1_reachFrom_12 ?_
      refine lv_icmp_ge (tgt := 72) hx hb dX1_reachFrom_13 (by decide) (fun c3 => ?_) (fun c3 => ?_)
      · replace hf := if_t hf c3
        cases hf
        exact KL1_0 stL1.1 _ (it_out hoL1) (lv_sub hl [2] rfl)
      · replace hf := if_f hf c3
        refine lv_aload_n hx hb dX1_reachFrom_16 rfl (lv_at hl 0 rfl) ?_
        refine lv_iload_n hx hb dX1_reachFrom_17 rfl (lv_at hl 1 rfl) ?_
        refine lv_iload hx hb dX1_reachFrom_18 (lv_at hl 3 rfl) ?_
        obtain ⟨r4, hcr4, hf⟩ := bd_some hf
        refine p_R (st1 := [.int r4]) (run_V (rest := []) X (ctX1_kindAt hZ ot aPL hcr4) mk_X1_kindAt ml_X1_58 ⟨(Nat.le_of_ble_eq_true rfl), (Nat.le_of_ble_eq_true rfl)⟩ G [0, 1, 2, 3, 4, 5] rfl rfl 0 rfl rfl rfl hl.1 rfl (Nat.le_of_ble_eq_true rfl) dX1_reachFrom_20 ⟨Nat.zero_le _, Nat.zero_le _⟩) rfl ?_
        refine lv_istore (lv' := [(5, .int r4), (0, .ref ot), (1, .int v1), (3, .int (stL1.1)), (4, .int (stL1.2))]) hx hb dX1_reachFrom_23 hl (by decide) rfl (fun ls hl => ?_)
        refine lv_iload hx hb dX1_reachFrom_25 (lv_at hl 0 rfl) ?_
        refine lv_bipush (v := 9) hx hb dX1_reachFrom_27 (by decide) ?_
        refine lv_icmp_ne (tgt := 34) hx hb dX1_reachFrom_29 (by decide) (fun c5 => ?_) (fun c5 => ?_)
        · replace hf := if_f hf c5
          refine lv_iload hx hb dX1_reachFrom_34 (lv_at hl 0 rfl) ?_
          refine lv_bipush (v := 8) hx hb dX1_reachFrom_36 (by decide) ?_
          refine lv_icmp_ne (tgt := 52) hx hb dX1_reachFrom_38 (by decide) (fun c6 => ?_) (fun c6 => ?_)
          · replace hf := if_f hf c6
            refine lv_iload_n hx hb dX1_reachFrom_52 rfl (lv_at hl 3 rfl) ?_
            refine lv_aload_n hx hb dX1_reachFrom_53 rfl (lv_at hl 1 rfl) ?_
            refine lv_iload_n hx hb dX1_reachFrom_54 rfl (lv_at hl 2 rfl) ?_
            refine lv_iload hx hb dX1_reachFrom_55 (lv_at hl 4 rfl) ?_
            refine lv_iload hx hb dX1_reachFrom_57 (lv_at hl 4 rfl) ?_
            refine lv_iconst (v := 1) hx hb dX1_reachFrom_59 (by decide) ?_
            refine lv_iadd hx hb dX1_reachFrom_60 ?_
            obtain ⟨r7, hcr7, hf⟩ := bd_some hf
            refine p_R (st1 := [.int r7, .int (stL1.1)]) (run_V (rest := [.int (stL1.1)]) X (ctX1_reachBetween hZ ot aPL hcr7) mk_X1_reachBetween ml_X1_61 ⟨(Nat.le_of_ble_eq_true rfl), (Nat.le_of_ble_eq_true rfl)⟩ G [0, 1, 2, 3, 4, 5] rfl rfl 0 rfl rfl rfl hl.1 rfl (Nat.le_of_ble_eq_true rfl) dX1_reachFrom_61 ⟨Nat.zero_le _, Nat.zero_le _⟩) rfl ?_
            refine lv_ior hx hb dX1_reachFrom_64 ?_
            obtain ⟨x8, ex8, hf⟩ := nm_some hf
            refine r_top (congrArg Value.int ex8) ?_
            refine lv_istore_n (lv' := [(3, .int x8), (5, .int r4), (0, .ref ot), (1, .int v1), (4, .int (stL1.2))]) hx hb dX1_reachFrom_65 rfl hl (by decide) rfl (fun ls hl => ?_)
            obtain ⟨x9, ex9, hf⟩ := nm_some hf
            refine lv_iinc (v := x9) (lv' := [(4, .int x9), (3, .int x8), (5, .int r4), (0, .ref ot), (1, .int v1)]) hx hb dX1_reachFrom_66 hl (k := 4) rfl (by subst ex9; rfl) (by decide) rfl (fun ls hl => ?_)
            refine lv_goto (tgt := 5) hx hb dX1_reachFrom_69 (by decide) ?_
            cases hf
            exact ih (x8, x9) _ (lv_sub hl [3, 4, 1, 0] rfl) hoL1
          · replace hf := if_t hf c6
            cases hf
            exact KL1_2 (stL1.1, stL1.2) _ (it_out hoL1) (lv_sub hl [1, 2, 3, 4] rfl)
        · replace hf := if_t hf c5
          cases hf
          exact KL1_1 stL1.1 _ (it_out hoL1) (lv_sub hl [3] rfl)
  exact LL1 nL1 ((0 : Int32), v2) _ (lv_sub hl [2, 3, 1, 0] rfl) hitL1
theorem mk_X1_reachFrom : MV yX1_reachFrom cX1_reachFrom 6 (some .int) 2 := ⟨co_X1_reachFrom, in_X1, im_X1_reachFrom, se_X1_reachFrom, by decide +kernel, by decide +kernel⟩
noncomputable def FX1_findReach_12 (stL1 : Int32 × PlT) : (Int32 × PlT) → Option ((Int32 × PlT) ⊕ (PlT)) := fun stL3 =>
  ix stL1.1 8 <|
  if (Pl_lengths stL3.2 (Int32.toNatClampNeg stL1.1)) ≤ stL3.1 then (
    some (.inr stL3.2)
  ) else (
    (FX1_reachFrom stL3.2 stL1.1 stL3.1).bind fun r6 =>
    ix ((stL1.1 * (12 : Int32)) + stL3.1) 96 <|
    nm (sPl_reach stL3.2 (upd (Pl_reach stL3.2) (Int32.toNatClampNeg ((stL1.1 * (12 : Int32)) + stL3.1)) r6)) fun PL8 =>
    nm (stL3.1 + 1) fun x9 =>
    some (.inl (x9, PL8))
  )
noncomputable def FX1_findReach_2  : (Int32 × PlT) → Option ((Int32 × PlT) ⊕ (PlT)) := fun stL1 =>
  if (Pl_workers stL1.2) ≤ stL1.1 then (
    some (.inr stL1.2)
  ) else (
    (itr (FX1_findReach_12 stL1) ((0 : Int32), stL1.2)).bind fun uL3 =>
    nm (stL1.1 + 1) fun x10 =>
    some (.inl (x10, uL3))
  )
noncomputable def FX1_findReach (PL : PlT) : Option (PlT) :=
  (itr FX1_findReach_2 ((0 : Int32), PL)).bind fun uL1 =>
  some uL1
set_option maxHeartbeats 4000000 in
set_option maxRecDepth 100000 in
theorem ctX1_findReach {l : Launch} {D : va_G} {k : Nat → ClassId} {Z : ZT} (hZ : ZOK Z) (ot : Nat) (aPL : Nat → Nat) {PL : PlT} {q : PlT} (hf : FX1_findReach PL = some q) :
    CM l D k Z yX1_findReach cX1_findReach 3 none 4 94 [.ref ot] none (kPl k ot aPL (PL)) (kPl k ot aPL (q)) := by
  refine CM.start hZ (by decide) (Nat.le_of_ble_eq_true rfl) ?_
  intro p e s m below meth c ls X hl G
  have hx := X.1
  have hb := X.2.1
  have hl : lv_has ls 3 [(0, .ref ot)] := hl
  unfold FX1_findReach at hf
  refine lv_iconst (v := 0) hx hb dX1_findReach_0 (by decide) ?_
  refine lv_istore_n (lv' := [(1, .int (0 : Int32)), (0, .ref ot)]) hx hb dX1_findReach_1 rfl hl (by decide) rfl (fun ls hl => ?_)
  obtain ⟨exL1, hitL1, hfL1⟩ := bd_some hf
  obtain ⟨nL1, hitL1⟩ := itr_ex hitL1
  have KL1_0 : ∀ (u : PlT) (H : Heap) (locs : List Loc) (ls : Array Slot), exL1 = u → Wo D (wA (kPl k ot aPL (PL))) s.heap (kPl k ot aPL (u)) H locs → lv_has ls 3 [] → W p l e (rmz 4 94) s m [.ref ot].toArray below meth c H locs 0 0 (MQ below (Qm D none (kPl k ot aPL (PL)) (kPl k ot aPL (q))) [.ref ot].toArray s 0 0 (wA (kPl k ot aPL (PL)))) (F0 m 51 ls []) := by
    intro uL1 H locs ls hex G hl
    rw [hex] at hfL1
    have hf := hfL1
    cases hf
    exact e_mv X G dX1_findReach_51
  have LL1 : ∀ (n : Nat) (stL1 : Int32 × PlT) (H : Heap) (locs : List Loc) (ls : Array Slot), Wo D (wA (kPl k ot aPL (PL))) s.heap (kPl k ot aPL (stL1.2)) H locs → lv_has ls 3 [(0, .ref ot), (1, .int (stL1.1))] → it FX1_findReach_2 n stL1 = some exL1 → W p l e (rmz 4 94) s m [.ref ot].toArray below meth c H locs 0 0 (MQ below (Qm D none (kPl k ot aPL (PL)) (kPl k ot aPL (q))) [.ref ot].toArray s 0 0 (wA (kPl k ot aPL (PL)))) (F0 m 2 ls []) := by
    intro n
    induction n with
    | zero =>
      intro stL1 H locs ls G hl hit
      exact (it_zero hit).elim
    | succ n ih =>
      intro stL1 H locs ls G hl hit
      obtain ⟨oL1, hf, hoL1⟩ := it_bd hit
      unfold FX1_findReach_2 at hf
      refine lv_iload_n hx hb dX1_findReach_2 rfl (lv_at hl 1 rfl) ?_
      refine lv_aload_n hx hb dX1_findReach_3 rfl (lv_at hl 0 rfl) ?_
      refine r_get X inw_X1 G 0 rfl rfl 0 (by decide) fl_X1_9 (v := .int (Pl_workers stL1.2)) rfl dX1_findReach_4 ?_
      refine lv_icmp_ge (tgt := 51) hx hb dX1_findReach_7 (by decide) (fun c2 => ?_) (fun c2 => ?_)
      · replace hf := if_t hf c2
        cases hf
        exact KL1_0 stL1.2 _ _ _ (it_out hoL1) G (lv_sub hl [] rfl)
      · replace hf := if_f hf c2
        refine lv_iconst (v := 0) hx hb dX1_findReach_10 (by decide) ?_
        refine lv_istore_n (lv' := [(2, .int (0 : Int32)), (0, .ref ot), (1, .int (stL1.1))]) hx hb dX1_findReach_11 rfl hl (by decide) rfl (fun ls hl => ?_)
        obtain ⟨exL3, hitL3, hfL3⟩ := bd_some hf
        obtain ⟨nL3, hitL3⟩ := itr_ex hitL3
        have KL3_0 : ∀ (u : PlT) (H : Heap) (locs : List Loc) (ls : Array Slot), exL3 = u → Wo D (wA (kPl k ot aPL (PL))) s.heap (kPl k ot aPL (u)) H locs → lv_has ls 3 [(0, .ref ot), (1, .int (stL1.1))] → W p l e (rmz 4 94) s m [.ref ot].toArray below meth c H locs 0 0 (MQ below (Qm D none (kPl k ot aPL (PL)) (kPl k ot aPL (q))) [.ref ot].toArray s 0 0 (wA (kPl k ot aPL (PL)))) (F0 m 45 ls []) := by
          intro uL3 H locs ls hex G hl
          rw [hex] at hfL3
          have hf := hfL3
          obtain ⟨x10, ex10, hf⟩ := nm_some hf
          refine lv_iinc (v := x10) (lv' := [(1, .int x10), (0, .ref ot)]) hx hb dX1_findReach_45 hl (k := 1) rfl (by subst ex10; rfl) (by decide) rfl (fun ls hl => ?_)
          refine lv_goto (tgt := 2) hx hb dX1_findReach_48 (by decide) ?_
          cases hf
          exact ih (x10, uL3) _ _ _ G (lv_sub hl [1, 0] rfl) hoL1
        have LL3 : ∀ (n : Nat) (stL3 : Int32 × PlT) (H : Heap) (locs : List Loc) (ls : Array Slot), Wo D (wA (kPl k ot aPL (PL))) s.heap (kPl k ot aPL (stL3.2)) H locs → lv_has ls 3 [(0, .ref ot), (1, .int (stL1.1)), (2, .int (stL3.1))] → it (FX1_findReach_12 stL1) n stL3 = some exL3 → W p l e (rmz 4 94) s m [.ref ot].toArray below meth c H locs 0 0 (MQ below (Qm D none (kPl k ot aPL (PL)) (kPl k ot aPL (q))) [.ref ot].toArray s 0 0 (wA (kPl k ot aPL (PL)))) (F0 m 12 ls []) := by
          intro n
          induction n with
          | zero =>
            intro stL3 H locs ls G hl hit
            exact (it_zero hit).elim
          | succ n ih =>
            intro stL3 H locs ls G hl hit
            obtain ⟨oL3, hf, hoL3⟩ := it_bd hit
            unfold FX1_findReach_12 at hf
            refine lv_iload_n hx hb dX1_findReach_12 rfl (lv_at hl 2 rfl) ?_
            refine lv_aload_n hx hb dX1_findReach_13 rfl (lv_at hl 0 rfl) ?_
            refine r_get X inw_X1 G 0 rfl rfl 3 (by decide) fl_X1_21 (v := .ref (aPL 0)) rfl dX1_findReach_14 ?_
            refine lv_iload_n hx hb dX1_findReach_17 rfl (lv_at hl 1 rfl) ?_
            obtain ⟨h4, hf⟩ := ix_some hf
            refine r_iald X G 1 rfl h4 dX1_findReach_18 ?_
            refine lv_icmp_ge (tgt := 45) hx hb dX1_findReach_19 (by decide) (fun c5 => ?_) (fun c5 => ?_)
            · replace hf := if_t hf c5
              cases hf
              exact KL3_0 stL3.2 _ _ _ (it_out hoL3) G (lv_sub hl [0, 1] rfl)
            · replace hf := if_f hf c5
              refine lv_aload_n hx hb dX1_findReach_22 rfl (lv_at hl 0 rfl) ?_
              refine r_get X inw_X1 G 0 rfl rfl 6 (by decide) fl_X1_31 (v := .ref (aPL 3)) rfl dX1_findReach_23 ?_
              refine lv_iload_n hx hb dX1_findReach_26 rfl (lv_at hl 1 rfl) ?_
              refine lv_bipush (v := 12) hx hb dX1_findReach_27 (by decide) ?_
              refine lv_imul hx hb dX1_findReach_29 ?_
              refine lv_iload_n hx hb dX1_findReach_30 rfl (lv_at hl 2 rfl) ?_
              refine lv_iadd hx hb dX1_findReach_31 ?_
              refine lv_aload_n hx hb dX1_findReach_32 rfl (lv_at hl 0 rfl) ?_
              refine lv_iload_n hx hb dX1_findReach_33 rfl (lv_at hl 1 rfl) ?_
              refine lv_iload_n hx hb dX1_findReach_34 rfl (lv_at hl 2 rfl) ?_
              obtain ⟨r6, hcr6, hf⟩ := bd_some hf
              refine p_R (st1 := [.int r6, .int ((stL1.1 * (12 : Int32)) + stL3.1), .ref (aPL 3)]) (run_V (rest := [.int ((stL1.1 * (12 : Int32)) + stL3.1), .ref (aPL 3)]) X (ctX1_reachFrom hZ ot aPL hcr6) mk_X1_reachFrom ml_X1_55 ⟨(Nat.le_of_ble_eq_true rfl), (Nat.le_of_ble_eq_true rfl)⟩ G [0, 1, 2, 3, 4, 5] rfl rfl 0 rfl rfl rfl hl.1 rfl (Nat.le_of_ble_eq_true rfl) dX1_findReach_35 ⟨Nat.zero_le _, Nat.zero_le _⟩) rfl ?_
              obtain ⟨h7, hf⟩ := ix_some hf
              obtain ⟨PL8, ePL8, hf⟩ := nm_some hf
              refine r_iast X G 4 rfl h7 (ws' := kPl k ot aPL (PL8)) (by subst ePL8; rfl) dX1_findReach_38 (fun H locs G => ?_)
              obtain ⟨x9, ex9, hf⟩ := nm_some hf
              refine lv_iinc (v := x9) (lv' := [(2, .int x9), (0, .ref ot), (1, .int (stL1.1))]) hx hb dX1_findReach_39 hl (k := 2) rfl (by subst ex9; rfl) (by decide) rfl (fun ls hl => ?_)
              refine lv_goto (tgt := 12) hx hb dX1_findReach_42 (by decide) ?_
              cases hf
              exact ih (x9, PL8) _ _ _ G (lv_sub hl [1, 2, 0] rfl) hoL3
        exact LL3 nL3 ((0 : Int32), stL1.2) _ _ _ G (lv_sub hl [1, 2, 0] rfl) hitL3
  exact LL1 nL1 ((0 : Int32), PL) _ _ _ G (lv_sub hl [1, 0] rfl) hitL1
theorem mk_X1_findReach : MV yX1_findReach cX1_findReach 3 none 0 := ⟨co_X1_findReach, in_X1, im_X1_findReach, se_X1_findReach, by decide +kernel, by decide +kernel⟩
