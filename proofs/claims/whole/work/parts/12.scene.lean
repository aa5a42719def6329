noncomputable def FX3_begin (SC : ScT) (PL : PlT) : Option (ScT) :=
  nm (sSc_tick SC (0 : Int32)) fun SC1 =>
  nm (sSc_window SC1 (Pl_window PL)) fun SC2 =>
  nm (sSc_grace SC2 (Pl_grace PL)) fun SC3 =>
  (FJ7_fill_53178 8 (Sc_place SC3) (0 : Int32)).bind fun r4 =>
  nm (sSc_place SC3 r4) fun SC5 =>
  (FJ7_fill_53178 8 (Sc_ticked SC5) (0 : Int32)).bind fun r6 =>
  nm (sSc_ticked SC5 r6) fun SC7 =>
  (FJ7_fill_53178 8 (Sc_beat SC7) (0 : Int32)).bind fun r8 =>
  nm (sSc_beat SC7 r8) fun SC9 =>
  (FJ7_fill_53178 8 (Sc_steps SC9) (0 : Int32)).bind fun r10 =>
  nm (sSc_steps SC9 r10) fun SC11 =>
  (FJ7_fill_53178 8 (Sc_marks SC11) (0 : Int32)).bind fun r12 =>
  nm (sSc_marks SC11 r12) fun SC13 =>
  (FJ7_fill_53178 6 (Sc_holders SC13) (-1 : Int32)).bind fun r14 =>
  nm (sSc_holders SC13 r14) fun SC15 =>
  (FJ7_fill_53178 4 (Sc_lies SC15) (0 : Int32)).bind fun r16 =>
  nm (sSc_lies SC15 r16) fun SC17 =>
  (FJ7_fill_53178 64 (Sc_mail SC17) (0 : Int32)).bind fun r18 =>
  nm (sSc_mail SC17 r18) fun SC19 =>
  some SC19
set_option maxHeartbeats 4000000 in
set_option maxRecDepth 100000 in
theorem ctX3_begin {l : Launch} {D : va_G} {k : Nat → ClassId} {Z : ZT} (hZ : ZOK Z) (ot : Nat) (o1 : Nat) (aSC : Nat → Nat) (aPL : Nat → Nat) {SC : ScT} {PL : PlT} {q : ScT} (hf : FX3_begin SC PL = some q) :
    CM l D k Z yX3_begin cX3_begin 2 none 1 23 [.ref ot, .ref o1] none (kSc k ot aSC (SC) ++ (kPl k o1 aPL (PL))) (kSc k ot aSC (q) ++ (kPl k o1 aPL (PL))) := by
  refine CM.start hZ (by decide) (Nat.le_of_ble_eq_true rfl) ?_
  intro p e s m below meth c ls X hl G
  have hx := X.1
  have hb := X.2.1
  have hl : lv_has ls 2 [(0, .ref ot), (1, .ref o1)] := hl
  unfold FX3_begin at hf
  refine lv_aload_n hx hb dX3_begin_0 rfl (lv_at hl 0 rfl) ?_
  refine lv_iconst (v := 0) hx hb dX3_begin_1 (by decide) ?_
  obtain ⟨SC1, eSC1, hf⟩ := nm_some hf
  refine r_put X inw_X3 tyX3 tyX3_ok nmX3 G 0 rfl rfl 0 (by decide) fl_X3_9 rfl rfl rfl (Nat.le_of_ble_eq_true rfl) (ws' := kSc k ot aSC (SC1) ++ (kPl k o1 aPL (PL))) (by subst eSC1; rfl) dX3_begin_2 (fun H locs G => ?_)
  refine lv_aload_n hx hb dX3_begin_5 rfl (lv_at hl 0 rfl) ?_
  refine lv_aload_n hx hb dX3_begin_6 rfl (lv_at hl 1 rfl) ?_
  refine r_get X inw_X1 G 9 rfl rfl 1 (by decide) fl_X3_52 (v := .int (Pl_window PL)) rfl dX3_begin_7 ?_
  obtain ⟨SC2, eSC2, hf⟩ := nm_some hf
  refine r_put X inw_X3 tyX3 tyX3_ok nmX3 G 0 rfl rfl 1 (by decide) fl_X3_15 rfl rfl rfl (Nat.le_of_ble_eq_true rfl) (ws' := kSc k ot aSC (SC2) ++ (kPl k o1 aPL (PL))) (by subst eSC2; rfl) dX3_begin_10 (fun H locs G => ?_)
  refine lv_aload_n hx hb dX3_begin_13 rfl (lv_at hl 0 rfl) ?_
  refine lv_aload_n hx hb dX3_begin_14 rfl (lv_at hl 1 rfl) ?_
  refine r_get X inw_X1 G 9 rfl rfl 2 (by decide) fl_X3_55 (v := .int (Pl_grace PL)) rfl dX3_begin_15 ?_
  obtain ⟨SC3, eSC3, hf⟩ := nm_some hf
  refine r_put X inw_X3 tyX3 tyX3_ok nmX3 G 0 rfl rfl 2 (by decide) fl_X3_18 rfl rfl rfl (Nat.le_of_ble_eq_true rfl) (ws' := kSc k ot aSC (SC3) ++ (kPl k o1 aPL (PL))) (by subst eSC3; rfl) dX3_begin_18 (fun H locs G => ?_)
  refine lv_aload_n hx hb dX3_begin_21 rfl (lv_at hl 0 rfl) ?_
  refine r_get X inw_X3 G 0 rfl rfl 3 (by decide) fl_X3_21 (v := .ref (aSC 0)) rfl dX3_begin_22 ?_
  refine lv_iconst (v := 0) hx hb dX3_begin_25 (by decide) ?_
  obtain ⟨r4, hcr4, hf⟩ := bd_some hf
  obtain ⟨SC5, eSC5, hf⟩ := nm_some hf
  refine p_N (st1 := []) (wr := [(ot, .inr (3, [.int (Sc_tick SC3), .int (Sc_window SC3), .int (Sc_grace SC3), .ref (aSC 0), .ref (aSC 1), .ref (aSC 2), .ref (aSC 3), .ref (aSC 4), .ref (aSC 5), .ref (aSC 6), .ref (aSC 7)])), (aSC 1, .inl (k 0, 8, .inl (Sc_ticked SC3))), (aSC 2, .inl (k 0, 8, .inl (Sc_beat SC3))), (aSC 3, .inl (k 0, 8, .inl (Sc_steps SC3))), (aSC 4, .inl (k 0, 8, .inl (Sc_marks SC3))), (aSC 5, .inl (k 0, 6, .inl (Sc_holders SC3))), (aSC 6, .inl (k 0, 4, .inl (Sc_lies SC3))), (aSC 7, .inl (k 0, 64, .inl (Sc_mail SC3)))] ++ (kPl k o1 aPL (PL))) (ws' := kSc k ot aSC (SC5) ++ (kPl k o1 aPL (PL))) (run_S (rest := []) X (ctJ7_fill_53178 hZ (aSC 0) hcr4) mk_J7_fill_53178 ml_X3_46 ⟨(Nat.le_of_ble_eq_true rfl), (Nat.le_of_ble_eq_true rfl)⟩ G [1] rfl rfl rfl hl.1 rfl (Nat.le_of_ble_eq_true rfl) dX3_begin_26 ⟨Nat.zero_le _, Nat.zero_le _⟩) rfl G [1] [0, 2, 3, 4, 5, 6, 7, 8, 9, 10, 11, 12, 13, 14] 15 rfl (by subst eSC5; rfl) rfl (by subst eSC5; rfl) rfl (by decide) (by decide) rfl (fun H locs G => ?_)
  refine lv_aload_n hx hb dX3_begin_29 rfl (lv_at hl 0 rfl) ?_
  refine r_get X inw_X3 G 0 rfl rfl 4 (by decide) fl_X3_25 (v := .ref (aSC 1)) rfl dX3_begin_30 ?_
  refine lv_iconst (v := 0) hx hb dX3_begin_33 (by decide) ?_
  obtain ⟨r6, hcr6, hf⟩ := bd_some hf
  obtain ⟨SC7, eSC7, hf⟩ := nm_some hf
  refine p_N (st1 := []) (wr := [(ot, .inr (3, [.int (Sc_tick SC5), .int (Sc_window SC5), .int (Sc_grace SC5), .ref (aSC 0), .ref (aSC 1), .ref (aSC 2), .ref (aSC 3), .ref (aSC 4), .ref (aSC 5), .ref (aSC 6), .ref (aSC 7)])), (aSC 0, .inl (k 0, 8, .inl (Sc_place SC5))), (aSC 2, .inl (k 0, 8, .inl (Sc_beat SC5))), (aSC 3, .inl (k 0, 8, .inl (Sc_steps SC5))), (aSC 4, .inl (k 0, 8, .inl (Sc_marks SC5))), (aSC 5, .inl (k 0, 6, .inl (Sc_holders SC5))), (aSC 6, .inl (k 0, 4, .inl (Sc_lies SC5))), (aSC 7, .inl (k 0, 64, .inl (Sc_mail SC5)))] ++ (kPl k o1 aPL (PL))) (ws' := kSc k ot aSC (SC7) ++ (kPl k o1 aPL (PL))) (run_S (rest := []) X (ctJ7_fill_53178 hZ (aSC 1) hcr6) mk_J7_fill_53178 ml_X3_46 ⟨(Nat.le_of_ble_eq_true rfl), (Nat.le_of_ble_eq_true rfl)⟩ G [2] rfl rfl rfl hl.1 rfl (Nat.le_of_ble_eq_true rfl) dX3_begin_34 ⟨Nat.zero_le _, Nat.zero_le _⟩) rfl G [2] [0, 1, 3, 4, 5, 6, 7, 8, 9, 10, 11, 12, 13, 14] 15 rfl (by subst eSC7; rfl) rfl (by subst eSC7; rfl) rfl (by decide) (by decide) rfl (fun H locs G => ?_)
  refine lv_aload_n hx hb dX3_begin_37 rfl (lv_at hl 0 rfl) ?_
  refine r_get X inw_X3 G 0 rfl rfl 5 (by decide) fl_X3_28 (v := .ref (aSC 2)) rfl dX3_begin_38 ?_
  refine lv_iconst (v := 0) hx hb dX3_begin_41 (by decide) ?_
  obtain ⟨r8, hcr8, hf⟩ := bd_some hf
  obtain ⟨SC9, eSC9, hf⟩ := nm_some hf
  refine p_N (st1 := []) (wr := [(ot, .inr (3, [.int (Sc_tick SC7), .int (Sc_window SC7), .int (Sc_grace SC7), .ref (aSC 0), .ref (aSC 1), .ref (aSC 2), .ref (aSC 3), .ref (aSC 4), .ref (aSC 5), .ref (aSC 6), .ref (aSC 7)])), (aSC 0, .inl (k 0, 8, .inl (Sc_place SC7))), (aSC 1, .inl (k 0, 8, .inl (Sc_ticked SC7))), (aSC 3, .inl (k 0, 8, .inl (Sc_steps SC7))), (aSC 4, .inl (k 0, 8, .inl (Sc_marks SC7))), (aSC 5, .inl (k 0, 6, .inl (Sc_holders SC7))), (aSC 6, .inl (k 0, 4, .inl (Sc_lies SC7))), (aSC 7, .inl (k 0, 64, .inl (Sc_mail SC7)))] ++ (kPl k o1 aPL (PL))) (ws' := kSc k ot aSC (SC9) ++ (kPl k o1 aPL (PL))) (run_S (rest := []) X (ctJ7_fill_53178 hZ (aSC 2) hcr8) mk_J7_fill_53178 ml_X3_46 ⟨(Nat.le_of_ble_eq_true rfl), (Nat.le_of_ble_eq_true rfl)⟩ G [3] rfl rfl rfl hl.1 rfl (Nat.le_of_ble_eq_true rfl) dX3_begin_42 ⟨Nat.zero_le _, Nat.zero_le _⟩) rfl G [3] [0, 1, 2, 4, 5, 6, 7, 8, 9, 10, 11, 12, 13, 14] 15 rfl (by subst eSC9; rfl) rfl (by subst eSC9; rfl) rfl (by decide) (by decide) rfl (fun H locs G => ?_)
  refine lv_aload_n hx hb dX3_begin_45 rfl (lv_at hl 0 rfl) ?_
  refine r_get X inw_X3 G 0 rfl rfl 6 (by decide) fl_X3_31 (v := .ref (aSC 3)) rfl dX3_begin_46 ?_
  refine lv_iconst (v := 0) hx hb dX3_begin_49 (by decide) ?_
  obtain ⟨r10, hcr10, hf⟩ := bd_some hf
  obtain ⟨SC11, eSC11, hf⟩ := nm_some hf
  refine p_N (st1 := []) (wr := [(ot, .inr (3, [.int (Sc_tick SC9), .int (Sc_window SC9), .int (Sc_grace SC9), .ref (aSC 0), .ref (aSC 1), .ref (aSC 2), .ref (aSC 3), .ref (aSC 4), .ref (aSC 5), .ref (aSC 6), .ref (aSC 7)])), (aSC 0, .inl (k 0, 8, .inl (Sc_place SC9))), (aSC 1, .inl (k 0, 8, .inl (Sc_ticked SC9))), (aSC 2, .inl (k 0, 8, .inl (Sc_beat SC9))), (aSC 4, .inl (k 0, 8, .inl (Sc_marks SC9))), (aSC 5, .inl (k 0, 6, .inl (Sc_holders SC9))), (aSC 6, .inl (k 0, 4, .inl (Sc_lies SC9))), (aSC 7, .inl (k 0, 64, .inl (Sc_mail SC9)))] ++ (kPl k o1 aPL (PL))) (ws' := kSc k ot aSC (SC11) ++ (kPl k o1 aPL (PL))) (run_S (rest := []) X (ctJ7_fill_53178 hZ (aSC 3) hcr10) mk_J7_fill_53178 ml_X3_46 ⟨(Nat.le_of_ble_eq_true rfl), (Nat.le_of_ble_eq_true rfl)⟩ G [4] rfl rfl rfl hl.1 rfl (Nat.le_of_ble_eq_true rfl) dX3_begin_50 ⟨Nat.zero_le _, Nat.zero_le _⟩) rfl G [4] [0, 1, 2, 3, 5, 6, 7, 8, 9, 10, 11, 12, 13, 14] 15 rfl (by subst eSC11; rfl) rfl (by subst eSC11; rfl) rfl (by decide) (by decide) rfl (fun H locs G => ?_)
  refine lv_aload_n hx hb dX3_begin_53 rfl (lv_at hl 0 rfl) ?_
  refine r_get X inw_X3 G 0 rfl rfl 7 (by decide) fl_X3_34 (v := .ref (aSC 4)) rfl dX3_begin_54 ?_
  refine lv_iconst (v := 0) hx hb dX3_begin_57 (by decide) ?_
  obtain ⟨r12, hcr12, hf⟩ := bd_some hf
  obtain ⟨SC13, eSC13, hf⟩ := nm_some hf
  refine p_N (st1 := []) (wr := [(ot, .inr (3, [.int (Sc_tick SC11), .int (Sc_window SC11), .int (Sc_grace SC11), .ref (aSC 0), .ref (aSC 1), .ref (aSC 2), .ref (aSC 3), .ref (aSC 4), .ref (aSC 5), .ref (aSC 6), .ref (aSC 7)])), (aSC 0, .inl (k 0, 8, .inl (Sc_place SC11))), (aSC 1, .inl (k 0, 8, .inl (Sc_ticked SC11))), (aSC 2, .inl (k 0, 8, .inl (Sc_beat SC11))), (aSC 3, .inl (k 0, 8, .inl (Sc_steps SC11))), (aSC 5, .inl (k 0, 6, .inl (Sc_holders SC11))), (aSC 6, .inl (k 0, 4, .inl (Sc_lies SC11))), (aSC 7, .inl (k 0, 64, .inl (Sc_mail SC11)))] ++ (kPl k o1 aPL (PL))) (ws' := kSc k ot aSC (SC13) ++ (kPl k o1 aPL (PL))) (run_S (rest := []) X (ctJ7_fill_53178 hZ (aSC 4) hcr12) mk_J7_fill_53178 ml_X3_46 ⟨(Nat.le_of_ble_eq_true rfl), (Nat.le_of_ble_eq_true rfl)⟩ G [5] rfl rfl rfl hl.1 rfl (Nat.le_of_ble_eq_true rfl) dX3_begin_58 ⟨Nat.zero_le _, Nat.zero_le _⟩) rfl G [5] [0, 1, 2, 3, 4, 6, 7, 8, 9, 10, 11, 12, 13, 14] 15 rfl (by subst eSC13; rfl) rfl (by subst eSC13; rfl) rfl (by decide) (by decide) rfl (fun H locs G => ?_)
  refine lv_aload_n hx hb dX3_begin_61 rfl (lv_at hl 0 rfl) ?_
  refine r_get X inw_X3 G 0 rfl rfl 8 (by decide) fl_X3_37 (v := .ref (aSC 5)) rfl dX3_begin_62 ?_
  refine lv_iconst (v := -1) hx hb dX3_begin_65 (by decide) ?_
  obtain ⟨r14, hcr14, hf⟩ := bd_some hf
  obtain ⟨SC15, eSC15, hf⟩ := nm_some hf
  refine p_N (st1 := []) (wr := [(ot, .inr (3, [.int (Sc_tick SC13), .int (Sc_window SC13), .int (Sc_grace SC13), .ref (aSC 0), .ref (aSC 1), .ref (aSC 2), .ref (aSC 3), .ref (aSC 4), .ref (aSC 5), .ref (aSC 6), .ref (aSC 7)])), (aSC 0, .inl (k 0, 8, .inl (Sc_place SC13))), (aSC 1, .inl (k 0, 8, .inl (Sc_ticked SC13))), (aSC 2, .inl (k 0, 8, .inl (Sc_beat SC13))), (aSC 3, .inl (k 0, 8, .inl (Sc_steps SC13))), (aSC 4, .inl (k 0, 8, .inl (Sc_marks SC13))), (aSC 6, .inl (k 0, 4, .inl (Sc_lies SC13))), (aSC 7, .inl (k 0, 64, .inl (Sc_mail SC13)))] ++ (kPl k o1 aPL (PL))) (ws' := kSc k ot aSC (SC15) ++ (kPl k o1 aPL (PL))) (run_S (rest := []) X (ctJ7_fill_53178 hZ (aSC 5) hcr14) mk_J7_fill_53178 ml_X3_46 ⟨(Nat.le_of_ble_eq_true rfl), (Nat.le_of_ble_eq_true rfl)⟩ G [6] rfl rfl rfl hl.1 rfl (Nat.le_of_ble_eq_true rfl) dX3_begin_66 ⟨Nat.zero_le _, Nat.zero_le _⟩) rfl G [6] [0, 1, 2, 3, 4, 5, 7, 8, 9, 10, 11, 12, 13, 14] 15 rfl (by subst eSC15; rfl) rfl (by subst eSC15; rfl) rfl (by decide) (by decide) rfl (fun H locs G => ?_)
  refine lv_aload_n hx hb dX3_begin_69 rfl (lv_at hl 0 rfl) ?_
  refine r_get X inw_X3 G 0 rfl rfl 9 (by decide) fl_X3_40 (v := .ref (aSC 6)) rfl dX3_begin_70 ?_
  refine lv_iconst (v := 0) hx hb dX3_begin_73 (by decide) ?_
  obtain ⟨r16, hcr16, hf⟩ := bd_some hf
  obtain ⟨SC17, eSC17, hf⟩ := nm_some hf
  refine p_N (st1 := []) (wr := [(ot, .inr (3, [.int (Sc_tick SC15), .int (Sc_window SC15), .int (Sc_grace SC15), .ref (aSC 0), .ref (aSC 1), .ref (aSC 2), .ref (aSC 3), .ref (aSC 4), .ref (aSC 5), .ref (aSC 6), .ref (aSC 7)])), (aSC 0, .inl (k 0, 8, .inl (Sc_place SC15))), (aSC 1, .inl (k 0, 8, .inl (Sc_ticked SC15))), (aSC 2, .inl (k 0, 8, .inl (Sc_beat SC15))), (aSC 3, .inl (k 0, 8, .inl (Sc_steps SC15))), (aSC 4, .inl (k 0, 8, .inl (Sc_marks SC15))), (aSC 5, .inl (k 0, 6, .inl (Sc_holders SC15))), (aSC 7, .inl (k 0, 64, .inl (Sc_mail SC15)))] ++ (kPl k o1 aPL (PL))) (ws' := kSc k ot aSC (SC17) ++ (kPl k o1 aPL (PL))) (run_S (rest := []) X (ctJ7_fill_53178 hZ (aSC 6) hcr16) mk_J7_fill_53178 ml_X3_46 ⟨(Nat.le_of_ble_eq_true rfl), (Nat.le_of_ble_eq_true rfl)⟩ G [7] rfl rfl rfl hl.1 rfl (Nat.le_of_ble_eq_true rfl) dX3_begin_74 ⟨Nat.zero_le _, Nat.zero_le _⟩) rfl G [7] [0, 1, 2, 3, 4, 5, 6, 8, 9, 10, 11, 12, 13, 14] 15 rfl (by subst eSC17; rfl) rfl (by subst eSC17; rfl) rfl (by decide) (by decide) rfl (fun H locs G => ?_)
  refine lv_aload_n hx hb dX3_begin_77 rfl (lv_at hl 0 rfl) ?_
  refine r_get X inw_X3 G 0 rfl rfl 10 (by decide) fl_X3_43 (v := .ref (aSC 7)) rfl dX3_begin_78 ?_
  refine lv_iconst (v := 0) hx hb dX3_begin_81 (by decide) ?_
  obtain ⟨r18, hcr18, hf⟩ := bd_some hf
  obtain ⟨SC19, eSC19, hf⟩ := nm_some hf
  refine p_N (st1 := []) (wr := [(ot, .inr (3, [.int (Sc_tick SC17), .int (Sc_window SC17), .int (Sc_grace SC17), .ref (aSC 0), .ref (aSC 1), .ref (aSC 2), .ref (aSC 3), .ref (aSC 4), .ref (aSC 5), .ref (aSC 6), .ref (aSC 7)])), (aSC 0, .inl (k 0, 8, .inl (Sc_place SC17))), (aSC 1, .inl (k 0, 8, .inl (Sc_ticked SC17))), (aSC 2, .inl (k 0, 8, .inl (Sc_beat SC17))), (aSC 3, .inl (k 0, 8, .inl (Sc_steps SC17))), (aSC 4, .inl (k 0, 8, .inl (Sc_marks SC17))), (aSC 5, .inl (k 0, 6, .inl (Sc_holders SC17))), (aSC 6, .inl (k 0, 4, .inl (Sc_lies SC17)))] ++ (kPl k o1 aPL (PL))) (ws' := kSc k ot aSC (SC19) ++ (kPl k o1 aPL (PL))) (run_S (rest := []) X (ctJ7_fill_53178 hZ (aSC 7) hcr18) mk_J7_fill_53178 ml_X3_46 ⟨(Nat.le_of_ble_eq_true rfl), (Nat.le_of_ble_eq_true rfl)⟩ G [8] rfl rfl rfl hl.1 rfl (Nat.le_of_ble_eq_true rfl) dX3_begin_82 ⟨Nat.zero_le _, Nat.zero_le _⟩) rfl G [8] [0, 1, 2, 3, 4, 5, 6, 7, 9, 10, 11, 12, 13, 14] 15 rfl (by subst eSC19; rfl) rfl (by subst eSC19; rfl) rfl (by decide) (by decide) rfl (fun H locs G => ?_)
  cases hf
  exact e_mv X G dX3_begin_85
theorem mk_X3_begin : MV yX3_begin cX3_begin 2 none 1 := ⟨co_X3_begin, in_X3, im_X3_begin, se_X3_begin, by decide +kernel, by decide +kernel⟩
noncomputable def FX3_take (SC : ScT) (SC_2 : ScT) : Option (ScT) :=
  nm (sSc_tick SC (Sc_tick SC_2)) fun SC1 =>
  nm (sSc_window SC1 (Sc_window SC_2)) fun SC2 =>
  nm (sSc_grace SC2 (Sc_grace SC_2)) fun SC3 =>
  (FX9_copy 8 (Sc_place SC_2) 8 (Sc_place SC3)).bind fun r4 =>
  nm (sSc_place SC3 r4) fun SC5 =>
  (FX9_copy 8 (Sc_ticked SC_2) 8 (Sc_ticked SC5)).bind fun r6 =>
  nm (sSc_ticked SC5 r6) fun SC7 =>
  (FX9_copy 8 (Sc_beat SC_2) 8 (Sc_beat SC7)).bind fun r8 =>
  nm (sSc_beat SC7 r8) fun SC9 =>
  (FX9_copy 8 (Sc_steps SC_2) 8 (Sc_steps SC9)).bind fun r10 =>
  nm (sSc_steps SC9 r10) fun SC11 =>
  (FX9_copy 8 (Sc_marks SC_2) 8 (Sc_marks SC11)).bind fun r12 =>
  nm (sSc_marks SC11 r12) fun SC13 =>
  (FX9_copy 6 (Sc_holders SC_2) 6 (Sc_holders SC13)).bind fun r14 =>
  nm (sSc_holders SC13 r14) fun SC15 =>
  (FX9_copy 4 (Sc_lies SC_2) 4 (Sc_lies SC15)).bind fun r16 =>
  nm (sSc_lies SC15 r16) fun SC17 =>
  (FX9_copy 64 (Sc_mail SC_2) 64 (Sc_mail SC17)).bind fun r18 =>
  nm (sSc_mail SC17 r18) fun SC19 =>
  some SC19
set_option maxHeartbeats 4000000 in
set_option maxRecDepth 100000 in
theorem ctX3_take {l : Launch} {D : va_G} {k : Nat → ClassId} {Z : ZT} (hZ : ZOK Z) (ot : Nat) (o1 : Nat) (aSC : Nat → Nat) (aSC_2 : Nat → Nat) {SC : ScT} {SC_2 : ScT} {q : ScT} (hf : FX3_take SC SC_2 = some q) :
    CM l D k Z yX3_take cX3_take 2 none 2 61 [.ref ot, .ref o1] none (kSc k ot aSC (SC) ++ (kSc k o1 aSC_2 (SC_2))) (kSc k ot aSC (q) ++ (kSc k o1 aSC_2 (SC_2))) := by
  refine CM.start hZ (by decide) (Nat.le_of_ble_eq_true rfl) ?_
  intro p e s m below meth c ls X hl G
  have hx := X.1
  have hb := X.2.1
  have hl : lv_has ls 2 [(0, .ref ot), (1, .ref o1)] := hl
  unfold FX3_take at hf
  refine lv_aload_n hx hb dX3_take_0 rfl (lv_at hl 0 rfl) ?_
  refine lv_aload_n hx hb dX3_take_1 rfl (lv_at hl 1 rfl) ?_
  refine r_get X inw_X3 G 9 rfl rfl 0 (by decide) fl_X3_9 (v := .int (Sc_tick SC_2)) rfl dX3_take_2 ?_
  obtain ⟨SC1, eSC1, hf⟩ := nm_some hf
  refine r_put X inw_X3 tyX3 tyX3_ok nmX3 G 0 rfl rfl 0 (by decide) fl_X3_9 rfl rfl rfl (Nat.le_of_ble_eq_true rfl) (ws' := kSc k ot aSC (SC1) ++ (kSc k o1 aSC_2 (SC_2))) (by subst eSC1; rfl) dX3_take_5 (fun H locs G => ?_)
  refine lv_aload_n hx hb dX3_take_8 rfl (lv_at hl 0 rfl) ?_
  refine lv_aload_n hx hb dX3_take_9 rfl (lv_at hl 1 rfl) ?_
  refine r_get X inw_X3 G 9 rfl rfl 1 (by decide) fl_X3_15 (v := .int (Sc_window SC_2)) rfl dX3_take_10 ?_
  obtain ⟨SC2, eSC2, hf⟩ := nm_some hf
  refine r_put X inw_X3 tyX3 tyX3_ok nmX3 G 0 rfl rfl 1 (by decide) fl_X3_15 rfl rfl rfl (Nat.le_of_ble_eq_true rfl) (ws' := kSc k ot aSC (SC2) ++ (kSc k o1 aSC_2 (SC_2))) (by subst eSC2; rfl) dX3_take_13 (fun H locs G => ?_)
  refine lv_aload_n hx hb dX3_take_16 rfl (lv_at hl 0 rfl) ?_
  refine lv_aload_n hx hb dX3_take_17 rfl (lv_at hl 1 rfl) ?_
  refine r_get X inw_X3 G 9 rfl rfl 2 (by decide) fl_X3_18 (v := .int (Sc_grace SC_2)) rfl dX3_take_18 ?_
  obtain ⟨SC3, eSC3, hf⟩ := nm_some hf
  refine r_put X inw_X3 tyX3 tyX3_ok nmX3 G 0 rfl rfl 2 (by decide) fl_X3_18 rfl rfl rfl (Nat.le_of_ble_eq_true rfl) (ws' := kSc k ot aSC (SC3) ++ (kSc k o1 aSC_2 (SC_2))) (by subst eSC3; rfl) dX3_take_21 (fun H locs G => ?_)
  refine lv_aload_n hx hb dX3_take_24 rfl (lv_at hl 1 rfl) ?_
  refine r_get X inw_X3 G 9 rfl rfl 3 (by decide) fl_X3_21 (v := .ref (aSC_2 0)) rfl dX3_take_25 ?_
  refine lv_aload_n hx hb dX3_take_28 rfl (lv_at hl 0 rfl) ?_
  refine r_get X inw_X3 G 0 rfl rfl 3 (by decide) fl_X3_21 (v := .ref (aSC 0)) rfl dX3_take_29 ?_
  obtain ⟨r4, hcr4, hf⟩ := bd_some hf
  obtain ⟨SC5, eSC5, hf⟩ := nm_some hf
  refine p_N (st1 := []) (wr := [(ot, .inr (3, [.int (Sc_tick SC3), .int (Sc_window SC3), .int (Sc_grace SC3), .ref (aSC 0), .ref (aSC 1), .ref (aSC 2), .ref (aSC 3), .ref (aSC 4), .ref (aSC 5), .ref (aSC 6), .ref (aSC 7)])), (aSC 1, .inl (k 0, 8, .inl (Sc_ticked SC3))), (aSC 2, .inl (k 0, 8, .inl (Sc_beat SC3))), (aSC 3, .inl (k 0, 8, .inl (Sc_steps SC3))), (aSC 4, .inl (k 0, 8, .inl (Sc_marks SC3))), (aSC 5, .inl (k 0, 6, .inl (Sc_holders SC3))), (aSC 6, .inl (k 0, 4, .inl (Sc_lies SC3))), (aSC 7, .inl (k 0, 64, .inl (Sc_mail SC3)))] ++ ([(o1, .inr (3, [.int (Sc_tick SC_2), .int (Sc_window SC_2), .int (Sc_grace SC_2), .ref (aSC_2 0), .ref (aSC_2 1), .ref (aSC_2 2), .ref (aSC_2 3), .ref (aSC_2 4), .ref (aSC_2 5), .ref (aSC_2 6), .ref (aSC_2 7)])), (aSC_2 1, .inl (k 0, 8, .inl (Sc_ticked SC_2))), (aSC_2 2, .inl (k 0, 8, .inl (Sc_beat SC_2))), (aSC_2 3, .inl (k 0, 8, .inl (Sc_steps SC_2))), (aSC_2 4, .inl (k 0, 8, .inl (Sc_marks SC_2))), (aSC_2 5, .inl (k 0, 6, .inl (Sc_holders SC_2))), (aSC_2 6, .inl (k 0, 4, .inl (Sc_lies SC_2))), (aSC_2 7, .inl (k 0, 64, .inl (Sc_mail SC_2)))])) (ws' := kSc k ot aSC (SC5) ++ (kSc k o1 aSC_2 (SC_2))) (run_N (rest := []) X (ctX9_copy hZ (aSC_2 0) (aSC 0) hcr4) mk_X9_copy mn_X3_56 ⟨(Nat.le_of_ble_eq_true rfl), (Nat.le_of_ble_eq_true rfl)⟩ G [10, 1] rfl rfl rfl hl.1 rfl (Nat.le_of_ble_eq_true rfl) dX3_take_32 ⟨Nat.zero_le _, Nat.zero_le _⟩) rfl G [10, 1] [0, 2, 3, 4, 5, 6, 7, 8, 9, 11, 12, 13, 14, 15, 16, 17] 18 rfl (by subst eSC5; rfl) rfl (by subst eSC5; rfl) rfl (by decide) (by decide) rfl (fun H locs G => ?_)
  refine lv_aload_n hx hb dX3_take_35 rfl (lv_at hl 1 rfl) ?_
  refine r_get X inw_X3 G 9 rfl rfl 4 (by decide) fl_X3_25 (v := .ref (aSC_2 1)) rfl dX3_take_36 ?_
  refine lv_aload_n hx hb dX3_take_39 rfl (lv_at hl 0 rfl) ?_
  refine r_get X inw_X3 G 0 rfl rfl 4 (by decide) fl_X3_25 (v := .ref (aSC 1)) rfl dX3_take_40 ?_
  obtain ⟨r6, hcr6, hf⟩ := bd_some hf
  obtain ⟨SC7, eSC7, hf⟩ := nm_some hf
  refine p_N (st1 := []) (wr := [(ot, .inr (3, [.int (Sc_tick SC5), .int (Sc_window SC5), .int (Sc_grace SC5), .ref (aSC 0), .ref (aSC 1), .ref (aSC 2), .ref (aSC 3), .ref (aSC 4), .ref (aSC 5), .ref (aSC 6), .ref (aSC 7)])), (aSC 0, .inl (k 0, 8, .inl (Sc_place SC5))), (aSC 2, .inl (k 0, 8, .inl (Sc_beat SC5))), (aSC 3, .inl (k 0, 8, .inl (Sc_steps SC5))), (aSC 4, .inl (k 0, 8, .inl (Sc_marks SC5))), (aSC 5, .inl (k 0, 6, .inl (Sc_holders SC5))), (aSC 6, .inl (k 0, 4, .inl (Sc_lies SC5))), (aSC 7, .inl (k 0, 64, .inl (Sc_mail SC5)))] ++ ([(o1, .inr (3, [.int (Sc_tick SC_2), .int (Sc_window SC_2), .int (Sc_grace SC_2), .ref (aSC_2 0), .ref (aSC_2 1), .ref (aSC_2 2), .ref (aSC_2 3), .ref (aSC_2 4), .ref (aSC_2 5), .ref (aSC_2 6), .ref (aSC_2 7)])), (aSC_2 0, .inl (k 0, 8, .inl (Sc_place SC_2))), (aSC_2 2, .inl (k 0, 8, .inl (Sc_beat SC_2))), (aSC_2 3, .inl (k 0, 8, .inl (Sc_steps SC_2))), (aSC_2 4, .inl (k 0, 8, .inl (Sc_marks SC_2))), (aSC_2 5, .inl (k 0, 6, .inl (Sc_holders SC_2))), (aSC_2 6, .inl (k 0, 4, .inl (Sc_lies SC_2))), (aSC_2 7, .inl (k 0, 64, .inl (Sc_mail SC_2)))])) (ws' := kSc k ot aSC (SC7) ++ (kSc k o1 aSC_2 (SC_2))) (run_N (rest := []) X (ctX9_copy hZ (aSC_2 1) (aSC 1) hcr6) mk_X9_copy mn_X3_56 ⟨(Nat.le_of_ble_eq_true rfl), (Nat.le_of_ble_eq_true rfl)⟩ G [11, 2] rfl rfl rfl hl.1 rfl (Nat.le_of_ble_eq_true rfl) dX3_take_43 ⟨Nat.zero_le _, Nat.zero_le _⟩) rfl G [11, 2] [0, 1, 3, 4, 5, 6, 7, 8, 9, 10, 12, 13, 14, 15, 16, 17] 18 rfl (by subst eSC7; rfl) rfl (by subst eSC7; rfl) rfl (by decide) (by decide) rfl (fun H locs G => ?_)
  refine lv_aload_n hx hb dX3_take_46 rfl (lv_at hl 1 rfl) ?_
  refine r_get X inw_X3 G 9 rfl rfl 5 (by decide) fl_X3_28 (v := .ref (aSC_2 2)) rfl dX3_take_47 ?_
  refine lv_aload_n hx hb dX3_take_50 rfl (lv_at hl 0 rfl) ?_
  refine r_get X inw_X3 G 0 rfl rfl 5 (by decide) fl_X3_28 (v := .ref (aSC 2)) rfl dX3_take_51 ?_
  obtain ⟨r8, hcr8, hf⟩ := bd_some hf
  obtain ⟨SC9, eSC9, hf⟩ := nm_some hf
  refine p_N (st1 := []) (wr := [(ot, .inr (3, [.int (Sc_tick SC7), .int (Sc_window SC7), .int (Sc_grace SC7), .ref (aSC 0), .ref (aSC 1), .ref (aSC 2), .ref (aSC 3), .ref (aSC 4), .ref (aSC 5), .ref (aSC 6), .ref (aSC 7)])), (aSC 0, .inl (k 0, 8, .inl (Sc_place SC7))), (aSC 1, .inl (k 0, 8, .inl (Sc_ticked SC7))), (aSC 3, .inl (k 0, 8, .inl (Sc_steps SC7))), (aSC 4, .inl (k 0, 8, .inl (Sc_marks SC7))), (aSC 5, .inl (k 0, 6, .inl (Sc_holders SC7))), (aSC 6, .inl (k 0, 4, .inl (Sc_lies SC7))), (aSC 7, .inl (k 0, 64, .inl (Sc_mail SC7)))] ++ ([(o1, .inr (3, [.int (Sc_tick SC_2), .int (Sc_window SC_2), .int (Sc_grace SC_2), .ref (aSC_2 0), .ref (aSC_2 1), .ref (aSC_2 2), .ref (aSC_2 3), .ref (aSC_2 4), .ref (aSC_2 5), .ref (aSC_2 6), .ref (aSC_2 7)])), (aSC_2 0, .inl (k 0, 8, .inl (Sc_place SC_2))), (aSC_2 1, .inl (k 0, 8, .inl (Sc_ticked SC_2))), (aSC_2 3, .inl (k 0, 8, .inl (Sc_steps SC_2))), (aSC_2 4, .inl (k 0, 8, .inl (Sc_marks SC_2))), (aSC_2 5, .inl (k 0, 6, .inl (Sc_holders SC_2))), (aSC_2 6, .inl (k 0, 4, .inl (Sc_lies SC_2))), (aSC_2 7, .inl (k 0, 64, .inl (Sc_mail SC_2)))])) (ws' := kSc k ot aSC (SC9) ++ (kSc k o1 aSC_2 (SC_2))) (run_N (rest := []) X (ctX9_copy hZ (aSC_2 2) (aSC 2) hcr8) mk_X9_copy mn_X3_56 ⟨(Nat.le_of_ble_eq_true rfl), (Nat.le_of_ble_eq_true rfl)⟩ G [12, 3] rfl rfl rfl hl.1 rfl (Nat.le_of_ble_eq_true rfl) dX3_take_54 ⟨Nat.zero_le _, Nat.zero_le _⟩) rfl G [12, 3] [0, 1, 2, 4, 5, 6, 7, 8, 9, 10, 11, 13, 14, 15, 16, 17] 18 rfl (by subst eSC9; rfl) rfl (by subst eSC9; rfl) rfl (by decide) (by decide) rfl (fun H locs G => ?_)
  refine lv_aload_n hx hb dX3_take_57 rfl (lv_at hl 1 rfl) ?_
  refine r_get X inw_X3 G 9 rfl rfl 6 (by decide) fl_X3_31 (v := .ref (aSC_2 3)) rfl dX3_take_58 ?_
  refine lv_aload_n hx hb dX3_take_61 rfl (lv_at hl 0 rfl) ?_
  refine r_get X inw_X3 G 0 rfl rfl 6 (by decide) fl_X3_31 (v := .ref (aSC 3)) rfl dX3_take_62 ?_
  obtain ⟨r10, hcr10, hf⟩ := bd_some hf
  obtain ⟨SC11, eSC11, hf⟩ := nm_some hf
  refine p_N (st1 := []) (wr := [(ot, .inr (3, [.int (Sc_tick SC9), .int (Sc_window SC9), .int (Sc_grace SC9), .ref (aSC 0), .ref (aSC 1), .ref (aSC 2), .ref (aSC 3), .ref (aSC 4), .ref (aSC 5), .ref (aSC 6), .ref (aSC 7)])), (aSC 0, .inl (k 0, 8, .inl (Sc_place SC9))), (aSC 1, .inl (k 0, 8, .inl (Sc_ticked SC9))), (aSC 2, .inl (k 0, 8, .inl (Sc_beat SC9))), (aSC 4, .inl (k 0, 8, .inl (Sc_marks SC9))), (aSC 5, .inl (k 0, 6, .inl (Sc_holders SC9))), (aSC 6, .inl (k 0, 4, .inl (Sc_lies SC9))), (aSC 7, .inl (k 0, 64, .inl (Sc_mail SC9)))] ++ ([(o1, .inr (3, [.int (Sc_tick SC_2), .int (Sc_window SC_2), .int (Sc_grace SC_2), .ref (aSC_2 0), .ref (aSC_2 1), .ref (aSC_2 2), .ref (aSC_2 3), .ref (aSC_2 4), .ref (aSC_2 5), .ref (aSC_2 6), .ref (aSC_2 7)])), (aSC_2 0, .inl (k 0, 8, .inl (Sc_place SC_2))), (aSC_2 1, .inl (k 0, 8, .inl (Sc_ticked SC_2))), (aSC_2 2, .inl (k 0, 8, .inl (Sc_beat SC_2))), (aSC_2 4, .inl (k 0, 8, .inl (Sc_marks SC_2))), (aSC_2 5, .inl (k 0, 6, .inl (Sc_holders SC_2))), (aSC_2 6, .inl (k 0, 4, .inl (Sc_lies SC_2))), (aSC_2 7, .inl (k 0, 64, .inl (Sc_mail SC_2)))])) (ws' := kSc k ot aSC (SC11) ++ (kSc k o1 aSC_2 (SC_2))) (run_N (rest := []) X (ctX9_copy hZ (aSC_2 3) (aSC 3) hcr10) mk_X9_copy mn_X3_56 ⟨(Nat.le_of_ble_eq_true rfl), (Nat.le_of_ble_eq_true rfl)⟩ G [13, 4] rfl rfl rfl hl.1 rfl (Nat.le_of_ble_eq_true rfl) dX3_take_65 ⟨Nat.zero_le _, Nat.zero_le _⟩) rfl G [13, 4] [0, 1, 2, 3, 5, 6, 7, 8, 9, 10, 11, 12, 14, 15, 16, 17] 18 rfl (by subst eSC11; rfl) rfl (by subst eSC11; rfl) rfl (by decide) (by decide) rfl (fun H locs G => ?_)
  refine lv_aload_n hx hb dX3_take_68 rfl (lv_at hl 1 rfl) ?_
  refine r_get X inw_X3 G 9 rfl rfl 7 (by decide) fl_X3_34 (v := .ref (aSC_2 4)) rfl dX3_take_69 ?_
  refine lv_aload_n hx hb dX3_take_72 rfl (lv_at hl 0 rfl) ?_
  refine r_get X inw_X3 G 0 rfl rfl 7 (by decide) fl_X3_34 (v := .ref (aSC 4)) rfl dX3_take_73 ?_
  obtain ⟨r12, hcr12, hf⟩ := bd_some hf
  obtain ⟨SC13, eSC13, hf⟩ := nm_some hf
  refine p_N (st1 := []) (wr := [(ot, .inr (3, [.int (Sc_tick SC11), .int (Sc_window SC11), .int (Sc_grace SC11), .ref (aSC 0), .ref (aSC 1), .ref (aSC 2), .ref (aSC 3), .ref (aSC 4), .ref (aSC 5), .ref (aSC 6), .ref (aSC 7)])), (aSC 0, .inl (k 0, 8, .inl (Sc_place SC11))), (aSC 1, .inl (k 0, 8, .inl (Sc_ticked SC11))), (aSC 2, .inl (k 0, 8, .inl (Sc_beat SC11))), (aSC 3, .inl (k 0, 8, .inl (Sc_steps SC11))), (aSC 5, .inl (k 0, 6, .inl (Sc_holders SC11))), (aSC 6, .inl (k 0, 4, .inl (Sc_lies SC11))), (aSC 7, .inl (k 0, 64, .inl (Sc_mail SC11)))] ++ ([(o1, .inr (3, [.int (Sc_tick SC_2), .int (Sc_window SC_2), .int (Sc_grace SC_2), .ref (aSC_2 0), .ref (aSC_2 1), .ref (aSC_2 2), .ref (aSC_2 3), .ref (aSC_2 4), .ref (aSC_2 5), .ref (aSC_2 6), .ref (aSC_2 7)])), (aSC_2 0, .inl (k 0, 8, .inl (Sc_place SC_2))), (aSC_2 1, .inl (k 0, 8, .inl (Sc_ticked SC_2))), (aSC_2 2, .inl (k 0, 8, .inl (Sc_beat SC_2))), (aSC_2 3, .inl (k 0, 8, .inl (Sc_steps SC_2))), (aSC_2 5, .inl (k 0, 6, .inl (Sc_holders SC_2))), (aSC_2 6, .inl (k 0, 4, .inl (Sc_lies SC_2))), (aSC_2 7, .inl (k 0, 64, .inl (Sc_mail SC_2)))])) (ws' := kSc k ot aSC (SC13) ++ (kSc k o1 aSC_2 (SC_2))) (run_N (rest := []) X (ctX9_copy hZ (aSC_2 4) (aSC 4) hcr12) mk_X9_copy mn_X3_56 ⟨(Nat.le_of_ble_eq_true rfl), (Nat.le_of_ble_eq_true rfl)⟩ G [14, 5] rfl rfl rfl hl.1 rfl (Nat.le_of_ble_eq_true rfl) dX3_take_76 ⟨Nat.zero_le _, Nat.zero_le _⟩) rfl G [14, 5] [0, 1, 2, 3, 4, 6, 7, 8, 9, 10, 11, 12, 13, 15, 16, 17] 18 rfl (by subst eSC13; rfl) rfl (by subst eSC13; rfl) rfl (by decide) (by decide) rfl (fun H locs G => ?_)
  refine lv_aload_n hx hb dX3_take_79 rfl (lv_at hl 1 rfl) ?_
  refine r_get X inw_X3 G 9 rfl rfl 8 (by decide) fl_X3_37 (v := .ref (aSC_2 5)) rfl dX3_take_80 ?_
  refine lv_aload_n hx hb dX3_take_83 rfl (lv_at hl 0 rfl) ?_
  refine r_get X inw_X3 G 0 rfl rfl 8 (by decide) fl_X3_37 (v := .ref (aSC 5)) rfl dX3_take_84 ?_
  obtain ⟨r14, hcr14, hf⟩ := bd_some hf
  obtain ⟨SC15, eSC15, hf⟩ := nm_some hf
  refine p_N (st1 := []) (wr := [(ot, .inr (3, [.int (Sc_tick SC13), .int (Sc_window SC13), .int (Sc_grace SC13), .ref (aSC 0), .ref (aSC 1), .ref (aSC 2), .ref (aSC 3), .ref (aSC 4), .ref (aSC 5), .ref (aSC 6), .ref (aSC 7)])), (aSC 0, .inl (k 0, 8, .inl (Sc_place SC13))), (aSC 1, .inl (k 0, 8, .inl (Sc_ticked SC13))), (aSC 2, .inl (k 0, 8, .inl (Sc_beat SC13))), (aSC 3, .inl (k 0, 8, .inl (Sc_steps SC13))), (aSC 4, .inl (k 0, 8, .inl (Sc_marks SC13))), (aSC 6, .inl (k 0, 4, .inl (Sc_lies SC13))), (aSC 7, .inl (k 0, 64, .inl (Sc_mail SC13)))] ++ ([(o1, .inr (3, [.int (Sc_tick SC_2), .int (Sc_window SC_2), .int (Sc_grace SC_2), .ref (aSC_2 0), .ref (aSC_2 1), .ref (aSC_2 2), .ref (aSC_2 3), .ref (aSC_2 4), .ref (aSC_2 5), .ref (aSC_2 6), .ref (aSC_2 7)])), (aSC_2 0, .inl (k 0, 8, .inl (Sc_place SC_2))), (aSC_2 1, .inl (k 0, 8, .inl (Sc_ticked SC_2))), (aSC_2 2, .inl (k 0, 8, .inl (Sc_beat SC_2))), (aSC_2 3, .inl (k 0, 8, .inl (Sc_steps SC_2))), (aSC_2 4, .inl (k 0, 8, .inl (Sc_marks SC_2))), (aSC_2 6, .inl (k 0, 4, .inl (Sc_lies SC_2))), (aSC_2 7, .inl (k 0, 64, .inl (Sc_mail SC_2)))])) (ws' := kSc k ot aSC (SC15) ++ (kSc k o1 aSC_2 (SC_2))) (run_N (rest := []) X (ctX9_copy hZ (aSC_2 5) (aSC 5) hcr14) mk_X9_copy mn_X3_56 ⟨(Nat.le_of_ble_eq_true rfl), (Nat.le_of_ble_eq_true rfl)⟩ G [15, 6] rfl rfl rfl hl.1 rfl (Nat.le_of_ble_eq_true rfl) dX3_take_87 ⟨Nat.zero_le _, Nat.zero_le _⟩) rfl G [15, 6] [0, 1, 2, 3, 4, 5, 7, 8, 9, 10, 11, 12, 13, 14, 16, 17] 18 rfl (by subst eSC15; rfl) rfl (by subst eSC15; rfl) rfl (by decide) (by decide) rfl (fun H locs G => ?_)
  refine lv_aload_n hx hb dX3_take_90 rfl (lv_at hl 1 rfl) ?_
  refine r_get X inw_X3 G 9 rfl rfl 9 (by decide) fl_X3_40 (v := .ref (aSC_2 6)) rfl dX3_take_91 ?_
  refine lv_aload_n hx hb dX3_take_94 rfl (lv_at hl 0 rfl) ?_
  refine r_get X inw_X3 G 0 rfl rfl 9 (by decide) fl_X3_40 (v := .ref (aSC 6)) rfl dX3_take_95 ?_
  obtain ⟨r16, hcr16, hf⟩ := bd_some hf
  obtain ⟨SC17, eSC17, hf⟩ := nm_some hf
  refine p_N (st1 := []) (wr := [(ot, .inr (3, [.int (Sc_tick SC15), .int (Sc_window SC15), .int (Sc_grace SC15), .ref (aSC 0), .ref (aSC 1), .ref (aSC 2), .ref (aSC 3), .ref (aSC 4), .ref (aSC 5), .ref (aSC 6), .ref (aSC 7)])), (aSC 0, .inl (k 0, 8, .inl (Sc_place SC15))), (aSC 1, .inl (k 0, 8, .inl (Sc_ticked SC15))), (aSC 2, .inl (k 0, 8, .inl (Sc_beat SC15))), (aSC 3, .inl (k 0, 8, .inl (Sc_steps SC15))), (aSC 4, .inl (k 0, 8, .inl (Sc_marks SC15))), (aSC 5, .inl (k 0, 6, .inl (Sc_holders SC15))), (aSC 7, .inl (k 0, 64, .inl (Sc_mail SC15)))] ++ ([(o1, .inr (3, [.int (Sc_tick SC_2), .int (Sc_window SC_2), .int (Sc_grace SC_2), .ref (aSC_2 0), .ref (aSC_2 1), .ref (aSC_2 2), .ref (aSC_2 3), .ref (aSC_2 4), .ref (aSC_2 5), .ref (aSC_2 6), .ref (aSC_2 7)])), (aSC_2 0, .inl (k 0, 8, .inl (Sc_place SC_2))), (aSC_2 1, .inl (k 0, 8, .inl (Sc_ticked SC_2))), (aSC_2 2, .inl (k 0, 8, .inl (Sc_beat SC_2))), (aSC_2 3, .inl (k 0, 8, .inl (Sc_steps SC_2))), (aSC_2 4, .inl (k 0, 8, .inl (Sc_marks SC_2))), (aSC_2 5, .inl (k 0, 6, .inl (Sc_holders SC_2))), (aSC_2 7, .inl (k 0, 64, .inl (Sc_mail SC_2)))])) (ws' := kSc k ot aSC (SC17) ++ (kSc k o1 aSC_2 (SC_2))) (run_N (rest := []) X (ctX9_copy hZ (aSC_2 6) (aSC 6) hcr16) mk_X9_copy mn_X3_56 ⟨(Nat.le_of_ble_eq_true rfl), (Nat.le_of_ble_eq_true rfl)⟩ G [16, 7] rfl rfl rfl hl.1 rfl (Nat.le_of_ble_eq_true rfl) dX3_take_98 ⟨Nat.zero_le _, Nat.zero_le _⟩) rfl G [16, 7] [0, 1, 2, 3, 4, 5, 6, 8, 9, 10, 11, 12, 13, 14, 15, 17] 18 rfl (by subst eSC17; rfl) rfl (by subst eSC17; rfl) rfl (by decide) (by decide) rfl (fun H locs G => ?_)
  refine lv_aload_n hx hb dX3_take_101 rfl (lv_at hl 1 rfl) ?_
  refine r_get X inw_X3 G 9 rfl rfl 10 (by decide) fl_X3_43 (v := .ref (aSC_2 7)) rfl dX3_take_102 ?_
  refine lv_aload_n hx hb dX3_take_105 rfl (lv_at hl 0 rfl) ?_
  refine r_get X inw_X3 G 0 rfl rfl 10 (by decide) fl_X3_43 (v := .ref (aSC 7)) rfl dX3_take_106 ?_
  obtain ⟨r18, hcr18, hf⟩ := bd_some hf
  obtain ⟨SC19, eSC19, hf⟩ := nm_some hf
  refine p_N (st1 := []) (wr := [(ot, .inr (3, [.int (Sc_tick SC17), .int (Sc_window SC17), .int (Sc_grace SC17), .ref (aSC 0), .ref (aSC 1), .ref (aSC 2), .ref (aSC 3), .ref (aSC 4), .ref (aSC 5), .ref (aSC 6), .ref (aSC 7)])), (aSC 0, .inl (k 0, 8, .inl (Sc_place SC17))), (aSC 1, .inl (k 0, 8, .inl (Sc_ticked SC17))), (aSC 2, .inl (k 0, 8, .inl (Sc_beat SC17))), (aSC 3, .inl (k 0, 8, .inl (Sc_steps SC17))), (aSC 4, .inl (k 0, 8, .inl (Sc_marks SC17))), (aSC 5, .inl (k 0, 6, .inl (Sc_holders SC17))), (aSC 6, .inl (k 0, 4, .inl (Sc_lies SC17)))] ++ ([(o1, .inr (3, [.int (Sc_tick SC_2), .int (Sc_window SC_2), .int (Sc_grace SC_2), .ref (aSC_2 0), .ref (aSC_2 1), .ref (aSC_2 2), .ref (aSC_2 3), .ref (aSC_2 4), .ref (aSC_2 5), .ref (aSC_2 6), .ref (aSC_2 7)])), (aSC_2 0, .inl (k 0, 8, .inl (Sc_place SC_2))), (aSC_2 1, .inl (k 0, 8, .inl (Sc_ticked SC_2))), (aSC_2 2, .inl (k 0, 8, .inl (Sc_beat SC_2))), (aSC_2 3, .inl (k 0, 8, .inl (Sc_steps SC_2))), (aSC_2 4, .inl (k 0, 8, .inl (Sc_marks SC_2))), (aSC_2 5, .inl (k 0, 6, .inl (Sc_holders SC_2))), (aSC_2 6, .inl (k 0, 4, .inl (Sc_lies SC_2)))])) (ws' := kSc k ot aSC (SC19) ++ (kSc k o1 aSC_2 (SC_2))) (run_N (rest := []) X (ctX9_copy hZ (aSC_2 7) (aSC 7) hcr18) mk_X9_copy mn_X3_56 ⟨(Nat.le_of_ble_eq_true rfl), (Nat.le_of_ble_eq_true rfl)⟩ G [17, 8] rfl rfl rfl hl.1 rfl (Nat.le_of_ble_eq_true rfl) dX3_take_109 ⟨Nat.zero_le _, Nat.zero_le _⟩) rfl G [17, 8] [0, 1, 2, 3, 4, 5, 6, 7, 9, 10, 11, 12, 13, 14, 15, 16] 18 rfl (by subst eSC19; rfl) rfl (by subst eSC19; rfl) rfl (by decide) (by decide) rfl (fun H locs G => ?_)
  cases hf
  exact e_mv X G dX3_take_112
theorem mk_X3_take : MV yX3_take cX3_take 2 none 1 := ⟨co_X3_take, in_X3, im_X3_take, se_X3_take, by decide +kernel, by decide +kernel⟩
noncomputable def FX3_allEnded_2 (SC : ScT) (PL : PlT) : Int32 → Option ((Int32) ⊕ ((Unit) ⊕ (Unit))) := fun stL1 =>
  if (Pl_workers PL) ≤ stL1 then (
    some (.inr (.inl ()))
  ) else (
    ix stL1 8 <|
    if (Sc_place SC (Int32.toNatClampNeg stL1)) = (-1 : Int32) then (
      nm (stL1 + 1) fun x5 =>
      some (.inl x5)
    ) else (
      some (.inr (.inr (())))
    )
  )
noncomputable def FX3_allEnded (SC : ScT) (PL : PlT) : Option (Bool) :=
  (itr (FX3_allEnded_2 SC PL) (0 : Int32)).bind fun exL1 =>
  Sum.elim (fun uL1 =>
    some true
  )
  (fun uL1 =>
    some false
  ) exL1
set_option maxHeartbeats 4000000 in
set_option maxRecDepth 100000 in
theorem ctX3_allEnded {l : Launch} {D : va_G} {k : Nat → ClassId} {Z : ZT} (hZ : ZOK Z) (ot : Nat) (o1 : Nat) (aSC : Nat → Nat) (aPL : Nat → Nat) {SC : ScT} {PL : PlT} {q : Bool} (hf : FX3_allEnded SC PL = some q) :
    CR l D k Z yX3_allEnded cX3_allEnded 3 (some .boolean) 0 0 [.ref ot, .ref o1] (some (.int (bI q))) (kSc k ot aSC (SC) ++ (kPl k o1 aPL (PL))) := by
  refine CR.start hZ (by decide) (Nat.le_of_ble_eq_true rfl) ?_
  intro p e s m below meth c ls X hl G
  have hx := X.1
  have hb := X.2.1
  have hl : lv_has ls 3 [(0, .ref ot), (1, .ref o1)] := hl
  unfold FX3_allEnded at hf
  refine lv_iconst (v := 0) hx hb dX3_allEnded_0 (by decide) ?_
  refine lv_istore_n (lv' := [(2, .int (0 : Int32)), (0, .ref ot), (1, .ref o1)]) hx hb dX3_allEnded_1 rfl hl (by decide) rfl (fun ls hl => ?_)
  obtain ⟨exL1, hitL1, hfL1⟩ := bd_some hf
  obtain ⟨nL1, hitL1⟩ := itr_ex hitL1
  have KL1_0 : ∀ (u : Unit) (ls : Array Slot), exL1 = Sum.inl u → lv_has ls 3 [] → W p l e (rmz 0 0) s m [.ref ot, .ref o1].toArray below meth c s.heap [] 0 0 (MQ below (Qr (some (.int (bI q)))) [.ref ot, .ref o1].toArray s 0 0 (fun _ => False)) (F0 m 28 ls []) := by
    intro uL1 ls hex hl
    rw [hex] at hfL1
    have hf := hfL1
    replace hf := sl_l hf
    refine lv_iconst (v := 1) hx hb dX3_allEnded_28 (by decide) ?_
    cases hf
    exact e_rz _ rfl X dX3_allEnded_29
  have KL1_1 : ∀ (u : Unit) (ls : Array Slot), exL1 = Sum.inr (u) → lv_has ls 3 [] → W p l e (rmz 0 0) s m [.ref ot, .ref o1].toArray below meth c s.heap [] 0 0 (MQ below (Qr (some (.int (bI q)))) [.ref ot, .ref o1].toArray s 0 0 (fun _ => False)) (F0 m 20 ls []) := by
    intro uL1 ls hex hl
    rw [hex] at hfL1
    have hf := hfL1
    replace hf := sl_r hf
    refine lv_iconst (v := 0) hx hb dX3_allEnded_20 (by decide) ?_
    cases hf
    exact e_rz _ rfl X dX3_allEnded_21
  have LL1 : ∀ (n : Nat) (stL1 : Int32) (ls : Array Slot), lv_has ls 3 [(0, .ref ot), (1, .ref o1), (2, .int stL1)] → it (FX3_allEnded_2 SC PL) n stL1 = some exL1 → W p l e (rmz 0 0) s m [.ref ot, .ref o1].toArray below meth c s.heap [] 0 0 (MQ below (Qr (some (.int (bI q)))) [.ref ot, .ref o1].toArray s 0 0 (fun _ => False)) (F0 m 2 ls []) := by
    intro n
    induction n with
    | zero =>
      intro stL1 ls hl hit
      exact (it_zero hit).elim
    | succ n ih =>
      intro stL1 ls hl hit
      obtain ⟨oL1, hf, hoL1⟩ := it_bd hit
      unfold FX3_allEnded_2 at hf
      refine lv_iload_n hx hb dX3_allEnded_2 rfl (lv_at hl 2 rfl) ?_
      refine lv_aload_n hx hb dX3_allEnded_3 rfl (lv_at hl 1 rfl) ?_
      refine r_get X inw_X1 G 9 rfl rfl 0 (by decide) fl_X3_60 (v := .int (Pl_workers PL)) rfl dX3_allEnded_4 ?_
      refine lv_icmp_ge (tgt := 28) hx hb dX3_allEnded_7 (by decide) (fun c2 => ?_) (fun c2 => ?_)
      · replace hf := if_t hf c2
        cases hf
        exact KL1_0 () _ (it_out hoL1) (lv_sub hl [] rfl)
      · replace hf := if_f hf c2
        refine lv_aload_n hx hb dX3_allEnded_10 rfl (lv_at hl 0 rfl) ?_
        refine r_get X inw_X3 G 0 rfl rfl 3 (by decide) fl_X3_21 (v := .ref (aSC 0)) rfl dX3_allEnded_11 ?_
        refine lv_iload_n hx hb dX3_allEnded_14 rfl (lv_at hl 2 rfl) ?_
        obtain ⟨h3, hf⟩ := ix_some hf
        refine r_iald X G 1 rfl h3 dX3_allEnded_15 ?_
        refine lv_iconst (v := -1) hx hb dX3_allEnded_16 (by decide) ?_
        refine lv_icmp_eq (tgt := 22) hx hb dX3_allEnded_17 (by decide) (fun c4 => ?_) (fun c4 => ?_)
        · replace hf := if_t hf c4
          obtain ⟨x5, ex5, hf⟩ := nm_some hf
          refine lv_iinc (v := x5) (lv' := [(2, .int x5), (0, .ref ot), (1, .ref o1)]) hx hb dX3_allEnded_22 hl (k := 2) rfl (by subst ex5; rfl) (by decide) rfl (fun ls hl => ?_)
          refine lv_goto (tgt := 2) hx hb dX3_allEnded_25 (by decide) ?_
          cases hf
          exact ih x5 _ (lv_sub hl [1, 2, 0] rfl) hoL1
        · replace hf := if_f hf c4
          cases hf
          exact KL1_1 () _ (it_out hoL1) (lv_sub hl [] rfl)
  exact LL1 nL1 (0 : Int32) _ (lv_sub hl [1, 2, 0] rfl) hitL1
theorem mk_X3_allEnded : MV yX3_allEnded cX3_allEnded 3 (some .boolean) 1 := ⟨co_X3_allEnded, in_X3, im_X3_allEnded, se_X3_allEnded, by decide +kernel, by decide +kernel⟩
noncomputable def FX3_quiet (SC : ScT) (v1 : Int32) : Option (Int32) :=
  ix v1 8 <|
  some ((Sc_tick SC) - (Sc_beat SC (Int32.toNatClampNeg v1)))
set_option maxHeartbeats 4000000 in
set_option maxRecDepth 100000 in
theorem ctX3_quiet {l : Launch} {D : va_G} {k : Nat → ClassId} {Z : ZT} (hZ : ZOK Z) (ot : Nat) (aSC : Nat → Nat) {SC : ScT} {v1 : Int32} {q : Int32} (hf : FX3_quiet SC v1 = some q) :
    CR l D k Z yX3_quiet cX3_quiet 2 (some .int) 0 0 [.ref ot, .int v1] (some (.int q)) (kSc k ot aSC (SC)) := by
  refine CR.start hZ (by decide) (Nat.le_of_ble_eq_true rfl) ?_
  intro p e s m below meth c ls X hl G
  have hx := X.1
  have hb := X.2.1
  have hl : lv_has ls 2 [(0, .ref ot), (1, .int v1)] := hl
  unfold FX3_quiet at hf
  refine lv_aload_n hx hb dX3_quiet_0 rfl (lv_at hl 0 rfl) ?_
  refine r_get X inw_X3 G 0 rfl rfl 0 (by decide) fl_X3_9 (v := .int (Sc_tick SC)) rfl dX3_quiet_1 ?_
  refine lv_aload_n hx hb dX3_quiet_4 rfl (lv_at hl 0 rfl) ?_
  refine r_get X inw_X3 G 0 rfl rfl 5 (by decide) fl_X3_28 (v := .ref (aSC 2)) rfl dX3_quiet_5 ?_
  refine lv_iload_n hx hb dX3_quiet_8 rfl (lv_at hl 1 rfl) ?_
  obtain ⟨h1, hf⟩ := ix_some hf
  refine r_iald X G 3 rfl h1 dX3_quiet_9 ?_
  refine lv_isub hx hb dX3_quiet_10 ?_
  cases hf
  exact e_ri X dX3_quiet_11
theorem mk_X3_quiet : MV yX3_quiet cX3_quiet 2 (some .int) 1 := ⟨co_X3_quiet, in_X3, im_X3_quiet, se_X3_quiet, by decide +kernel, by decide +kernel⟩
noncomputable def FX3_anyQuiet_2 (SC : ScT) (PL : PlT) : Int32 → Option ((Int32) ⊕ ((Unit) ⊕ (Unit))) := fun stL1 =>
  if (Pl_workers PL) ≤ stL1 then (
    some (.inr (.inl ()))
  ) else (
    ix stL1 8 <|
    if (Sc_place SC (Int32.toNatClampNeg stL1)) = (-1 : Int32) then (
      nm (stL1 + 1) fun x5 =>
      some (.inl x5)
    ) else (
      (FX3_quiet SC stL1).bind fun r6 =>
      if r6 < (Sc_window SC) then (
        nm (stL1 + 1) fun x8 =>
        some (.inl x8)
      ) else (
        some (.inr (.inr (())))
      )
    )
  )
noncomputable def FX3_anyQuiet (SC : ScT) (PL : PlT) : Option (Bool) :=
  (itr (FX3_anyQuiet_2 SC PL) (0 : Int32)).bind fun exL1 =>
  Sum.elim (fun uL1 =>
    some false
  )
  (fun uL1 =>
    some true
  ) exL1
set_option maxHeartbeats 4000000 in
set_option maxRecDepth 100000 in
theorem ctX3_anyQuiet {l : Launch} {D : va_G} {k : Nat → ClassId} {Z : ZT} (hZ : ZOK Z) (ot : Nat) (o1 : Nat) (aSC : Nat → Nat) (aPL : Nat → Nat) {SC : ScT} {PL : PlT} {q : Bool} (hf : FX3_anyQuiet SC PL = some q) :
    CR l D k Z yX3_anyQuiet cX3_anyQuiet 3 (some .boolean) 1 21 [.ref ot, .ref o1] (some (.int (bI q))) (kSc k ot aSC (SC) ++ (kPl k o1 aPL (PL))) := by
  refine CR.start hZ (by decide) (Nat.le_of_ble_eq_true rfl) ?_
  intro p e s m below meth c ls X hl G
  have hx := X.1
  have hb := X.2.1
  have hl : lv_has ls 3 [(0, .ref ot), (1, .ref o1)] := hl
  unfold FX3_anyQuiet at hf
  refine lv_iconst (v := 0) hx hb dX3_anyQuiet_0 (by decide) ?_
  refine lv_istore_n (lv' := [(2, .int (0 : Int32)), (0, .ref ot), (1, .ref o1)]) hx hb dX3_anyQuiet_1 rfl hl (by decide) rfl (fun ls hl => ?_)
  obtain ⟨exL1, hitL1, hfL1⟩ := bd_some hf
  obtain ⟨nL1, hitL1⟩ := itr_ex hitL1
  have KL1_0 : ∀ (u : Unit) (ls : Array Slot), exL1 = Sum.inl u → lv_has ls 3 [] → W p l e (rmz 1 21) s m [.ref ot, .ref o1].toArray below meth c s.heap [] 0 0 (MQ below (Qr (some (.int (bI q)))) [.ref ot, .ref o1].toArray s 0 0 (fun _ => False)) (F0 m 40 ls []) := by
    intro uL1 ls hex hl
    rw [hex] at hfL1
    have hf := hfL1
    replace hf := sl_l hf
    refine lv_iconst (v := 0) hx hb dX3_anyQuiet_40 (by decide) ?_
    cases hf
    exact e_rz _ rfl X dX3_anyQuiet_41
  have KL1_1 : ∀ (u : Unit) (ls : Array Slot), exL1 = Sum.inr (u) → lv_has ls 3 [] → W p l e (rmz 1 21) s m [.ref ot, .ref o1].toArray below meth c s.heap [] 0 0 (MQ below (Qr (some (.int (bI q)))) [.ref ot, .ref o1].toArray s 0 0 (fun _ => False)) (F0 m 32 ls []) := by
    intro uL1 ls hex hl
    rw [hex] at hfL1
    have hf := hfL1
    replace hf := sl_r hf
    refine lv_iconst (v := 1) hx hb dX3_anyQuiet_32 (by decide) ?_
    cases hf
    exact e_rz _ rfl X dX3_anyQuiet_33
  have LL1 : ∀ (n : Nat) (stL1 : Int32) (ls : Array Slot), lv_has ls 3 [(0, .ref ot), (1, .ref o1), (2, .int stL1)] → it (FX3_anyQuiet_2 SC PL) n stL1 = some exL1 → W p l e (rmz 1 21) s m [.ref ot, .ref o1].toArray below meth c s.heap [] 0 0 (MQ below (Qr (some (.int (bI q)))) [.ref ot, .ref o1].toArray s 0 0 (fun _ => False)) (F0 m 2 ls []) := by
    intro n
    induction n with
    | zero =>
      intro stL1 ls hl hit
      exact (it_zero hit).elim
    | succ n ih =>
      intro stL1 ls hl hit
      obtain ⟨oL1, hf, hoL1⟩ := it_bd hit
      unfold FX3_anyQuiet_2 at hf
      refine lv_iload_n hx hb dX3_anyQuiet_2 rfl (lv_at hl 2 rfl) ?_
      refine lv_aload_n hx hb dX3_anyQuiet_3 rfl (lv_at hl 1 rfl) ?_
      refine r_get X inw_X1 G 9 rfl rfl 0 (by decide) fl_X3_60 (v := .int (Pl_workers PL)) rfl dX3_anyQuiet_4 ?_
      refine lv_icmp_ge (tgt := 40) hx hb dX3_anyQuiet_7 (by decide) (fun c2 => ?_) (fun c2 => ?_)
      · replace hf := if_t hf c2
        cases hf
        exact KL1_0 () _ (it_out hoL1) (lv_sub hl [] rfl)
      · replace hf := if_f hf c2
        refine lv_aload_n hx hb dX3_anyQuiet_10 rfl (lv_at hl 0 rfl) ?_
        refine r_get X inw_X3 G 0 rfl rfl 3 (by decide) fl_X3_21 (v := .ref (aSC 0)) rfl dX3_anyQuiet_11 ?_
        refine lv_iload_n hx hb dX3_anyQuiet_14 rfl (lv_at hl 2 rfl) ?_
        obtain ⟨h3, hf⟩ := ix_some hf
        refine r_iald X G 1 rfl h3 dX3_anyQuiet_15 ?_
        refine lv_iconst (v := -1) hx hb dX3_anyQuiet_16 (by decide) ?_
        refine lv_icmp_eq (tgt := 34) hx hb dX3_anyQuiet_17 (by decide) (fun c4 => ?_) (fun c4 => ?_)
        · replace hf := if_t hf c4
          obtain ⟨x5, ex5, hf⟩ := nm_some hf
          refine lv_iinc (v := x5) (lv' := [(2, .int x5), (0, .ref ot), (1, .ref o1)]) hx hb dX3_anyQuiet_34 hl (k := 2) rfl (by subst ex5; rfl) (by decide) rfl (fun ls hl => ?_)
          refine lv_goto (tgt := 2) hx hb dX3_anyQuiet_37 (by decide) ?_
          cases hf
          exact ih x5 _ (lv_sub hl [1, 2, 0] rfl) hoL1
        · replace hf := if_f hf c4
          refine lv_aload_n hx hb dX3_anyQuiet_20 rfl (lv_at hl 0 rfl) ?_
          refine lv_iload_n hx hb dX3_anyQuiet_21 rfl (lv_at hl 2 rfl) ?_
          obtain ⟨r6, hcr6, hf⟩ := bd_some hf
          refine p_R (st1 := [.int r6]) (run_V (rest := []) X (ctX3_quiet hZ ot aSC hcr6) mk_X3_quiet ml_X3_63 ⟨(Nat.le_of_ble_eq_true rfl), (Nat.le_of_ble_eq_true rfl)⟩ G [0, 1, 2, 3, 4, 5, 6, 7, 8] rfl rfl 0 rfl rfl rfl hl.1 rfl (Nat.le_of_ble_eq_true rfl) dX3_anyQuiet_22 ⟨Nat.zero_le _, Nat.zero_le _⟩) rfl ?_
          refine lv_aload_n hx hb dX3_anyQuiet_25 rfl (lv_at hl 0 rfl) ?_
          refine r_get X inw_X3 G 0 rfl rfl 1 (by decide) fl_X3_15 (v := .int (Sc_window SC)) rfl dX3_anyQuiet_26 ?_
          refine lv_icmp_lt (tgt := 34) hx hb dX3_anyQuiet_29 (by decide) (fun c7 => ?_) (fun c7 => ?_)
          · replace hf := if_t hf c7
            obtain ⟨x8, ex8, hf⟩ := nm_some hf
            refine lv_iinc (v := x8) (lv' := [(2, .int x8), (0, .ref ot), (1, .ref o1)]) hx hb dX3_anyQuiet_34 hl (k := 2) rfl (by subst ex8; rfl) (by decide) rfl (fun ls hl => ?_)
            refine lv_goto (tgt := 2) hx hb dX3_anyQuiet_37 (by decide) ?_
            cases hf
            exact ih x8 _ (lv_sub hl [1, 2, 0] rfl) hoL1
          · replace hf := if_f hf c7
            cases hf
            exact KL1_1 () _ (it_out hoL1) (lv_sub hl [] rfl)
  exact LL1 nL1 (0 : Int32) _ (lv_sub hl [1, 2, 0] rfl) hitL1
theorem mk_X3_anyQuiet : MV yX3_anyQuiet cX3_anyQuiet 3 (some .boolean) 1 := ⟨co_X3_anyQuiet, in_X3, im_X3_anyQuiet, se_X3_anyQuiet, by decide +kernel, by decide +kernel⟩
noncomputable def FX3_locksOf_4 (SC : ScT) (v1 : Int32) : (Int32 × Int32) → Option ((Int32 × Int32) ⊕ (Int32)) := fun stL1 =>
  if (6 : Int32) ≤ stL1.2 then (
    some (.inr stL1.1)
  ) else (
    ix stL1.2 6 <|
    if (Sc_holders SC (Int32.toNatClampNeg stL1.2)) = v1 then (
      nm (stL1.1 ||| ((1 : Int32) <<< (stL1.2 &&& 31))) fun x6 =>
      nm (stL1.2 + 1) fun x7 =>
      some (.inl (x6, x7))
    ) else (
      nm (stL1.2 + 1) fun x5 =>
      some (.inl (stL1.1, x5))
    )
  )
noncomputable def FX3_locksOf (SC : ScT) (v1 : Int32) : Option (Int32) :=
  (itr (FX3_locksOf_4 SC v1) ((0 : Int32), (0 : Int32))).bind fun uL1 =>
  some uL1
set_option maxHeartbeats 4000000 in
set_option maxRecDepth 100000 in
theorem ctX3_locksOf {l : Launch} {D : va_G} {k : Nat → ClassId} {Z : ZT} (hZ : ZOK Z) (ot : Nat) (aSC : Nat → Nat) {SC : ScT} {v1 : Int32} {q : Int32} (hf : FX3_locksOf SC v1 = some q) :
    CR l D k Z yX3_locksOf cX3_locksOf 4 (some .int) 0 0 [.ref ot, .int v1] (some (.int q)) (kSc k ot aSC (SC)) := by
  refine CR.start hZ (by decide) (Nat.le_of_ble_eq_true rfl) ?_
  intro p e s m below meth c ls X hl G
  have hx := X.1
  have hb := X.2.1
  have hl : lv_has ls 4 [(0, .ref ot), (1, .int v1)] := hl
  unfold FX3_locksOf at hf
  refine lv_iconst (v := 0) hx hb dX3_locksOf_0 (by decide) ?_
  refine lv_istore_n (lv' := [(2, .int (0 : Int32)), (0, .ref ot), (1, .int v1)]) hx hb dX3_locksOf_1 rfl hl (by decide) rfl (fun ls hl => ?_)
  refine lv_iconst (v := 0) hx hb dX3_locksOf_2 (by decide) ?_
  refine lv_istore_n (lv' := [(3, .int (0 : Int32)), (2, .int (0 : Int32)), (0, .ref ot), (1, .int v1)]) hx hb dX3_locksOf_3 rfl hl (by decide) rfl (fun ls hl => ?_)
  obtain ⟨exL1, hitL1, hfL1⟩ := bd_some hf
  obtain ⟨nL1, hitL1⟩ := itr_ex hitL1
  have KL1_0 : ∀ (u : Int32) (ls : Array Slot), exL1 = u → lv_has ls 4 [(2, .int u)] → W p l e (rmz 0 0) s m [.ref ot, .int v1].toArray below meth c s.heap [] 0 0 (MQ below (Qr (some (.int q))) [.ref ot, .int v1].toArray s 0 0 (fun _ => False)) (F0 m 32 ls []) := by
    intro uL1 ls hex hl
    rw [hex] at hfL1
    have hf := hfL1
    refine lv_iload_n hx hb dX3_locksOf_32 rfl (lv_at hl 0 rfl) ?_
    cases hf
    exact e_ri X dX3_locksOf_33
  have LL1 : ∀ (n : Nat) (stL1 : Int32 × Int32) (ls : Array Slot), lv_has ls 4 [(0, .ref ot), (1, .int v1), (2, .int (stL1.1)), (3, .int (stL1.2))] → it (FX3_locksOf_4 SC v1) n stL1 = some exL1 → W p l e (rmz 0 0) s m [.ref ot, .int v1].toArray below meth c s.heap [] 0 0 (MQ below (Qr (some (.int q))) [.ref ot, .int v1].toArray s 0 0 (fun _ => False)) (F0 m 4 ls []) := by
    intro n
    induction n with
    | zero =>
      intro stL1 ls hl hit
      exact (it_zero hit).elim
    | succ n ih =>
      intro stL1 ls hl hit
      obtain ⟨oL1, hf, hoL1⟩ := it_bd hit
      unfold FX3_locksOf_4 at hf
      refine lv_iload_n hx hb dX3_locksOf_4 rfl (lv_at hl 3 rfl) ?_
      refine lv_bipush (v := 6) hx hb dX3_locksOf_5 (by decide) ?_
      refine lv_icmp_ge (tgt := 32) hx hb dX3_locksOf_7 (by decide) (fun c2 => ?_) (fun c2 => ?_)
      · replace hf := if_t hf c2
        cases hf
        exact KL1_0 stL1.1 _ (it_out hoL1) (lv_sub hl [2] rfl)
      · replace hf := if_f hf c2
        refine lv_aload_n hx hb dX3_locksOf_10 rfl (lv_at hl 0 rfl) ?_
        refine r_get X inw_X3 G 0 rfl rfl 8 (by decide) fl_X3_37 (v := .ref (aSC 5)) rfl dX3_locksOf_11 ?_
        refine lv_iload_n hx hb dX3_locksOf_14 rfl (lv_at hl 3 rfl) ?_
        obtain ⟨h3, hf⟩ := ix_some hf
        refine r_iald X G 6 rfl h3 dX3_locksOf_15 ?_
        refine lv_iload_n hx hb dX3_locksOf_16 rfl (lv_at hl 1 rfl) ?_
        refine lv_icmp_ne (tgt := 26) hx hb dX3_locksOf_17 (by decide) (fun c4 => ?_) (fun c4 => ?_)
        · replace hf := if_f hf c4
          obtain ⟨x5, ex5, hf⟩ := nm_some hf
          refine lv_iinc (v := x5) (lv' := [(3, .int x5), (0, .ref ot), (1, .int v1), (2, .int (stL1.1))]) hx hb dX3_locksOf_26 hl (k := 3) rfl (by subst ex5; rfl) (by decide) rfl (fun ls hl => ?_)
          refine lv_goto (tgt := 4) hx hb dX3_locksOf_29 (by decide) ?_
          cases hf
          exact ih (stL1.1, x5) _ (lv_sub hl [1, 2, 3, 0] rfl) hoL1
        · replace hf := if_t hf c4
          refine lv_iload_n hx hb dX3_locksOf_20 rfl (lv_at hl 2 rfl) ?_
          refine lv_iconst (v := 1) hx hb dX3_locksOf_21 (by decide) ?_
          refine lv_iload_n hx hb dX3_locksOf_22 rfl (lv_at hl 3 rfl) ?_
          refine lv_ishl hx hb dX3_locksOf_23 ?_
          refine lv_ior hx hb dX3_locksOf_24 ?_
          obtain ⟨x6, ex6, hf⟩ := nm_some hf
          refine r_top (congrArg Value.int ex6) ?_
          refine lv_istore_n (lv' := [(2, .int x6), (0, .ref ot), (1, .int v1), (3, .int (stL1.2))]) hx hb dX3_locksOf_25 rfl hl (by decide) rfl (fun ls hl => ?_)
          obtain ⟨x7, ex7, hf⟩ := nm_some hf
          refine lv_iinc (v := x7) (lv' := [(3, .int x7), (2, .int x6), (0, .ref ot), (1, .int v1)]) hx hb dX3_locksOf_26 hl (k := 3) rfl (by subst ex7; rfl) (by decide) rfl (fun ls hl => ?_)
          refine lv_goto (tgt := 4) hx hb dX3_locksOf_29 (by decide) ?_
          cases hf
          exact ih (x6, x7) _ (lv_sub hl [2, 3, 1, 0] rfl) hoL1
  exact LL1 nL1 ((0 : Int32), (0 : Int32)) _ (lv_sub hl [2, 3, 1, 0] rfl) hitL1
theorem mk_X3_locksOf : MV yX3_locksOf cX3_locksOf 4 (some .int) 1 := ⟨co_X3_locksOf, in_X3, im_X3_locksOf, se_X3_locksOf, by decide +kernel, by decide +kernel⟩
noncomputable def FX3_canDo (SC : ScT) (PL : PlT) (v2 : Int32) : Option (Bool) :=
  ix v2 8 <|
  (FX1_numberAt PL v2 (Sc_place SC (Int32.toNatClampNeg v2))).bind fun r2 =>
  ix v2 8 <|
  (FX1_kindAt PL v2 (Sc_place SC (Int32.toNatClampNeg v2))).bind fun r4 =>
  if r4 = (1 : Int32) then (
    (FX9_at 6 (Sc_holders SC) r2).bind fun r6 =>
    if r6 = (-1 : Int32) then (
      some true
    ) else (
      some false
    )
  ) else (
  if r4 = (3 : Int32) then (
    (FX9_at 4 (Sc_lies SC) r2).bind fun r9 =>
    (FX9_at 4 (Pl_rooms PL) r2).bind fun r10 =>
    if r10 ≤ r9 then (
      some false
    ) else (
      some true
    )
  ) else (
  if r4 = (4 : Int32) then (
    (FX9_at 4 (Sc_lies SC) r2).bind fun r13 =>
    if r13 ≤ 0 then (
      some false
    ) else (
      some true
    )
  ) else (
  if r4 = (6 : Int32) then (
    (FX9_at 64 (Sc_mail SC) ((v2 * (8 : Int32)) + r2)).bind fun r16 =>
    if r16 ≤ 0 then (
      some false
    ) else (
      some true
    )
  ) else (
    some true
  ))))
set_option maxHeartbeats 4000000 in
set_option maxRecDepth 100000 in
theorem ctX3_canDo {l : Launch} {D : va_G} {k : Nat → ClassId} {Z : ZT} (hZ : ZOK Z) (ot : Nat) (o1 : Nat) (aSC : Nat → Nat) (aPL : Nat → Nat) {SC : ScT} {PL : PlT} {v2 : Int32} {q : Bool} (hf : FX3_canDo SC PL v2 = some q) :
    CR l D k Z yX3_canDo cX3_canDo 4 (some .boolean) 2 44 [.ref ot, .ref o1, .int v2] (some (.int (bI q))) (kSc k ot aSC (SC) ++ (kPl k o1 aPL (PL))) := by
  refine CR.start hZ (by decide) (Nat.le_of_ble_eq_true rfl) ?_
  intro p e s m below meth c ls X hl G
  have hx := X.1
  have hb := X.2.1
  have hl : lv_has ls 4 [(0, .ref ot), (1, .ref o1), (2, .int v2)] := hl
  unfold FX3_canDo at hf
  refine lv_aload_n hx hb dX3_canDo_0 rfl (lv_at hl 1 rfl) ?_
  refine lv_iload_n hx hb dX3_canDo_1 rfl (lv_at hl 2 rfl) ?_
  refine lv_aload_n hx hb dX3_canDo_2 rfl (lv_at hl 0 rfl) ?_
  refine r_get X inw_X3 G 0 rfl rfl 3 (by decide) fl_X3_21 (v := .ref (aSC 0)) rfl dX3_canDo_3 ?_
  refine lv_iload_n hx hb dX3_canDo_6 rfl (lv_at hl 2 rfl) ?_
  obtain ⟨h1, hf⟩ := ix_some hf
  refine r_iald X G 1 rfl h1 dX3_canDo_7 ?_
  obtain ⟨r2, hcr2, hf⟩ := bd_some hf
  refine p_R (st1 := [.int r2]) (run_V (rest := []) X (ctX1_numberAt hZ o1 aPL hcr2) mk_X1_numberAt ml_X3_67 ⟨(Nat.le_of_ble_eq_true rfl), (Nat.le_of_ble_eq_true rfl)⟩ G [9, 10, 11, 12, 13, 14] rfl rfl 9 rfl rfl rfl hl.1 rfl (Nat.le_of_ble_eq_true rfl) dX3_canDo_8 ⟨Nat.zero_le _, Nat.zero_le _⟩) rfl ?_
  refine lv_istore_n (lv' := [(3, .int r2), (0, .ref ot), (1, .ref o1), (2, .int v2)]) hx hb dX3_canDo_11 rfl hl (by decide) rfl (fun ls hl => ?_)
  refine lv_aload_n hx hb dX3_canDo_12 rfl (lv_at hl 2 rfl) ?_
  refine lv_iload_n hx hb dX3_canDo_13 rfl (lv_at hl 3 rfl) ?_
  refine lv_aload_n hx hb dX3_canDo_14 rfl (lv_at hl 1 rfl) ?_
  refine r_get X inw_X3 G 0 rfl rfl 3 (by decide) fl_X3_21 (v := .ref (aSC 0)) rfl dX3_canDo_15 ?_
  refine lv_iload_n hx hb dX3_canDo_18 rfl (lv_at hl 3 rfl) ?_
  obtain ⟨h3, hf⟩ := ix_some hf
  refine r_iald X G 1 rfl h3 dX3_canDo_19 ?_
  obtain ⟨r4, hcr4, hf⟩ := bd_some hf
  refine p_R (st1 := [.int r4]) (run_V (rest := []) X (ctX1_kindAt hZ o1 aPL hcr4) mk_X1_kindAt ml_X3_71 ⟨(Nat.le_of_ble_eq_true rfl), (Nat.le_of_ble_eq_true rfl)⟩ G [9, 10, 11, 12, 13, 14] rfl rfl 9 rfl rfl rfl hl.1 rfl (Nat.le_of_ble_eq_true rfl) dX3_canDo_20 ⟨Nat.zero_le _, Nat.zero_le _⟩) rfl ?_
  by_cases c5 : r4 = (1 : Int32)
  · replace hf := if_t hf c5
    refine r_tsw X (tgt := 60) dX3_canDo_23 (by rw [c5]; decide +kernel) (by rw [c5]; decide +kernel) ?_
    refine lv_aload_n hx hb dX3_canDo_60 rfl (lv_at hl 1 rfl) ?_
    refine r_get X inw_X3 G 0 rfl rfl 8 (by decide) fl_X3_37 (v := .ref (aSC 5)) rfl dX3_canDo_61 ?_
    refine lv_iload_n hx hb dX3_canDo_64 rfl (lv_at hl 0 rfl) ?_
    obtain ⟨r6, hcr6, hf⟩ := bd_some hf
    refine p_R (st1 := [.int r6]) (run_N (rest := []) X (ctX9_at hZ (aSC 5) hcr6) mk_X9_at mn_X3_74 ⟨(Nat.le_of_ble_eq_true rfl), (Nat.le_of_ble_eq_true rfl)⟩ G [6] rfl rfl rfl hl.1 rfl (Nat.le_of_ble_eq_true rfl) dX3_canDo_65 ⟨Nat.zero_le _, Nat.zero_le _⟩) rfl ?_
    refine lv_iconst (v := -1) hx hb dX3_canDo_68 (by decide) ?_
    refine lv_icmp_ne (tgt := 76) hx hb dX3_canDo_69 (by decide) (fun c7 => ?_) (fun c7 => ?_)
    · replace hf := if_f hf c7
      refine lv_iconst (v := 0) hx hb dX3_canDo_76 (by decide) ?_
      cases hf
      exact e_rz _ rfl X dX3_canDo_77
    · replace hf := if_t hf c7
      refine lv_iconst (v := 1) hx hb dX3_canDo_72 (by decide) ?_
      refine lv_goto (tgt := 77) hx hb dX3_canDo_73 (by decide) ?_
      cases hf
      exact e_rz _ rfl X dX3_canDo_77
  replace hf := if_f hf c5
  by_cases c8 : r4 = (3 : Int32)
  · replace hf := if_t hf c8
    refine r_tsw X (tgt := 78) dX3_canDo_23 (by rw [c8]; decide +kernel) (by rw [c8]; decide +kernel) ?_
    refine lv_aload_n hx hb dX3_canDo_78 rfl (lv_at hl 1 rfl) ?_
    refine r_get X inw_X3 G 0 rfl rfl 9 (by decide) fl_X3_40 (v := .ref (aSC 6)) rfl dX3_canDo_79 ?_
    refine lv_iload_n hx hb dX3_canDo_82 rfl (lv_at hl 0 rfl) ?_
    obtain ⟨r9, hcr9, hf⟩ := bd_some hf
    refine p_R (st1 := [.int r9]) (run_N (rest := []) X (ctX9_at hZ (aSC 6) hcr9) mk_X9_at mn_X3_74 ⟨(Nat.le_of_ble_eq_true rfl), (Nat.le_of_ble_eq_true rfl)⟩ G [7] rfl rfl rfl hl.1 rfl (Nat.le_of_ble_eq_true rfl) dX3_canDo_83 ⟨Nat.zero_le _, Nat.zero_le _⟩) rfl ?_
    refine lv_aload_n hx hb dX3_canDo_86 rfl (lv_at hl 2 rfl) ?_
    refine r_get X inw_X1 G 9 rfl rfl 7 (by decide) fl_X3_78 (v := .ref (aPL 4)) rfl dX3_canDo_87 ?_
    refine lv_iload_n hx hb dX3_canDo_90 rfl (lv_at hl 0 rfl) ?_
    obtain ⟨r10, hcr10, hf⟩ := bd_some hf
    refine p_R (st1 := [.int r10, .int r9]) (run_N (rest := [.int r9]) X (ctX9_at hZ (aPL 4) hcr10) mk_X9_at mn_X3_74 ⟨(Nat.le_of_ble_eq_true rfl), (Nat.le_of_ble_eq_true rfl)⟩ G [14] rfl rfl rfl hl.1 rfl (Nat.le_of_ble_eq_true rfl) dX3_canDo_91 ⟨Nat.zero_le _, Nat.zero_le _⟩) rfl ?_
    refine lv_icmp_ge (tgt := 101) hx hb dX3_canDo_94 (by decide) (fun c11 => ?_) (fun c11 => ?_)
    · replace hf := if_t hf c11
      refine lv_iconst (v := 0) hx hb dX3_canDo_101 (by decide) ?_
      cases hf
      exact e_rz _ rfl X dX3_canDo_102
    · replace hf := if_f hf c11
      refine lv_iconst (v := 1) hx hb dX3_canDo_97 (by decide) ?_
      refine lv_goto (tgt := 102) hx hb dX3_canDo_98 (by decide) ?_
      cases hf
      exact e_rz _ rfl X dX3_canDo_102
  replace hf := if_f hf c8
  by_cases c12 : r4 = (4 : Int32)
  · replace hf := if_t hf c12
    refine r_tsw X (tgt := 103) dX3_canDo_23 (by rw [c12]; decide +kernel) (by rw [c12]; decide +kernel) ?_
    refine lv_aload_n hx hb dX3_canDo_103 rfl (lv_at hl 1 rfl) ?_
    refine r_get X inw_X3 G 0 rfl rfl 9 (by decide) fl_X3_40 (v := .ref (aSC 6)) rfl dX3_canDo_104 ?_
    refine lv_iload_n hx hb dX3_canDo_107 rfl (lv_at hl 0 rfl) ?_
    obtain ⟨r13, hcr13, hf⟩ := bd_some hf
    refine p_R (st1 := [.int r13]) (run_N (rest := []) X (ctX9_at hZ (aSC 6) hcr13) mk_X9_at mn_X3_74 ⟨(Nat.le_of_ble_eq_true rfl), (Nat.le_of_ble_eq_true rfl)⟩ G [7] rfl rfl rfl hl.1 rfl (Nat.le_of_ble_eq_true rfl) dX3_canDo_108 ⟨Nat.zero_le _, Nat.zero_le _⟩) rfl ?_
    refine lv_if_le (tgt := 118) hx hb dX3_canDo_111 (by decide) (fun c14 => ?_) (fun c14 => ?_)
    · replace hf := if_t hf c14
      refine lv_iconst (v := 0) hx hb dX3_canDo_118 (by decide) ?_
      cases hf
      exact e_rz _ rfl X dX3_canDo_119
    · replace hf := if_f hf c14
      refine lv_iconst (v := 1) hx hb dX3_canDo_114 (by decide) ?_
      refine lv_goto (tgt := 119) hx hb dX3_canDo_115 (by decide) ?_
      cases hf
      exact e_rz _ rfl X dX3_canDo_119
  replace hf := if_f hf c12
  by_cases c15 : r4 = (6 : Int32)
  · replace hf := if_t hf c15
    refine r_tsw X (tgt := 120) dX3_canDo_23 (by rw [c15]; decide +kernel) (by rw [c15]; decide +kernel) ?_
    refine lv_aload_n hx hb dX3_canDo_120 rfl (lv_at hl 1 rfl) ?_
    refine r_get X inw_X3 G 0 rfl rfl 10 (by decide) fl_X3_43 (v := .ref (aSC 7)) rfl dX3_canDo_121 ?_
    refine lv_iload_n hx hb dX3_canDo_124 rfl (lv_at hl 3 rfl) ?_
    refine lv_bipush (v := 8) hx hb dX3_canDo_125 (by decide) ?_
    refine lv_imul hx hb dX3_canDo_127 ?_
    refine lv_iload_n hx hb dX3_canDo_128 rfl (lv_at hl 0 rfl) ?_
    refine lv_iadd hx hb dX3_canDo_129 ?_
    obtain ⟨r16, hcr16, hf⟩ := bd_some hf
    refine p_R (st1 := [.int r16]) (run_N (rest := []) X (ctX9_at hZ (aSC 7) hcr16) mk_X9_at mn_X3_74 ⟨(Nat.le_of_ble_eq_true rfl), (Nat.le_of_ble_eq_true rfl)⟩ G [8] rfl rfl rfl hl.1 rfl (Nat.le_of_ble_eq_true rfl) dX3_canDo_130 ⟨Nat.zero_le _, Nat.zero_le _⟩) rfl ?_
    refine lv_if_le (tgt := 140) hx hb dX3_canDo_133 (by decide) (fun c17 => ?_) (fun c17 => ?_)
    · replace hf := if_t hf c17
      refine lv_iconst (v := 0) hx hb dX3_canDo_140 (by decide) ?_
      cases hf
      exact e_rz _ rfl X dX3_canDo_141
    · replace hf := if_f hf c17
      refine lv_iconst (v := 1) hx hb dX3_canDo_136 (by decide) ?_
      refine lv_goto (tgt := 141) hx hb dX3_canDo_137 (by decide) ?_
      cases hf
      exact e_rz _ rfl X dX3_canDo_141
  replace hf := if_f hf c15
  have hd := tsw_d (x := r4) (lo' := 1) (hi' := 6) (dflt := 119) (offs := #[37, 119, 55, 80, 119, 97]) [(1 : Int32), (3 : Int32), (4 : Int32), (6 : Int32)] (by
      intro k hk
      simp only [List.mem_cons, List.not_mem_nil, or_false] at hk
      rcases hk with rfl | rfl | rfl | rfl
      · exact c5
      · exact c8
      · exact c12
      · exact c15
      ) 5 (by decide) (by decide +kernel)
  refine r_tsw X (tgt := 142) dX3_canDo_23 (by rw [hd.1]; rfl) hd.2 ?_
  refine lv_iconst (v := 1) hx hb dX3_canDo_142 (by decide) ?_
  cases hf
  exact e_rz _ rfl X dX3_canDo_143
theorem mk_X3_canDo : MV yX3_canDo cX3_canDo 4 (some .boolean) 2 := ⟨co_X3_canDo, in_X3, im_X3_canDo, se_X3_canDo, by decide +kernel, by decide +kernel⟩
noncomputable def FX3_beatNow (SC : ScT) (v1 : Int32) : Option (ScT) :=
  ix v1 8 <|
  nm (sSc_beat SC (upd (Sc_beat SC) (Int32.toNatClampNeg v1) (Sc_tick SC))) fun SC2 =>
  ix v1 8 <|
  nm (sSc_marks SC2 (upd (Sc_marks SC2) (Int32.toNatClampNeg v1) (0 : Int32))) fun SC4 =>
  some SC4
set_option maxHeartbeats 4000000 in
set_option maxRecDepth 100000 in
theorem ctX3_beatNow {l : Launch} {D : va_G} {k : Nat → ClassId} {Z : ZT} (hZ : ZOK Z) (ot : Nat) (aSC : Nat → Nat) {SC : ScT} {v1 : Int32} {q : ScT} (hf : FX3_beatNow SC v1 = some q) :
    CM l D k Z yX3_beatNow cX3_beatNow 2 none 0 0 [.ref ot, .int v1] none (kSc k ot aSC (SC)) (kSc k ot aSC (q)) := by
  refine CM.start hZ (by decide) (Nat.le_of_ble_eq_true rfl) ?_
  intro p e s m below meth c ls X hl G
  have hx := X.1
  have hb := X.2.1
  have hl : lv_has ls 2 [(0, .ref ot), (1, .int v1)] := hl
  unfold FX3_beatNow at hf
  refine lv_aload_n hx hb dX3_beatNow_0 rfl (lv_at hl 0 rfl) ?_
  refine r_get X inw_X3 G 0 rfl rfl 5 (by decide) fl_X3_28 (v := .ref (aSC 2)) rfl dX3_beatNow_1 ?_
  refine lv_iload_n hx hb dX3_beatNow_4 rfl (lv_at hl 1 rfl) ?_
  refine lv_aload_n hx hb dX3_beatNow_5 rfl (lv_at hl 0 rfl) ?_
  refine r_get X inw_X3 G 0 rfl rfl 0 (by decide) fl_X3_9 (v := .int (Sc_tick SC)) rfl dX3_beatNow_6 ?_
  obtain ⟨h1, hf⟩ := ix_some hf
  obtain ⟨SC2, eSC2, hf⟩ := nm_some hf
  refine r_iast X G 3 rfl h1 (ws' := kSc k ot aSC (SC2)) (by subst eSC2; rfl) dX3_beatNow_9 (fun H locs G => ?_)
  refine lv_aload_n hx hb dX3_beatNow_10 rfl (lv_at hl 0 rfl) ?_
  refine r_get X inw_X3 G 0 rfl rfl 7 (by decide) fl_X3_34 (v := .ref (aSC 4)) rfl dX3_beatNow_11 ?_
  refine lv_iload_n hx hb dX3_beatNow_14 rfl (lv_at hl 1 rfl) ?_
  refine lv_iconst (v := 0) hx hb dX3_beatNow_15 (by decide) ?_
  obtain ⟨h3, hf⟩ := ix_some hf
  obtain ⟨SC4, eSC4, hf⟩ := nm_some hf
  refine r_iast X G 5 rfl h3 (ws' := kSc k ot aSC (SC4)) (by subst eSC4; rfl) dX3_beatNow_16 (fun H locs G => ?_)
  cases hf
  exact e_mv X G dX3_beatNow_17
theorem mk_X3_beatNow : MV yX3_beatNow cX3_beatNow 2 none 1 := ⟨co_X3_beatNow, in_X3, im_X3_beatNow, se_X3_beatNow, by decide +kernel, by decide +kernel⟩
noncomputable def FX3_finish (SC : ScT) (PL : PlT) (v2 : Int32) (v3 : Int32) : Option (ScT) :=
  ix v2 8 <|
  ix v2 8 <|
  nm (sSc_steps SC (upd (Sc_steps SC) (Int32.toNatClampNeg v2) ((Sc_steps SC (Int32.toNatClampNeg v2)) + (1 : Int32)))) fun SC3 =>
  ix v2 8 <|
  nm (sSc_ticked SC3 (upd (Sc_ticked SC3) (Int32.toNatClampNeg v2) (0 : Int32))) fun SC5 =>
  (FX3_beatNow SC5 v2).bind fun r6 =>
  if v3 = (8 : Int32) then (
    ix v2 8 <|
    nm (sSc_place r6 (upd (Sc_place r6) (Int32.toNatClampNeg v2) (0 : Int32))) fun SC20 =>
    some SC20
  ) else (
    if v3 = (9 : Int32) then (
      ix v2 8 <|
      nm (sSc_place r6 (upd (Sc_place r6) (Int32.toNatClampNeg v2) (-1 : Int32))) fun SC10 =>
      some SC10
    ) else (
      ix v2 8 <|
      ix v2 8 <|
      if ((Sc_place r6 (Int32.toNatClampNeg v2)) + (1 : Int32)) < (Pl_lengths PL (Int32.toNatClampNeg v2)) then (
        ix v2 8 <|
        ix v2 8 <|
        nm (sSc_place r6 (upd (Sc_place r6) (Int32.toNatClampNeg v2) ((Sc_place r6 (Int32.toNatClampNeg v2)) + (1 : Int32)))) fun SC16 =>
        some SC16
      ) else (
        ix v2 8 <|
        nm (sSc_place r6 (upd (Sc_place r6) (Int32.toNatClampNeg v2) (-1 : Int32))) fun SC18 =>
        some SC18
      )
    )
  )
set_option maxHeartbeats 4000000 in
set_option maxRecDepth 100000 in
theorem ctX3_finish {l : Launch} {D : va_G} {k : Nat → ClassId} {Z : ZT} (hZ : ZOK Z) (ot : Nat) (o1 : Nat) (aSC : Nat → Nat) (aPL : Nat → Nat) {SC : ScT} {PL : PlT} {v2 : Int32} {v3 : Int32} {q : ScT} (hf : FX3_finish SC PL v2 v3 = some q) :
    CM l D k Z yX3_finish cX3_finish 4 none 1 21 [.ref ot, .ref o1, .int v2, .int v3] none (kSc k ot aSC (SC) ++ (kPl k o1 aPL (PL))) (kSc k ot aSC (q) ++ (kPl k o1 aPL (PL))) := by
  refine CM.start hZ (by decide) (Nat.le_of_ble_eq_true rfl) ?_
  intro p e s m below meth c ls X hl G
  have hx := X.1
  have hb := X.2.1
  have hl : lv_has ls 4 [(0, .ref ot), (1, .ref o1), (2, .int v2), (3, .int v3)] := hl
  unfold FX3_finish at hf
  refine lv_aload_n hx hb dX3_finish_0 rfl (lv_at hl 0 rfl) ?_
  refine r_get X inw_X3 G 0 rfl rfl 6 (by decide) fl_X3_31 (v := .ref (aSC 3)) rfl dX3_finish_1 ?_
  refine lv_iload_n hx hb dX3_finish_4 rfl (lv_at hl 2 rfl) ?_
  refine lv_dup2_11 hx hb dX3_finish_5 rfl rfl ?_
  obtain ⟨h1, hf⟩ := ix_some hf
  refine r_iald X G 4 rfl h1 dX3_finish_6 ?_
  refine lv_iconst (v := 1) hx hb dX3_finish_7 (by decide) ?_
  refine lv_iadd hx hb dX3_finish_8 ?_
  obtain ⟨h2, hf⟩ := ix_some hf
  obtain ⟨SC3, eSC3, hf⟩ := nm_some hf
  refine r_iast X G 4 rfl h2 (ws' := kSc k ot aSC (SC3) ++ (kPl k o1 aPL (PL))) (by subst eSC3; rfl) dX3_finish_9 (fun H locs G => ?_)
  refine lv_aload_n hx hb dX3_finish_10 rfl (lv_at hl 0 rfl) ?_
  refine r_get X inw_X3 G 0 rfl rfl 4 (by decide) fl_X3_25 (v := .ref (aSC 1)) rfl dX3_finish_11 ?_
  refine lv_iload_n hx hb dX3_finish_14 rfl (lv_at hl 2 rfl) ?_
  refine lv_iconst (v := 0) hx hb dX3_finish_15 (by decide) ?_
  obtain ⟨h4, hf⟩ := ix_some hf
  obtain ⟨SC5, eSC5, hf⟩ := nm_some hf
  refine r_iast X G 2 rfl h4 (ws' := kSc k ot aSC (SC5) ++ (kPl k o1 aPL (PL))) (by subst eSC5; rfl) dX3_finish_16 (fun H locs G => ?_)
  refine lv_aload_n hx hb dX3_finish_17 rfl (lv_at hl 0 rfl) ?_
  refine lv_iload_n hx hb dX3_finish_18 rfl (lv_at hl 2 rfl) ?_
  obtain ⟨r6, hcr6, hf⟩ := bd_some hf
  refine p_N (st1 := []) (wr := kPl k o1 aPL (PL)) (ws' := kSc k ot aSC (r6) ++ (kPl k o1 aPL (PL))) (run_V (rest := []) X (ctX3_beatNow hZ ot aSC hcr6) mk_X3_beatNow ml_X3_104 ⟨(Nat.le_of_ble_eq_true rfl), (Nat.le_of_ble_eq_true rfl)⟩ G [0, 1, 2, 3, 4, 5, 6, 7, 8] rfl rfl 0 rfl rfl rfl hl.1 rfl (Nat.le_of_ble_eq_true rfl) dX3_finish_19 ⟨Nat.zero_le _, Nat.zero_le _⟩) rfl G [0, 1, 2, 3, 4, 5, 6, 7, 8] [9, 10, 11, 12, 13, 14] 15 rfl rfl rfl rfl rfl (by decide) (by decide) rfl (fun H locs G => ?_)
  refine lv_iload_n hx hb dX3_finish_22 rfl (lv_at hl 3 rfl) ?_
  refine lv_bipush (v := 8) hx hb dX3_finish_23 (by decide) ?_
  refine lv_icmp_ne (tgt := 38) hx hb dX3_finish_25 (by decide) (fun c7 => ?_) (fun c7 => ?_)
  · replace hf := if_f hf c7
    refine lv_iload_n hx hb dX3_finish_38 rfl (lv_at hl 3 rfl) ?_
    refine lv_bipush (v := 9) hx hb dX3_finish_39 (by decide) ?_
    refine lv_icmp_eq (tgt := 61) hx hb dX3_finish_41 (by decide) (fun c8 => ?_) (fun c8 => ?_)
    · replace hf := if_t hf c8
      refine lv_aload_n hx hb dX3_finish_61 rfl (lv_at hl 0 rfl) ?_
      refine r_get X inw_X3 G 0 rfl rfl 3 (by decide) fl_X3_21 (v := .ref (aSC 0)) rfl dX3_finish_62 ?_
      refine lv_iload_n hx hb dX3_finish_65 rfl (lv_at hl 2 rfl) ?_
      refine lv_iconst (v := -1) hx hb dX3_finish_66 (by decide) ?_
      obtain ⟨h9, hf⟩ := ix_some hf
      obtain ⟨SC10, eSC10, hf⟩ := nm_some hf
      refine r_iast X G 1 rfl h9 (ws' := kSc k ot aSC (SC10) ++ (kPl k o1 aPL (PL))) (by subst eSC10; rfl) dX3_finish_67 (fun H locs G => ?_)
      refine lv_goto (tgt := 81) hx hb dX3_finish_68 (by decide) ?_
      cases hf
      exact e_mv X G dX3_finish_81
    · replace hf := if_f hf c8
      refine lv_aload_n hx hb dX3_finish_44 rfl (lv_at hl 0 rfl) ?_
      refine r_get X inw_X3 G 0 rfl rfl 3 (by decide) fl_X3_21 (v := .ref (aSC 0)) rfl dX3_finish_45 ?_
      refine lv_iload_n hx hb dX3_finish_48 rfl (lv_at hl 2 rfl) ?_
      obtain ⟨h11, hf⟩ := ix_some hf
      refine r_iald X G 1 rfl h11 dX3_finish_49 ?_
      refine lv_iconst (v := 1) hx hb dX3_finish_50 (by decide) ?_
      refine lv_iadd hx hb dX3_finish_51 ?_
      refine lv_aload_n hx hb dX3_finish_52 rfl (lv_at hl 1 rfl) ?_
      refine r_get X inw_X1 G 9 rfl rfl 3 (by decide) fl_X3_108 (v := .ref (aPL 0)) rfl dX3_finish_53 ?_
      refine lv_iload_n hx hb dX3_finish_56 rfl (lv_at hl 2 rfl) ?_
      obtain ⟨h12, hf⟩ := ix_some hf
      refine r_iald X G 10 rfl h12 dX3_finish_57 ?_
      refine lv_icmp_lt (tgt := 71) hx hb dX3_finish_58 (by decide) (fun c13 => ?_) (fun c13 => ?_)
      · replace hf := if_t hf c13
        refine lv_aload_n hx hb dX3_finish_71 rfl (lv_at hl 0 rfl) ?_
        refine r_get X inw_X3 G 0 rfl rfl 3 (by decide) fl_X3_21 (v := .ref (aSC 0)) rfl dX3_finish_72 ?_
        refine lv_iload_n hx hb dX3_finish_75 rfl (lv_at hl 2 rfl) ?_
        refine lv_dup2_11 hx hb dX3_finish_76 rfl rfl ?_
        obtain ⟨h14, hf⟩ := ix_some hf
        refine r_iald X G 1 rfl h14 dX3_finish_77 ?_
        refine lv_iconst (v := 1) hx hb dX3_finish_78 (by decide) ?_
        refine lv_iadd hx hb dX3_finish_79 ?_
        obtain ⟨h15, hf⟩ := ix_some hf
        obtain ⟨SC16, eSC16, hf⟩ := nm_some hf
        refine r_iast X G 1 rfl h15 (ws' := kSc k ot aSC (SC16) ++ (kPl k o1 aPL (PL))) (by subst eSC16; rfl) dX3_finish_80 (fun H locs G => ?_)
        cases hf
        exact e_mv X G dX3_finish_81
      · replace hf := if_f hf c13
        refine lv_aload_n hx hb dX3_finish_61 rfl (lv_at hl 0 rfl) ?_
        refine r_get X inw_X3 G 0 rfl rfl 3 (by decide) fl_X3_21 (v := .ref (aSC 0)) rfl dX3_finish_62 ?_
        refine lv_iload_n hx hb dX3_finish_65 rfl (lv_at hl 2 rfl) ?_
        refine lv_iconst (v := -1) hx hb dX3_finish_66 (by decide) ?_
        obtain ⟨h17, hf⟩ := ix_some hf
        obtain ⟨SC18, eSC18, hf⟩ := nm_some hf
        refine r_iast X G 1 rfl h17 (ws' := kSc k ot aSC (SC18) ++ (kPl k o1 aPL (PL))) (by subst eSC18; rfl) dX3_finish_67 (fun H locs G => ?_)
        refine lv_goto (tgt := 81) hx hb dX3_finish_68 (by decide) ?_
        cases hf
        exact e_mv X G dX3_finish_81
  · replace hf := if_t hf c7
    refine lv_aload_n hx hb dX3_finish_28 rfl (lv_at hl 0 rfl) ?_
    refine r_get X inw_X3 G 0 rfl rfl 3 (by decide) fl_X3_21 (v := .ref (aSC 0)) rfl dX3_finish_29 ?_
    refine lv_iload_n hx hb dX3_finish_32 rfl (lv_at hl 2 rfl) ?_
    refine lv_iconst (v := 0) hx hb dX3_finish_33 (by decide) ?_
    obtain ⟨h19, hf⟩ := ix_some hf
    obtain ⟨SC20, eSC20, hf⟩ := nm_some hf
    refine r_iast X G 1 rfl h19 (ws' := kSc k ot aSC (SC20) ++ (kPl k o1 aPL (PL))) (by subst eSC20; rfl) dX3_finish_34 (fun H locs G => ?_)
    refine lv_goto (tgt := 81) hx hb dX3_finish_35 (by decide) ?_
    cases hf
    exact e_mv X G dX3_finish_81
theorem mk_X3_finish : MV yX3_finish cX3_finish 4 none 3 := ⟨co_X3_finish, in_X3, im_X3_finish, se_X3_finish, by decide +kernel, by decide +kernel⟩
noncomputable def FX3_spend (SC : ScT) (PL : PlT) (v2 : Int32) (v3 : Int32) (v4 : Int32) : Option (ScT) :=
  ix v2 8 <|
  ix v2 8 <|
  nm (sSc_ticked SC (upd (Sc_ticked SC) (Int32.toNatClampNeg v2) ((Sc_ticked SC (Int32.toNatClampNeg v2)) + (1 : Int32)))) fun SC3 =>
  ix v2 8 <|
  if (Sc_ticked SC3 (Int32.toNatClampNeg v2)) < v4 then (
    if v3 = 0 then (
      (FX3_beatNow SC3 v2).bind fun r7 =>
      some r7
    ) else (
      some SC3
    )
  ) else (
    (FX3_finish SC3 PL v2 v3).bind fun r8 =>
    some r8
  )
set_option maxHeartbeats 4000000 in
set_option maxRecDepth 100000 in
theorem ctX3_spend {l : Launch} {D : va_G} {k : Nat → ClassId} {Z : ZT} (hZ : ZOK Z) (ot : Nat) (o1 : Nat) (aSC : Nat → Nat) (aPL : Nat → Nat) {SC : ScT} {PL : PlT} {v2 : Int32} {v3 : Int32} {v4 : Int32} {q : ScT} (hf : FX3_spend SC PL v2 v3 v4 = some q) :
    CM l D k Z yX3_spend cX3_spend 5 none 2 44 [.ref ot, .ref o1, .int v2, .int v3, .int v4] none (kSc k ot aSC (SC) ++ (kPl k o1 aPL (PL))) (kSc k ot aSC (q) ++ (kPl k o1 aPL (PL))) := by
  refine CM.start hZ (by decide) (Nat.le_of_ble_eq_true rfl) ?_
  intro p e s m below meth c ls X hl G
  have hx := X.1
  have hb := X.2.1
  have hl : lv_has ls 5 [(0, .ref ot), (1, .ref o1), (2, .int v2), (3, .int v3), (4, .int v4)] := hl
  unfold FX3_spend at hf
  refine lv_aload_n hx hb dX3_spend_0 rfl (lv_at hl 0 rfl) ?_
  refine r_get X inw_X3 G 0 rfl rfl 4 (by decide) fl_X3_25 (v := .ref (aSC 1)) rfl dX3_spend_1 ?_
  refine lv_iload_n hx hb dX3_spend_4 rfl (lv_at hl 2 rfl) ?_
  refine lv_dup2_11 hx hb dX3_spend_5 rfl rfl ?_
  obtain ⟨h1, hf⟩ := ix_some hf
  refine r_iald X G 2 rfl h1 dX3_spend_6 ?_
  refine lv_iconst (v := 1) hx hb dX3_spend_7 (by decide) ?_
  refine lv_iadd hx hb dX3_spend_8 ?_
  obtain ⟨h2, hf⟩ := ix_some hf
  obtain ⟨SC3, eSC3, hf⟩ := nm_some hf
  refine r_iast X G 2 rfl h2 (ws' := kSc k ot aSC (SC3) ++ (kPl k o1 aPL (PL))) (by subst eSC3; rfl) dX3_spend_9 (fun H locs G => ?_)
  refine lv_aload_n hx hb dX3_spend_10 rfl (lv_at hl 0 rfl) ?_
  refine r_get X inw_X3 G 0 rfl rfl 4 (by decide) fl_X3_25 (v := .ref (aSC 1)) rfl dX3_spend_11 ?_
  refine lv_iload_n hx hb dX3_spend_14 rfl (lv_at hl 2 rfl) ?_
  obtain ⟨h4, hf⟩ := ix_some hf
  refine r_iald X G 2 rfl h4 dX3_spend_15 ?_
  refine lv_iload hx hb dX3_spend_16 (lv_at hl 4 rfl) ?_
  refine lv_icmp_lt (tgt := 31) hx hb dX3_spend_18 (by decide) (fun c5 => ?_) (fun c5 => ?_)
  · replace hf := if_t hf c5
    refine lv_iload_n hx hb dX3_spend_31 rfl (lv_at hl 3 rfl) ?_
    refine lv_if_ne (tgt := 40) hx hb dX3_spend_32 (by decide) (fun c6 => ?_) (fun c6 => ?_)
    · replace hf := if_f hf c6
      cases hf
      exact e_mv X G dX3_spend_40
    · replace hf := if_t hf c6
      refine lv_aload_n hx hb dX3_spend_35 rfl (lv_at hl 0 rfl) ?_
      refine lv_iload_n hx hb dX3_spend_36 rfl (lv_at hl 2 rfl) ?_
      obtain ⟨r7, hcr7, hf⟩ := bd_some hf
      refine p_N (st1 := []) (wr := kPl k o1 aPL (PL)) (ws' := kSc k ot aSC (r7) ++ (kPl k o1 aPL (PL))) (run_V (rest := []) X (ctX3_beatNow hZ ot aSC hcr7) mk_X3_beatNow ml_X3_104 ⟨(Nat.le_of_ble_eq_true rfl), (Nat.le_of_ble_eq_true rfl)⟩ G [0, 1, 2, 3, 4, 5, 6, 7, 8] rfl rfl 0 rfl rfl rfl hl.1 rfl (Nat.le_of_ble_eq_true rfl) dX3_spend_37 ⟨Nat.zero_le _, Nat.zero_le _⟩) rfl G [0, 1, 2, 3, 4, 5, 6, 7, 8] [9, 10, 11, 12, 13, 14] 15 rfl rfl rfl rfl rfl (by decide) (by decide) rfl (fun H locs G => ?_)
      cases hf
      exact e_mv X G dX3_spend_40
  · replace hf := if_f hf c5
    refine lv_aload_n hx hb dX3_spend_21 rfl (lv_at hl 0 rfl) ?_
    refine lv_aload_n hx hb dX3_spend_22 rfl (lv_at hl 1 rfl) ?_
    refine lv_iload_n hx hb dX3_spend_23 rfl (lv_at hl 2 rfl) ?_
    refine lv_iload_n hx hb dX3_spend_24 rfl (lv_at hl 3 rfl) ?_
    obtain ⟨r8, hcr8, hf⟩ := bd_some hf
    refine p_N (st1 := []) (wr := []) (ws' := kSc k ot aSC (r8) ++ (kPl k o1 aPL (PL))) (run_V (rest := []) X (ctX3_finish hZ ot o1 aSC aPL hcr8) mk_X3_finish ml_X3_100 ⟨(Nat.le_of_ble_eq_true rfl), (Nat.le_of_ble_eq_true rfl)⟩ G [0, 1, 2, 3, 4, 5, 6, 7, 8, 9, 10, 11, 12, 13, 14] rfl rfl 0 rfl rfl rfl hl.1 rfl (Nat.le_of_ble_eq_true rfl) dX3_spend_25 ⟨Nat.zero_le _, Nat.zero_le _⟩) rfl G [0, 1, 2, 3, 4, 5, 6, 7, 8, 9, 10, 11, 12, 13, 14] [] 15 rfl rfl rfl rfl rfl (by decide) (by decide) rfl (fun H locs G => ?_)
    refine lv_goto (tgt := 40) hx hb dX3_spend_28 (by decide) ?_
    cases hf
    exact e_mv X G dX3_spend_40
theorem mk_X3_spend : MV yX3_spend cX3_spend 5 none 4 := ⟨co_X3_spend, in_X3, im_X3_spend, se_X3_spend, by decide +kernel, by decide +kernel⟩
noncomputable def FX3_act (SC : ScT) (PL : PlT) (v2 : Int32) : Option (ScT) :=
  ix v2 8 <|
  (FX1_numberAt PL v2 (Sc_place SC (Int32.toNatClampNeg v2))).bind fun r2 =>
  ix v2 8 <|
  (FX1_kindAt PL v2 (Sc_place SC (Int32.toNatClampNeg v2))).bind fun r4 =>
  if r4 = (0 : Int32) ∨ r4 = (7 : Int32) then (
    (FX3_spend SC PL v2 r4 r2).bind fun r6 =>
    some r6
  ) else (
  if r4 = (1 : Int32) then (
    (FX9_set 6 (Sc_holders SC) r2 v2).bind fun r8 =>
    nm (sSc_holders SC r8) fun SC9 =>
    (FX3_finish SC9 PL v2 r4).bind fun r10 =>
    some r10
  ) else (
  if r4 = (2 : Int32) then (
    (FX9_at 6 (Sc_holders SC) r2).bind fun r12 =>
    if r12 = v2 then (
      (FX9_set 6 (Sc_holders SC) r2 (-1 : Int32)).bind fun r15 =>
      nm (sSc_holders SC r15) fun SC16 =>
      (FX3_finish SC16 PL v2 r4).bind fun r17 =>
      some r17
    ) else (
      (FX3_finish SC PL v2 r4).bind fun r14 =>
      some r14
    )
  ) else (
  if r4 = (3 : Int32) then (
    (FX9_add 4 (Sc_lies SC) r2 (1 : Int32)).bind fun r19 =>
    nm (sSc_lies SC r19) fun SC20 =>
    (FX3_finish SC20 PL v2 r4).bind fun r21 =>
    some r21
  ) else (
  if r4 = (4 : Int32) then (
    (FX9_add 4 (Sc_lies SC) r2 (-1 : Int32)).bind fun r23 =>
    nm (sSc_lies SC r23) fun SC24 =>
    (FX3_finish SC24 PL v2 r4).bind fun r25 =>
    some r25
  ) else (
  if r4 = (5 : Int32) then (
    (FX9_add 64 (Sc_mail SC) ((r2 * (8 : Int32)) + v2) (1 : Int32)).bind fun r27 =>
    nm (sSc_mail SC r27) fun SC28 =>
    (FX3_finish SC28 PL v2 r4).bind fun r29 =>
    some r29
  ) else (
  if r4 = (6 : Int32) then (
    (FX9_add 64 (Sc_mail SC) ((v2 * (8 : Int32)) + r2) (-1 : Int32)).bind fun r31 =>
    nm (sSc_mail SC r31) fun SC32 =>
    (FX3_finish SC32 PL v2 r4).bind fun r33 =>
    some r33
  ) else (
    (FX3_finish SC PL v2 r4).bind fun r34 =>
    some r34
  )))))))
set_option maxHeartbeats 4000000 in
set_option maxRecDepth 100000 in
theorem ctX3_act {l : Launch} {D : va_G} {k : Nat → ClassId} {Z : ZT} (hZ : ZOK Z) (ot : Nat) (o1 : Nat) (aSC : Nat → Nat) (aPL : Nat → Nat) {SC : ScT} {PL : PlT} {v2 : Int32} {q : ScT} (hf : FX3_act SC PL v2 = some q) :
    CM l D k Z yX3_act cX3_act 5 none 3 68 [.ref ot, .ref o1, .int v2] none (kSc k ot aSC (SC) ++ (kPl k o1 aPL (PL))) (kSc k ot aSC (q) ++ (kPl k o1 aPL (PL))) := by
  refine CM.start hZ (by decide) (Nat.le_of_ble_eq_true rfl) ?_
  intro p e s m below meth c ls X hl G
  have hx := X.1
  have hb := X.2.1
  have hl : lv_has ls 5 [(0, .ref ot), (1, .ref o1), (2, .int v2)] := hl
  unfold FX3_act at hf
  refine lv_aload_n hx hb dX3_act_0 rfl (lv_at hl 1 rfl) ?_
  refine lv_iload_n hx hb dX3_act_1 rfl (lv_at hl 2 rfl) ?_
  refine lv_aload_n hx hb dX3_act_2 rfl (lv_at hl 0 rfl) ?_
  refine r_get X inw_X3 G 0 rfl rfl 3 (by decide) fl_X3_21 (v := .ref (aSC 0)) rfl dX3_act_3 ?_
  refine lv_iload_n hx hb dX3_act_6 rfl (lv_at hl 2 rfl) ?_
  obtain ⟨h1, hf⟩ := ix_some hf
  refine r_iald X G 1 rfl h1 dX3_act_7 ?_
  obtain ⟨r2, hcr2, hf⟩ := bd_some hf
  refine p_R (st1 := [.int r2]) (run_V (rest := []) X (ctX1_numberAt hZ o1 aPL hcr2) mk_X1_numberAt ml_X3_67 ⟨(Nat.le_of_ble_eq_true rfl), (Nat.le_of_ble_eq_true rfl)⟩ G [9, 10, 11, 12, 13, 14] rfl rfl 9 rfl rfl rfl hl.1 rfl (Nat.le_of_ble_eq_true rfl) dX3_act_8 ⟨Nat.zero_le _, Nat.zero_le _⟩) rfl ?_
  refine lv_istore_n (lv' := [(3, .int r2), (0, .ref ot), (1, .ref o1), (2, .int v2)]) hx hb dX3_act_11 rfl hl (by decide) rfl (fun ls hl => ?_)
  refine lv_aload_n hx hb dX3_act_12 rfl (lv_at hl 2 rfl) ?_
  refine lv_iload_n hx hb dX3_act_13 rfl (lv_at hl 3 rfl) ?_
  refine lv_aload_n hx hb dX3_act_14 rfl (lv_at hl 1 rfl) ?_
  refine r_get X inw_X3 G 0 rfl rfl 3 (by decide) fl_X3_21 (v := .ref (aSC 0)) rfl dX3_act_15 ?_
  refine lv_iload_n hx hb dX3_act_18 rfl (lv_at hl 3 rfl) ?_
  obtain ⟨h3, hf⟩ := ix_some hf
  refine r_iald X G 1 rfl h3 dX3_act_19 ?_
  obtain ⟨r4, hcr4, hf⟩ := bd_some hf
  refine p_R (st1 := [.int r4]) (run_V (rest := []) X (ctX1_kindAt hZ o1 aPL hcr4) mk_X1_kindAt ml_X3_71 ⟨(Nat.le_of_ble_eq_true rfl), (Nat.le_of_ble_eq_true rfl)⟩ G [9, 10, 11, 12, 13, 14] rfl rfl 9 rfl rfl rfl hl.1 rfl (Nat.le_of_ble_eq_true rfl) dX3_act_20 ⟨Nat.zero_le _, Nat.zero_le _⟩) rfl ?_
  refine lv_istore (lv' := [(4, .int r4), (3, .int r2), (0, .ref ot), (1, .ref o1), (2, .int v2)]) hx hb dX3_act_23 hl (by decide) rfl (fun ls hl => ?_)
  refine lv_iload hx hb dX3_act_25 (lv_at hl 0 rfl) ?_
  by_cases c5 : r4 = (0 : Int32) ∨ r4 = (7 : Int32)
  · replace hf := if_t hf c5
    refine r_tsw X (tgt := 72) dX3_act_27 (by rcases c5 with c5 | c5 <;> (rw [c5]; decide +kernel)) (by rcases c5 with c5 | c5 <;> (rw [c5]; decide +kernel)) ?_
    refine lv_aload_n hx hb dX3_act_72 rfl (lv_at hl 2 rfl) ?_
    refine lv_aload_n hx hb dX3_act_73 rfl (lv_at hl 3 rfl) ?_
    refine lv_iload_n hx hb dX3_act_74 rfl (lv_at hl 4 rfl) ?_
    refine lv_iload hx hb dX3_act_75 (lv_at hl 0 rfl) ?_
    refine lv_iload_n hx hb dX3_act_77 rfl (lv_at hl 1 rfl) ?_
    obtain ⟨r6, hcr6, hf⟩ := bd_some hf
    refine p_N (st1 := []) (wr := []) (ws' := kSc k ot aSC (r6) ++ (kPl k o1 aPL (PL))) (run_V (rest := []) X (ctX3_spend hZ ot o1 aSC aPL hcr6) mk_X3_spend ml_X3_89 ⟨(Nat.le_of_ble_eq_true rfl), (Nat.le_of_ble_eq_true rfl)⟩ G [0, 1, 2, 3, 4, 5, 6, 7, 8, 9, 10, 11, 12, 13, 14] rfl rfl 0 rfl rfl rfl hl.1 rfl (Nat.le_of_ble_eq_true rfl) dX3_act_78 ⟨Nat.zero_le _, Nat.zero_le _⟩) rfl G [0, 1, 2, 3, 4, 5, 6, 7, 8, 9, 10, 11, 12, 13, 14] [] 15 rfl rfl rfl rfl rfl (by decide) (by decide) rfl (fun H locs G => ?_)
    cases hf
    exact e_mv X G dX3_act_81
  replace hf := if_f hf c5
  by_cases c7 : r4 = (1 : Int32)
  · replace hf := if_t hf c7
    refine r_tsw X (tgt := 82) dX3_act_27 (by rw [c7]; decide +kernel) (by rw [c7]; decide +kernel) ?_
    refine lv_aload_n hx hb dX3_act_82 rfl (lv_at hl 2 rfl) ?_
    refine r_get X inw_X3 G 0 rfl rfl 8 (by decide) fl_X3_37 (v := .ref (aSC 5)) rfl dX3_act_83 ?_
    refine lv_iload_n hx hb dX3_act_86 rfl (lv_at hl 1 rfl) ?_
    refine lv_iload_n hx hb dX3_act_87 rfl (lv_at hl 4 rfl) ?_
    obtain ⟨r8, hcr8, hf⟩ := bd_some hf
    obtain ⟨SC9, eSC9, hf⟩ := nm_some hf
    refine p_N (st1 := []) (wr := [(ot, .inr (3, [.int (Sc_tick SC), .int (Sc_window SC), .int (Sc_grace SC), .ref (aSC 0), .ref (aSC 1), .ref (aSC 2), .ref (aSC 3), .ref (aSC 4), .ref (aSC 5), .ref (aSC 6), .ref (aSC 7)])), (aSC 0, .inl (k 0, 8, .inl (Sc_place SC))), (aSC 1, .inl (k 0, 8, .inl (Sc_ticked SC))), (aSC 2, .inl (k 0, 8, .inl (Sc_beat SC))), (aSC 3, .inl (k 0, 8, .inl (Sc_steps SC))), (aSC 4, .inl (k 0, 8, .inl (Sc_marks SC))), (aSC 6, .inl (k 0, 4, .inl (Sc_lies SC))), (aSC 7, .inl (k 0, 64, .inl (Sc_mail SC)))] ++ (kPl k o1 aPL (PL))) (ws' := kSc k ot aSC (SC9) ++ (kPl k o1 aPL (PL))) (run_N (rest := []) X (ctX9_set hZ (aSC 5) hcr8) mk_X9_set mn_X3_93 ⟨(Nat.le_of_ble_eq_true rfl), (Nat.le_of_ble_eq_true rfl)⟩ G [6] rfl rfl rfl hl.1 rfl (Nat.le_of_ble_eq_true rfl) dX3_act_88 ⟨Nat.zero_le _, Nat.zero_le _⟩) rfl G [6] [0, 1, 2, 3, 4, 5, 7, 8, 9, 10, 11, 12, 13, 14] 15 rfl (by subst eSC9; rfl) rfl (by subst eSC9; rfl) rfl (by decide) (by decide) rfl (fun H locs G => ?_)
    refine lv_goto (tgt := 176) hx hb dX3_act_91 (by decide) ?_
    refine lv_aload_n hx hb dX3_act_176 rfl (lv_at hl 2 rfl) ?_
    refine lv_aload_n hx hb dX3_act_177 rfl (lv_at hl 3 rfl) ?_
    refine lv_iload_n hx hb dX3_act_178 rfl (lv_at hl 4 rfl) ?_
    refine lv_iload hx hb dX3_act_179 (lv_at hl 0 rfl) ?_
    obtain ⟨r10, hcr10, hf⟩ := bd_some hf
    refine p_N (st1 := []) (wr := []) (ws' := kSc k ot aSC (r10) ++ (kPl k o1 aPL (PL))) (run_V (rest := []) X (ctX3_finish hZ ot o1 aSC aPL hcr10) mk_X3_finish ml_X3_100 ⟨(Nat.le_of_ble_eq_true rfl), (Nat.le_of_ble_eq_true rfl)⟩ G [0, 1, 2, 3, 4, 5, 6, 7, 8, 9, 10, 11, 12, 13, 14] rfl rfl 0 rfl rfl rfl hl.1 rfl (Nat.le_of_ble_eq_true rfl) dX3_act_181 ⟨Nat.zero_le _, Nat.zero_le _⟩) rfl G [0, 1, 2, 3, 4, 5, 6, 7, 8, 9, 10, 11, 12, 13, 14] [] 15 rfl rfl rfl rfl rfl (by decide) (by decide) rfl (fun H locs G => ?_)
    cases hf
    exact e_mv X G dX3_act_184
  replace hf := if_f hf c7
  by_cases c11 : r4 = (2 : Int32)
  · replace hf := if_t hf c11
    refine r_tsw X (tgt := 94) dX3_act_27 (by rw [c11]; decide +kernel) (by rw [c11]; decide +kernel) ?_
    refine lv_aload_n hx hb dX3_act_94 rfl (lv_at hl 2 rfl) ?_
    refine r_get X inw_X3 G 0 rfl rfl 8 (by decide) fl_X3_37 (v := .ref (aSC 5)) rfl dX3_act_95 ?_
    refine lv_iload_n hx hb dX3_act_98 rfl (lv_at hl 1 rfl) ?_
    obtain ⟨r12, hcr12, hf⟩ := bd_some hf
    refine p_R (st1 := [.int r12]) (run_N (rest := []) X (ctX9_at hZ (aSC 5) hcr12) mk_X9_at mn_X3_74 ⟨(Nat.le_of_ble_eq_true rfl), (Nat.le_of_ble_eq_true rfl)⟩ G [6] rfl rfl rfl hl.1 rfl (Nat.le_of_ble_eq_true rfl) dX3_act_99 ⟨Nat.zero_le _, Nat.zero_le _⟩) rfl ?_
    refine lv_iload_n hx hb dX3_act_102 rfl (lv_at hl 4 rfl) ?_
    refine lv_icmp_ne (tgt := 176) hx hb dX3_act_103 (by decide) (fun c13 => ?_) (fun c13 => ?_)
    · replace hf := if_f hf c13
      refine lv_aload_n hx hb dX3_act_176 rfl (lv_at hl 2 rfl) ?_
      refine lv_aload_n hx hb dX3_act_177 rfl (lv_at hl 3 rfl) ?_
      refine lv_iload_n hx hb dX3_act_178 rfl (lv_at hl 4 rfl) ?_
      refine lv_iload hx hb dX3_act_179 (lv_at hl 0 rfl) ?_
      obtain ⟨r14, hcr14, hf⟩ := bd_some hf
      refine p_N (st1 := []) (wr := []) (ws' := kSc k ot aSC (r14) ++ (kPl k o1 aPL (PL))) (run_V (rest := []) X (ctX3_finish hZ ot o1 aSC aPL hcr14) mk_X3_finish ml_X3_100 ⟨(Nat.le_of_ble_eq_true rfl), (Nat.le_of_ble_eq_true rfl)⟩ G [0, 1, 2, 3, 4, 5, 6, 7, 8, 9, 10, 11, 12, 13, 14] rfl rfl 0 rfl rfl rfl hl.1 rfl (Nat.le_of_ble_eq_true rfl) dX3_act_181 ⟨Nat.zero_le _, Nat.zero_le _⟩) rfl G [0, 1, 2, 3, 4, 5, 6, 7, 8, 9, 10, 11, 12, 13, 14] [] 15 rfl rfl rfl rfl rfl (by decide) (by decide) rfl (fun H locs G => ?_)
      cases hf
      exact e_mv X G dX3_act_184
    · replace hf := if_t hf c13
      refine lv_aload_n hx hb dX3_act_106 rfl (lv_at hl 2 rfl) ?_
      refine r_get X inw_X3 G 0 rfl rfl 8 (by decide) fl_X3_37 (v := .ref (aSC 5)) rfl dX3_act_107 ?_
      refine lv_iload_n hx hb dX3_act_110 rfl (lv_at hl 1 rfl) ?_
      refine lv_iconst (v := -1) hx hb dX3_act_111 (by decide) ?_
      obtain ⟨r15, hcr15, hf⟩ := bd_some hf
      obtain ⟨SC16, eSC16, hf⟩ := nm_some hf
      refine p_N (st1 := []) (wr := [(ot, .inr (3, [.int (Sc_tick SC), .int (Sc_window SC), .int (Sc_grace SC), .ref (aSC 0), .ref (aSC 1), .ref (aSC 2), .ref (aSC 3), .ref (aSC 4), .ref (aSC 5), .ref (aSC 6), .ref (aSC 7)])), (aSC 0, .inl (k 0, 8, .inl (Sc_place SC))), (aSC 1, .inl (k 0, 8, .inl (Sc_ticked SC))), (aSC 2, .inl (k 0, 8, .inl (Sc_beat SC))), (aSC 3, .inl (k 0, 8, .inl (Sc_steps SC))), (aSC 4, .inl (k 0, 8, .inl (Sc_marks SC))), (aSC 6, .inl (k 0, 4, .inl (Sc_lies SC))), (aSC 7, .inl (k 0, 64, .inl (Sc_mail SC)))] ++ (kPl k o1 aPL (PL))) (ws' := kSc k ot aSC (SC16) ++ (kPl k o1 aPL (PL))) (run_N (rest := []) X (ctX9_set hZ (aSC 5) hcr15) mk_X9_set mn_X3_93 ⟨(Nat.le_of_ble_eq_true rfl), (Nat.le_of_ble_eq_true rfl)⟩ G [6] rfl rfl rfl hl.1 rfl (Nat.le_of_ble_eq_true rfl) dX3_act_112 ⟨Nat.zero_le _, Nat.zero_le _⟩) rfl G [6] [0, 1, 2, 3, 4, 5, 7, 8, 9, 10, 11, 12, 13, 14] 15 rfl (by subst eSC16; rfl) rfl (by subst eSC16; rfl) rfl (by decide) (by decide) rfl (fun H locs G => ?_)
      refine lv_goto (tgt := 176) hx hb dX3_act_115 (by decide) ?_
      refine lv_aload_n hx hb dX3_act_176 rfl (lv_at hl 2 rfl) ?_
      refine lv_aload_n hx hb dX3_act_177 rfl (lv_at hl 3 rfl) ?_
      refine lv_iload_n hx hb dX3_act_178 rfl (lv_at hl 4 rfl) ?_
      refine lv_iload hx hb dX3_act_179 (lv_at hl 0 rfl) ?_
      obtain ⟨r17, hcr17, hf⟩ := bd_some hf
      refine p_N (st1 := []) (wr := []) (ws' := kSc k ot aSC (r17) ++ (kPl k o1 aPL (PL))) (run_V (rest := []) X (ctX3_finish hZ ot o1 aSC aPL hcr17) mk_X3_finish ml_X3_100 ⟨(Nat.le_of_ble_eq_true rfl), (Nat.le_of_ble_eq_true rfl)⟩ G [0, 1, 2, 3, 4, 5, 6, 7, 8, 9, 10, 11, 12, 13, 14] rfl rfl 0 rfl rfl rfl hl.1 rfl (Nat.le_of_ble_eq_true rfl) dX3_act_181 ⟨Nat.zero_le _, Nat.zero_le _⟩) rfl G [0, 1, 2, 3, 4, 5, 6, 7, 8, 9, 10, 11, 12, 13, 14] [] 15 rfl rfl rfl rfl rfl (by decide) (by decide) rfl (fun H locs G => ?_)
      cases hf
      exact e_mv X G dX3_act_184
  replace hf := if_f hf c11
  by_cases c18 : r4 = (3 : Int32)
  · replace hf := if_t hf c18
    refine r_tsw X (tgt := 118) dX3_act_27 (by rw [c18]; decide +kernel) (by rw [c18]; decide +kernel) ?_
    refine lv_aload_n hx hb dX3_act_118 rfl (lv_at hl 2 rfl) ?_
    refine r_get X inw_X3 G 0 rfl rfl 9 (by decide) fl_X3_40 (v := .ref (aSC 6)) rfl dX3_act_119 ?_
    refine lv_iload_n hx hb dX3_act_122 rfl (lv_at hl 1 rfl) ?_
    refine lv_iconst (v := 1) hx hb dX3_act_123 (by decide) ?_
    obtain ⟨r19, hcr19, hf⟩ := bd_some hf
    obtain ⟨SC20, eSC20, hf⟩ := nm_some hf
    refine p_N (st1 := []) (wr := [(ot, .inr (3, [.int (Sc_tick SC), .int (Sc_window SC), .int (Sc_grace SC), .ref (aSC 0), .ref (aSC 1), .ref (aSC 2), .ref (aSC 3), .ref (aSC 4), .ref (aSC 5), .ref (aSC 6), .ref (aSC 7)])), (aSC 0, .inl (k 0, 8, .inl (Sc_place SC))), (aSC 1, .inl (k 0, 8, .inl (Sc_ticked SC))), (aSC 2, .inl (k 0, 8, .inl (Sc_beat SC))), (aSC 3, .inl (k 0, 8, .inl (Sc_steps SC))), (aSC 4, .inl (k 0, 8, .inl (Sc_marks SC))), (aSC 5, .inl (k 0, 6, .inl (Sc_holders SC))), (aSC 7, .inl (k 0, 64, .inl (Sc_mail SC)))] ++ (kPl k o1 aPL (PL))) (ws' := kSc k ot aSC (SC20) ++ (kPl k o1 aPL (PL))) (run_N (rest := []) X (ctX9_add hZ (aSC 6) hcr19) mk_X9_add mn_X3_97 ⟨(Nat.le_of_ble_eq_true rfl), (Nat.le_of_ble_eq_true rfl)⟩ G [7] rfl rfl rfl hl.1 rfl (Nat.le_of_ble_eq_true rfl) dX3_act_124 ⟨Nat.zero_le _, Nat.zero_le _⟩) rfl G [7] [0, 1, 2, 3, 4, 5, 6, 8, 9, 10, 11, 12, 13, 14] 15 rfl (by subst eSC20; rfl) rfl (by subst eSC20; rfl) rfl (by decide) (by decide) rfl (fun H locs G => ?_)
    refine lv_goto (tgt := 176) hx hb dX3_act_127 (by decide) ?_
    refine lv_aload_n hx hb dX3_act_176 rfl (lv_at hl 2 rfl) ?_
    refine lv_aload_n hx hb dX3_act_177 rfl (lv_at hl 3 rfl) ?_
    refine lv_iload_n hx hb dX3_act_178 rfl (lv_at hl 4 rfl) ?_
    refine lv_iload hx hb dX3_act_179 (lv_at hl 0 rfl) ?_
    obtain ⟨r21, hcr21, hf⟩ := bd_some hf
    refine p_N (st1 := []) (wr := []) (ws' := kSc k ot aSC (r21) ++ (kPl k o1 aPL (PL))) (run_V (rest := []) X (ctX3_finish hZ ot o1 aSC aPL hcr21) mk_X3_finish ml_X3_100 ⟨(Nat.le_of_ble_eq_true rfl), (Nat.le_of_ble_eq_true rfl)⟩ G [0, 1, 2, 3, 4, 5, 6, 7, 8, 9, 10, 11, 12, 13, 14] rfl rfl 0 rfl rfl rfl hl.1 rfl (Nat.le_of_ble_eq_true rfl) dX3_act_181 ⟨Nat.zero_le _, Nat.zero_le _⟩) rfl G [0, 1, 2, 3, 4, 5, 6, 7, 8, 9, 10, 11, 12, 13, 14] [] 15 rfl rfl rfl rfl rfl (by decide) (by decide) rfl (fun H locs G => ?_)
    cases hf
    exact e_mv X G dX3_act_184
  replace hf := if_f hf c18
  by_cases c22 : r4 = (4 : Int32)
  · replace hf := if_t hf c22
    refine r_tsw X (tgt := 130) dX3_act_27 (by rw [c22]; decide +kernel) (by rw [c22]; decide +kernel) ?_
    refine lv_aload_n hx hb dX3_act_130 rfl (lv_at hl 2 rfl) ?_
    refine r_get X inw_X3 G 0 rfl rfl 9 (by decide) fl_X3_40 (v := .ref (aSC 6)) rfl dX3_act_131 ?_
    refine lv_iload_n hx hb dX3_act_134 rfl (lv_at hl 1 rfl) ?_
    refine lv_iconst (v := -1) hx hb dX3_act_135 (by decide) ?_
    obtain ⟨r23, hcr23, hf⟩ := bd_some hf
    obtain ⟨SC24, eSC24, hf⟩ := nm_some hf
    refine p_N (st1 := []) (wr := [(ot, .inr (3, [.int (Sc_tick SC), .int (Sc_window SC), .int (Sc_grace SC), .ref (aSC 0), .ref (aSC 1), .ref (aSC 2), .ref (aSC 3), .ref (aSC 4), .ref (aSC 5), .ref (aSC 6), .ref (aSC 7)])), (aSC 0, .inl (k 0, 8, .inl (Sc_place SC))), (aSC 1, .inl (k 0, 8, .inl (Sc_ticked SC))), (aSC 2, .inl (k 0, 8, .inl (Sc_beat SC))), (aSC 3, .inl (k 0, 8, .inl (Sc_steps SC))), (aSC 4, .inl (k 0, 8, .inl (Sc_marks SC))), (aSC 5, .inl (k 0, 6, .inl (Sc_holders SC))), (aSC 7, .inl (k 0, 64, .inl (Sc_mail SC)))] ++ (kPl k o1 aPL (PL))) (ws' := kSc k ot aSC (SC24) ++ (kPl k o1 aPL (PL))) (run_N (rest := []) X (ctX9_add hZ (aSC 6) hcr23) mk_X9_add mn_X3_97 ⟨(Nat.le_of_ble_eq_true rfl), (Nat.le_of_ble_eq_true rfl)⟩ G [7] rfl rfl rfl hl.1 rfl (Nat.le_of_ble_eq_true rfl) dX3_act_136 ⟨Nat.zero_le _, Nat.zero_le _⟩) rfl G [7] [0, 1, 2, 3, 4, 5, 6, 8, 9, 10, 11, 12, 13, 14] 15 rfl (by subst eSC24; rfl) rfl (by subst eSC24; rfl) rfl (by decide) (by decide) rfl (fun H locs G => ?_)
    refine lv_goto (tgt := 176) hx hb dX3_act_139 (by decide) ?_
    refine lv_aload_n hx hb dX3_act_176 rfl (lv_at hl 2 rfl) ?_
    refine lv_aload_n hx hb dX3_act_177 rfl (lv_at hl 3 rfl) ?_
    refine lv_iload_n hx hb dX3_act_178 rfl (lv_at hl 4 rfl) ?_
    refine lv_iload hx hb dX3_act_179 (lv_at hl 0 rfl) ?_
    obtain ⟨r25, hcr25, hf⟩ := bd_some hf
    refine p_N (st1 := []) (wr := []) (ws' := kSc k ot aSC (r25) ++ (kPl k o1 aPL (PL))) (run_V (rest := []) X (ctX3_finish hZ ot o1 aSC aPL hcr25) mk_X3_finish ml_X3_100 ⟨(Nat.le_of_ble_eq_true rfl), (Nat.le_of_ble_eq_true rfl)⟩ G [0, 1, 2, 3, 4, 5, 6, 7, 8, 9, 10, 11, 12, 13, 14] rfl rfl 0 rfl rfl rfl hl.1 rfl (Nat.le_of_ble_eq_true rfl) dX3_act_181 ⟨Nat.zero_le _, Nat.zero_le _⟩) rfl G [0, 1, 2, 3, 4, 5, 6, 7, 8, 9, 10, 11, 12, 13, 14] [] 15 rfl rfl rfl rfl rfl (by decide) (by decide) rfl (fun H locs G => ?_)
    cases hf
    exact e_mv X G dX3_act_184
  replace hf := if_f hf c22
  by_cases c26 : r4 = (5 : Int32)
  · replace hf := if_t hf c26
    refine r_tsw X (tgt := 142) dX3_act_27 (by rw [c26]; decide +kernel) (by rw [c26]; decide +kernel) ?_
    refine lv_aload_n hx hb dX3_act_142 rfl (lv_at hl 2 rfl) ?_
    refine r_get X inw_X3 G 0 rfl rfl 10 (by decide) fl_X3_43 (v := .ref (aSC 7)) rfl dX3_act_143 ?_
    refine lv_iload_n hx hb dX3_act_146 rfl (lv_at hl 1 rfl) ?_
    refine lv_bipush (v := 8) hx hb dX3_act_147 (by decide) ?_
    refine lv_imul hx hb dX3_act_149 ?_
    refine lv_iload_n hx hb dX3_act_150 rfl (lv_at hl 4 rfl) ?_
    refine lv_iadd hx hb dX3_act_151 ?_
    refine lv_iconst (v := 1) hx hb dX3_act_152 (by decide) ?_
    obtain ⟨r27, hcr27, hf⟩ := bd_some hf
    obtain ⟨SC28, eSC28, hf⟩ := nm_some hf
    refine p_N (st1 := []) (wr := [(ot, .inr (3, [.int (Sc_tick SC), .int (Sc_window SC), .int (Sc_grace SC), .ref (aSC 0), .ref (aSC 1), .ref (aSC 2), .ref (aSC 3), .ref (aSC 4), .ref (aSC 5), .ref (aSC 6), .ref (aSC 7)])), (aSC 0, .inl (k 0, 8, .inl (Sc_place SC))), (aSC 1, .inl (k 0, 8, .inl (Sc_ticked SC))), (aSC 2, .inl (k 0, 8, .inl (Sc_beat SC))), (aSC 3, .inl (k 0, 8, .inl (Sc_steps SC))), (aSC 4, .inl (k 0, 8, .inl (Sc_marks SC))), (aSC 5, .inl (k 0, 6, .inl (Sc_holders SC))), (aSC 6, .inl (k 0, 4, .inl (Sc_lies SC)))] ++ (kPl k o1 aPL (PL))) (ws' := kSc k ot aSC (SC28) ++ (kPl k o1 aPL (PL))) (run_N (rest := []) X (ctX9_add hZ (aSC 7) hcr27) mk_X9_add mn_X3_97 ⟨(Nat.le_of_ble_eq_true rfl), (Nat.le_of_ble_eq_true rfl)⟩ G [8] rfl rfl rfl hl.1 rfl (Nat.le_of_ble_eq_true rfl) dX3_act_153 ⟨Nat.zero_le _, Nat.zero_le _⟩) rfl G [8] [0, 1, 2, 3, 4, 5, 6, 7, 9, 10, 11, 12, 13, 14] 15 rfl (by subst eSC28; rfl) rfl (by subst eSC28; rfl) rfl (by decide) (by decide) rfl (fun H locs G => ?_)
    refine lv_goto (tgt := 176) hx hb dX3_act_156 (by decide) ?_
    refine lv_aload_n hx hb dX3_act_176 rfl (lv_at hl 2 rfl) ?_
    refine lv_aload_n hx hb dX3_act_177 rfl (lv_at hl 3 rfl) ?_
    refine lv_iload_n hx hb dX3_act_178 rfl (lv_at hl 4 rfl) ?_
    refine lv_iload hx hb dX3_act_179 (lv_at hl 0 rfl) ?_
    obtain ⟨r29, hcr29, hf⟩ := bd_some hf
    refine p_N (st1 := []) (wr := []) (ws' := kSc k ot aSC (r29) ++ (kPl k o1 aPL (PL))) (run_V (rest := []) X (ctX3_finish hZ ot o1 aSC aPL hcr29) mk_X3_finish ml_X3_100 ⟨(Nat.le_of_ble_eq_true rfl), (Nat.le_of_ble_eq_true rfl)⟩ G [0, 1, 2, 3, 4, 5, 6, 7, 8, 9, 10, 11, 12, 13, 14] rfl rfl 0 rfl rfl rfl hl.1 rfl (Nat.le_of_ble_eq_true rfl) dX3_act_181 ⟨Nat.zero_le _, Nat.zero_le _⟩) rfl G [0, 1, 2, 3, 4, 5, 6, 7, 8, 9, 10, 11, 12, 13, 14] [] 15 rfl rfl rfl rfl rfl (by decide) (by decide) rfl (fun H locs G => ?_)
    cases hf
    exact e_mv X G dX3_act_184
  replace hf := if_f hf c26
  by_cases c30 : r4 = (6 : Int32)
  · replace hf := if_t hf c30
    refine r_tsw X (tgt := 159) dX3_act_27 (by rw [c30]; decide +kernel) (by rw [c30]; decide +kernel) ?_
    refine lv_aload_n hx hb dX3_act_159 rfl (lv_at hl 2 rfl) ?_
    refine r_get X inw_X3 G 0 rfl rfl 10 (by decide) fl_X3_43 (v := .ref (aSC 7)) rfl dX3_act_160 ?_
    refine lv_iload_n hx hb dX3_act_163 rfl (lv_at hl 4 rfl) ?_
    refine lv_bipush (v := 8) hx hb dX3_act_164 (by decide) ?_
    refine lv_imul hx hb dX3_act_166 ?_
    refine lv_iload_n hx hb dX3_act_167 rfl (lv_at hl 1 rfl) ?_
    refine lv_iadd hx hb dX3_act_168 ?_
    refine lv_iconst (v := -1) hx hb dX3_act_169 (by decide) ?_
    obtain ⟨r31, hcr31, hf⟩ := bd_some hf
    obtain ⟨SC32, eSC32, hf⟩ := nm_some hf
    refine p_N (st1 := []) (wr := [(ot, .inr (3, [.int (Sc_tick SC), .int (Sc_window SC), .int (Sc_grace SC), .ref (aSC 0), .ref (aSC 1), .ref (aSC 2), .ref (aSC 3), .ref (aSC 4), .ref (aSC 5), .ref (aSC 6), .ref (aSC 7)])), (aSC 0, .inl (k 0, 8, .inl (Sc_place SC))), (aSC 1, .inl (k 0, 8, .inl (Sc_ticked SC))), (aSC 2, .inl (k 0, 8, .inl (Sc_beat SC))), (aSC 3, .inl (k 0, 8, .inl (Sc_steps SC))), (aSC 4, .inl (k 0, 8, .inl (Sc_marks SC))), (aSC 5, .inl (k 0, 6, .inl (Sc_holders SC))), (aSC 6, .inl (k 0, 4, .inl (Sc_lies SC)))] ++ (kPl k o1 aPL (PL))) (ws' := kSc k ot aSC (SC32) ++ (kPl k o1 aPL (PL))) (run_N (rest := []) X (ctX9_add hZ (aSC 7) hcr31) mk_X9_add mn_X3_97 ⟨(Nat.le_of_ble_eq_true rfl), (Nat.le_of_ble_eq_true rfl)⟩ G [8] rfl rfl rfl hl.1 rfl (Nat.le_of_ble_eq_true rfl) dX3_act_170 ⟨Nat.zero_le _, Nat.zero_le _⟩) rfl G [8] [0, 1, 2, 3, 4, 5, 6, 7, 9, 10, 11, 12, 13, 14] 15 rfl (by subst eSC32; rfl) rfl (by subst eSC32; rfl) rfl (by decide) (by decide) rfl (fun H locs G => ?_)
    refine lv_goto (tgt := 176) hx hb dX3_act_173 (by decide) ?_
    refine lv_aload_n hx hb dX3_act_176 rfl (lv_at hl 2 rfl) ?_
    refine lv_aload_n hx hb dX3_act_177 rfl (lv_at hl 3 rfl) ?_
    refine lv_iload_n hx hb dX3_act_178 rfl (lv_at hl 4 rfl) ?_
    refine lv_iload hx hb dX3_act_179 (lv_at hl 0 rfl) ?_
    obtain ⟨r33, hcr33, hf⟩ := bd_some hf
    refine p_N (st1 := []) (wr := []) (ws' := kSc k ot aSC (r33) ++ (kPl k o1 aPL (PL))) (run_V (rest := []) X (ctX3_finish hZ ot o1 aSC aPL hcr33) mk_X3_finish ml_X3_100 ⟨(Nat.le_of_ble_eq_true rfl), (Nat.le_of_ble_eq_true rfl)⟩ G [0, 1, 2, 3, 4, 5, 6, 7, 8, 9, 10, 11, 12, 13, 14] rfl rfl 0 rfl rfl rfl hl.1 rfl (Nat.le_of_ble_eq_true rfl) dX3_act_181 ⟨Nat.zero_le _, Nat.zero_le _⟩) rfl G [0, 1, 2, 3, 4, 5, 6, 7, 8, 9, 10, 11, 12, 13, 14] [] 15 rfl rfl rfl rfl rfl (by decide) (by decide) rfl (fun H locs G => ?_)
    cases hf
    exact e_mv X G dX3_act_184
  replace hf := if_f hf c30
  have hd := tsw_d (x := r4) (lo' := 0) (hi' := 7) (dflt := 149) (offs := #[45, 55, 67, 91, 103, 115, 132, 45]) [(0 : Int32), (7 : Int32), (1 : Int32), (2 : Int32), (3 : Int32), (4 : Int32), (5 : Int32), (6 : Int32)] (by
      intro k hk
      simp only [List.mem_cons, List.not_mem_nil, or_false] at hk
      rcases hk with rfl | rfl | rfl | rfl | rfl | rfl | rfl | rfl
      · exact fun z => c5 (Or.inl z)
      · exact fun z => c5 (Or.inr (z))
      · exact c7
      · exact c11
      · exact c18
      · exact c22
      · exact c26
      · exact c30
      ) 7 (by decide) (by decide +kernel)
  refine r_tsw X (tgt := 176) dX3_act_27 (by rw [hd.1]; rfl) hd.2 ?_
  refine lv_aload_n hx hb dX3_act_176 rfl (lv_at hl 2 rfl) ?_
  refine lv_aload_n hx hb dX3_act_177 rfl (lv_at hl 3 rfl) ?_
  refine lv_iload_n hx hb dX3_act_178 rfl (lv_at hl 4 rfl) ?_
  refine lv_iload hx hb dX3_act_179 (lv_at hl 0 rfl) ?_
  obtain ⟨r34, hcr34, hf⟩ := bd_some hf
  refine p_N (st1 := []) (wr := []) (ws' := kSc k ot aSC (r34) ++ (kPl k o1 aPL (PL))) (run_V (rest := []) X (ctX3_finish hZ ot o1 aSC aPL hcr34) mk_X3_finish ml_X3_100 ⟨(Nat.le_of_ble_eq_true rfl), (Nat.le_of_ble_eq_true rfl)⟩ G [0, 1, 2, 3, 4, 5, 6, 7, 8, 9, 10, 11, 12, 13, 14] rfl rfl 0 rfl rfl rfl hl.1 rfl (Nat.le_of_ble_eq_true rfl) dX3_act_181 ⟨Nat.zero_le _, Nat.zero_le _⟩) rfl G [0, 1, 2, 3, 4, 5, 6, 7, 8, 9, 10, 11, 12, 13, 14] [] 15 rfl rfl rfl rfl rfl (by decide) (by decide) rfl (fun H locs G => ?_)
  cases hf
  exact e_mv X G dX3_act_184
theorem mk_X3_act : MV yX3_act cX3_act 5 none 2 := ⟨co_X3_act, in_X3, im_X3_act, se_X3_act, by decide +kernel, by decide +kernel⟩
noncomputable def FX3_pass_12 (PL : PlT) : (Int32 × ScT) → Option ((Int32 × ScT) ⊕ (ScT)) := fun stL2 =>
  if (Pl_workers PL) ≤ stL2.1 then (
    some (.inr stL2.2)
  ) else (
    ix stL2.1 8 <|
    if (Sc_place stL2.2 (Int32.toNatClampNeg stL2.1)) = (-1 : Int32) then (
      nm (stL2.1 + 1) fun x6 =>
      some (.inl (x6, stL2.2))
    ) else (
      (FX3_canDo stL2.2 PL stL2.1).bind fun r7 =>
      if (bI r7) = 0 then (
        nm (stL2.1 + 1) fun x9 =>
        some (.inl (x9, stL2.2))
      ) else (
        (FX3_act stL2.2 PL stL2.1).bind fun r10 =>
        nm (stL2.1 + 1) fun x11 =>
        some (.inl (x11, r10))
      )
    )
  )
noncomputable def FX3_pass (SC : ScT) (PL : PlT) : Option (ScT) :=
  nm (sSc_tick SC ((Sc_tick SC) + (1 : Int32))) fun SC1 =>
  (itr (FX3_pass_12 PL) ((0 : Int32), SC1)).bind fun uL2 =>
  some uL2
set_option maxHeartbeats 4000000 in
set_option maxRecDepth 100000 in
theorem ctX3_pass {l : Launch} {D : va_G} {k : Nat → ClassId} {Z : ZT} (hZ : ZOK Z) (ot : Nat) (o1 : Nat) (aSC : Nat → Nat) (aPL : Nat → Nat) {SC : ScT} {PL : PlT} {q : ScT} (hf : FX3_pass SC PL = some q) :
    CM l D k Z yX3_pass cX3_pass 3 none 4 92 [.ref ot, .ref o1] none (kSc k ot aSC (SC) ++ (kPl k o1 aPL (PL))) (kSc k ot aSC (q) ++ (kPl k o1 aPL (PL))) := by
  refine CM.start hZ (by decide) (Nat.le_of_ble_eq_true rfl) ?_
  intro p e s m below meth c ls X hl G
  have hx := X.1
  have hb := X.2.1
  have hl : lv_has ls 3 [(0, .ref ot), (1, .ref o1)] := hl
  unfold FX3_pass at hf
  refine lv_aload_n hx hb dX3_pass_0 rfl (lv_at hl 0 rfl) ?_
  refine lv_dup hx hb dX3_pass_1 rfl ?_
  refine r_get X inw_X3 G 0 rfl rfl 0 (by decide) fl_X3_9 (v := .int (Sc_tick SC)) rfl dX3_pass_2 ?_
  refine lv_iconst (v := 1) hx hb dX3_pass_5 (by decide) ?_
  refine lv_iadd hx hb dX3_pass_6 ?_
  obtain ⟨SC1, eSC1, hf⟩ := nm_some hf
  refine r_put X inw_X3 tyX3 tyX3_ok nmX3 G 0 rfl rfl 0 (by decide) fl_X3_9 rfl rfl rfl (Nat.le_of_ble_eq_true rfl) (ws' := kSc k ot aSC (SC1) ++ (kPl k o1 aPL (PL))) (by subst eSC1; rfl) dX3_pass_7 (fun H locs G => ?_)
  refine lv_iconst (v := 0) hx hb dX3_pass_10 (by decide) ?_
  refine lv_istore_n (lv' := [(2, .int (0 : Int32)), (0, .ref ot), (1, .ref o1)]) hx hb dX3_pass_11 rfl hl (by decide) rfl (fun ls hl => ?_)
  obtain ⟨exL2, hitL2, hfL2⟩ := bd_some hf
  obtain ⟨nL2, hitL2⟩ := itr_ex hitL2
  have KL2_0 : ∀ (u : ScT) (H : Heap) (locs : List Loc) (ls : Array Slot), exL2 = u → Wo D (wA (kSc k ot aSC (SC) ++ (kPl k o1 aPL (PL)))) s.heap (kSc k ot aSC (u) ++ (kPl k o1 aPL (PL))) H locs → lv_has ls 3 [] → W p l e (rmz 4 92) s m [.ref ot, .ref o1].toArray below meth c H locs 0 0 (MQ below (Qm D none (kSc k ot aSC (SC) ++ (kPl k o1 aPL (PL))) (kSc k ot aSC (q) ++ (kPl k o1 aPL (PL)))) [.ref ot, .ref o1].toArray s 0 0 (wA (kSc k ot aSC (SC) ++ (kPl k o1 aPL (PL))))) (F0 m 51 ls []) := by
    intro uL2 H locs ls hex G hl
    rw [hex] at hfL2
    have hf := hfL2
    cases hf
    exact e_mv X G dX3_pass_51
  have LL2 : ∀ (n : Nat) (stL2 : Int32 × ScT) (H : Heap) (locs : List Loc) (ls : Array Slot), Wo D (wA (kSc k ot aSC (SC) ++ (kPl k o1 aPL (PL)))) s.heap (kSc k ot aSC (stL2.2) ++ (kPl k o1 aPL (PL))) H locs → lv_has ls 3 [(0, .ref ot), (1, .ref o1), (2, .int (stL2.1))] → it (FX3_pass_12 PL) n stL2 = some exL2 → W p l e (rmz 4 92) s m [.ref ot, .ref o1].toArray below meth c H locs 0 0 (MQ below (Qm D none (kSc k ot aSC (SC) ++ (kPl k o1 aPL (PL))) (kSc k ot aSC (q) ++ (kPl k o1 aPL (PL)))) [.ref ot, .ref o1].toArray s 0 0 (wA (kSc k ot aSC (SC) ++ (kPl k o1 aPL (PL))))) (F0 m 12 ls []) := by
    intro n
    induction n with
    | zero =>
      intro stL2 H locs ls G hl hit
      exact (it_zero hit).elim
    | succ n ih =>
      intro stL2 H locs ls G hl hit
      obtain ⟨oL2, hf, hoL2⟩ := it_bd hit
      unfold FX3_pass_12 at hf
      refine lv_iload_n hx hb dX3_pass_12 rfl (lv_at hl 2 rfl) ?_
      refine lv_aload_n hx hb dX3_pass_13 rfl (lv_at hl 1 rfl) ?_
      refine r_get X inw_X1 G 9 rfl rfl 0 (by decide) fl_X3_60 (v := .int (Pl_workers PL)) rfl dX3_pass_14 ?_
      refine lv_icmp_ge (tgt := 51) hx hb dX3_pass_17 (by decide) (fun c3 => ?_) (fun c3 => ?_)
      · replace hf := if_t hf c3
        cases hf
        exact KL2_0 stL2.2 _ _ _ (it_out hoL2) G (lv_sub hl [] rfl)
      · replace hf := if_f hf c3
        refine lv_aload_n hx hb dX3_pass_20 rfl (lv_at hl 0 rfl) ?_
        refine r_get X inw_X3 G 0 rfl rfl 3 (by decide) fl_X3_21 (v := .ref (aSC 0)) rfl dX3_pass_21 ?_
        refine lv_iload_n hx hb dX3_pass_24 rfl (lv_at hl 2 rfl) ?_
        obtain ⟨h4, hf⟩ := ix_some hf
        refine r_iald X G 1 rfl h4 dX3_pass_25 ?_
        refine lv_iconst (v := -1) hx hb dX3_pass_26 (by decide) ?_
        refine lv_icmp_eq (tgt := 45) hx hb dX3_pass_27 (by decide) (fun c5 => ?_) (fun c5 => ?_)
        · replace hf := if_t hf c5
          obtain ⟨x6, ex6, hf⟩ := nm_some hf
          refine lv_iinc (v := x6) (lv' := [(2, .int x6), (0, .ref ot), (1, .ref o1)]) hx hb dX3_pass_45 hl (k := 2) rfl (by subst ex6; rfl) (by decide) rfl (fun ls hl => ?_)
          refine lv_goto (tgt := 12) hx hb dX3_pass_48 (by decide) ?_
          cases hf
          exact ih (x6, stL2.2) _ _ _ G (lv_sub hl [1, 2, 0] rfl) hoL2
        · replace hf := if_f hf c5
          refine lv_aload_n hx hb dX3_pass_30 rfl (lv_at hl 0 rfl) ?_
          refine lv_aload_n hx hb dX3_pass_31 rfl (lv_at hl 1 rfl) ?_
          refine lv_iload_n hx hb dX3_pass_32 rfl (lv_at hl 2 rfl) ?_
          obtain ⟨r7, hcr7, hf⟩ := bd_some hf
          refine p_R (st1 := [.int (bI r7)]) (run_V (rest := []) X (ctX3_canDo hZ ot o1 aSC aPL hcr7) mk_X3_canDo ml_X3_81 ⟨(Nat.le_of_ble_eq_true rfl), (Nat.le_of_ble_eq_true rfl)⟩ G [0, 1, 2, 3, 4, 5, 6, 7, 8, 9, 10, 11, 12, 13, 14] rfl rfl 0 rfl rfl rfl hl.1 rfl (Nat.le_of_ble_eq_true rfl) dX3_pass_33 ⟨Nat.zero_le _, Nat.zero_le _⟩) rfl ?_
          refine lv_if_eq (tgt := 45) hx hb dX3_pass_36 (by decide) (fun c8 => ?_) (fun c8 => ?_)
          · replace hf := if_t hf c8
            obtain ⟨x9, ex9, hf⟩ := nm_some hf
            refine lv_iinc (v := x9) (lv' := [(2, .int x9), (0, .ref ot), (1, .ref o1)]) hx hb dX3_pass_45 hl (k := 2) rfl (by subst ex9; rfl) (by decide) rfl (fun ls hl => ?_)
            refine lv_goto (tgt := 12) hx hb dX3_pass_48 (by decide) ?_
            cases hf
            exact ih (x9, stL2.2) _ _ _ G (lv_sub hl [1, 2, 0] rfl) hoL2
          · replace hf := if_f hf c8
            refine lv_aload_n hx hb dX3_pass_39 rfl (lv_at hl 0 rfl) ?_
            refine lv_aload_n hx hb dX3_pass_40 rfl (lv_at hl 1 rfl) ?_
            refine lv_iload_n hx hb dX3_pass_41 rfl (lv_at hl 2 rfl) ?_
            obtain ⟨r10, hcr10, hf⟩ := bd_some hf
            refine p_N (st1 := []) (wr := []) (ws' := kSc k ot aSC (r10) ++ (kPl k o1 aPL (PL))) (run_V (rest := []) X (ctX3_act hZ ot o1 aSC aPL hcr10) mk_X3_act ml_X3_85 ⟨(Nat.le_of_ble_eq_true rfl), (Nat.le_of_ble_eq_true rfl)⟩ G [0, 1, 2, 3, 4, 5, 6, 7, 8, 9, 10, 11, 12, 13, 14] rfl rfl 0 rfl rfl rfl hl.1 rfl (Nat.le_of_ble_eq_true rfl) dX3_pass_42 ⟨Nat.zero_le _, Nat.zero_le _⟩) rfl G [0, 1, 2, 3, 4, 5, 6, 7, 8, 9, 10, 11, 12, 13, 14] [] 15 rfl rfl rfl rfl rfl (by decide) (by decide) rfl (fun H locs G => ?_)
            obtain ⟨x11, ex11, hf⟩ := nm_some hf
            refine lv_iinc (v := x11) (lv' := [(2, .int x11), (0, .ref ot), (1, .ref o1)]) hx hb dX3_pass_45 hl (k := 2) rfl (by subst ex11; rfl) (by decide) rfl (fun ls hl => ?_)
            refine lv_goto (tgt := 12) hx hb dX3_pass_48 (by decide) ?_
            cases hf
            exact ih (x11, r10) _ _ _ G (lv_sub hl [1, 2, 0] rfl) hoL2
  exact LL2 nL2 ((0 : Int32), SC1) _ _ _ G (lv_sub hl [1, 2, 0] rfl) hitL2
theorem mk_X3_pass : MV yX3_pass cX3_pass 3 none 1 := ⟨co_X3_pass, in_X3, im_X3_pass, se_X3_pass, by decide +kernel, by decide +kernel⟩
noncomputable def FX3_letGo (SC : ScT) (PL : PlT) (v2 : Int32) : Option (ScT) :=
  ix v2 8 <|
  (FX1_kindAt PL v2 (Sc_place SC (Int32.toNatClampNeg v2))).bind fun r2 =>
  if r2 = (1 : Int32) then (
    ix v2 8 <|
    (FX1_numberAt PL v2 (Sc_place SC (Int32.toNatClampNeg v2))).bind fun r6 =>
    (FX9_set 6 (Sc_holders SC) r6 v2).bind fun r7 =>
    nm (sSc_holders SC r7) fun SC8 =>
    (FX3_finish SC8 PL v2 r2).bind fun r9 =>
    some r9
  ) else (
    (FX3_finish SC PL v2 r2).bind fun r4 =>
    some r4
  )
set_option maxHeartbeats 4000000 in
set_option maxRecDepth 100000 in
theorem ctX3_letGo {l : Launch} {D : va_G} {k : Nat → ClassId} {Z : ZT} (hZ : ZOK Z) (ot : Nat) (o1 : Nat) (aSC : Nat → Nat) (aPL : Nat → Nat) {SC : ScT} {PL : PlT} {v2 : Int32} {q : ScT} (hf : FX3_letGo SC PL v2 = some q) :
    CM l D k Z yX3_letGo cX3_letGo 4 none 2 44 [.ref ot, .ref o1, .int v2] none (kSc k ot aSC (SC) ++ (kPl k o1 aPL (PL))) (kSc k ot aSC (q) ++ (kPl k o1 aPL (PL))) := by
  refine CM.start hZ (by decide) (Nat.le_of_ble_eq_true rfl) ?_
  intro p e s m below meth c ls X hl G
  have hx := X.1
  have hb := X.2.1
  have hl : lv_has ls 4 [(0, .ref ot), (1, .ref o1), (2, .int v2)] := hl
  unfold FX3_letGo at hf
  refine lv_aload_n hx hb dX3_letGo_0 rfl (lv_at hl 1 rfl) ?_
  refine lv_iload_n hx hb dX3_letGo_1 rfl (lv_at hl 2 rfl) ?_
  refine lv_aload_n hx hb dX3_letGo_2 rfl (lv_at hl 0 rfl) ?_
  refine r_get X inw_X3 G 0 rfl rfl 3 (by decide) fl_X3_21 (v := .ref (aSC 0)) rfl dX3_letGo_3 ?_
  refine lv_iload_n hx hb dX3_letGo_6 rfl (lv_at hl 2 rfl) ?_
  obtain ⟨h1, hf⟩ := ix_some hf
  refine r_iald X G 1 rfl h1 dX3_letGo_7 ?_
  obtain ⟨r2, hcr2, hf⟩ := bd_some hf
  refine p_R (st1 := [.int r2]) (run_V (rest := []) X (ctX1_kindAt hZ o1 aPL hcr2) mk_X1_kindAt ml_X3_71 ⟨(Nat.le_of_ble_eq_true rfl), (Nat.le_of_ble_eq_true rfl)⟩ G [9, 10, 11, 12, 13, 14] rfl rfl 9 rfl rfl rfl hl.1 rfl (Nat.le_of_ble_eq_true rfl) dX3_letGo_8 ⟨Nat.zero_le _, Nat.zero_le _⟩) rfl ?_
  refine lv_istore_n (lv' := [(3, .int r2), (0, .ref ot), (1, .ref o1), (2, .int v2)]) hx hb dX3_letGo_11 rfl hl (by decide) rfl (fun ls hl => ?_)
  refine lv_iload_n hx hb dX3_letGo_12 rfl (lv_at hl 0 rfl) ?_
  refine lv_iconst (v := 1) hx hb dX3_letGo_13 (by decide) ?_
  refine lv_icmp_ne (tgt := 36) hx hb dX3_letGo_14 (by decide) (fun c3 => ?_) (fun c3 => ?_)
  · replace hf := if_f hf c3
    refine lv_aload_n hx hb dX3_letGo_36 rfl (lv_at hl 1 rfl) ?_
    refine lv_aload_n hx hb dX3_letGo_37 rfl (lv_at hl 2 rfl) ?_
    refine lv_iload_n hx hb dX3_letGo_38 rfl (lv_at hl 3 rfl) ?_
    refine lv_iload_n hx hb dX3_letGo_39 rfl (lv_at hl 0 rfl) ?_
    obtain ⟨r4, hcr4, hf⟩ := bd_some hf
    refine p_N (st1 := []) (wr := []) (ws' := kSc k ot aSC (r4) ++ (kPl k o1 aPL (PL))) (run_V (rest := []) X (ctX3_finish hZ ot o1 aSC aPL hcr4) mk_X3_finish ml_X3_100 ⟨(Nat.le_of_ble_eq_true rfl), (Nat.le_of_ble_eq_true rfl)⟩ G [0, 1, 2, 3, 4, 5, 6, 7, 8, 9, 10, 11, 12, 13, 14] rfl rfl 0 rfl rfl rfl hl.1 rfl (Nat.le_of_ble_eq_true rfl) dX3_letGo_40 ⟨Nat.zero_le _, Nat.zero_le _⟩) rfl G [0, 1, 2, 3, 4, 5, 6, 7, 8, 9, 10, 11, 12, 13, 14] [] 15 rfl rfl rfl rfl rfl (by decide) (by decide) rfl (fun H locs G => ?_)
    cases hf
    exact e_mv X G dX3_letGo_43
  · replace hf := if_t hf c3
    refine lv_aload_n hx hb dX3_letGo_17 rfl (lv_at hl 1 rfl) ?_
    refine r_get X inw_X3 G 0 rfl rfl 8 (by decide) fl_X3_37 (v := .ref (aSC 5)) rfl dX3_letGo_18 ?_
    refine lv_aload_n hx hb dX3_letGo_21 rfl (lv_at hl 2 rfl) ?_
    refine lv_iload_n hx hb dX3_letGo_22 rfl (lv_at hl 3 rfl) ?_
    refine lv_aload_n hx hb dX3_letGo_23 rfl (lv_at hl 1 rfl) ?_
    refine r_get X inw_X3 G 0 rfl rfl 3 (by decide) fl_X3_21 (v := .ref (aSC 0)) rfl dX3_letGo_24 ?_
    refine lv_iload_n hx hb dX3_letGo_27 rfl (lv_at hl 3 rfl) ?_
    obtain ⟨h5, hf⟩ := ix_some hf
    refine r_iald X G 1 rfl h5 dX3_letGo_28 ?_
    obtain ⟨r6, hcr6, hf⟩ := bd_some hf
    refine p_R (st1 := [.int r6, .ref (aSC 5)]) (run_V (rest := [.ref (aSC 5)]) X (ctX1_numberAt hZ o1 aPL hcr6) mk_X1_numberAt ml_X3_67 ⟨(Nat.le_of_ble_eq_true rfl), (Nat.le_of_ble_eq_true rfl)⟩ G [9, 10, 11, 12, 13, 14] rfl rfl 9 rfl rfl rfl hl.1 rfl (Nat.le_of_ble_eq_true rfl) dX3_letGo_29 ⟨Nat.zero_le _, Nat.zero_le _⟩) rfl ?_
    refine lv_iload_n hx hb dX3_letGo_32 rfl (lv_at hl 3 rfl) ?_
    obtain ⟨r7, hcr7, hf⟩ := bd_some hf
    obtain ⟨SC8, eSC8, hf⟩ := nm_some hf
    refine p_N (st1 := []) (wr := [(ot, .inr (3, [.int (Sc_tick SC), .int (Sc_window SC), .int (Sc_grace SC), .ref (aSC 0), .ref (aSC 1), .ref (aSC 2), .ref (aSC 3), .ref (aSC 4), .ref (aSC 5), .ref (aSC 6), .ref (aSC 7)])), (aSC 0, .inl (k 0, 8, .inl (Sc_place SC))), (aSC 1, .inl (k 0, 8, .inl (Sc_ticked SC))), (aSC 2, .inl (k 0, 8, .inl (Sc_beat SC))), (aSC 3, .inl (k 0, 8, .inl (Sc_steps SC))), (aSC 4, .inl (k 0, 8, .inl (Sc_marks SC))), (aSC 6, .inl (k 0, 4, .inl (Sc_lies SC))), (aSC 7, .inl (k 0, 64, .inl (Sc_mail SC)))] ++ (kPl k o1 aPL (PL))) (ws' := kSc k ot aSC (SC8) ++ (kPl k o1 aPL (PL))) (run_N (rest := []) X (ctX9_set hZ (aSC 5) hcr7) mk_X9_set mn_X3_93 ⟨(Nat.le_of_ble_eq_true rfl), (Nat.le_of_ble_eq_true rfl)⟩ G [6] rfl rfl rfl hl.1 rfl (Nat.le_of_ble_eq_true rfl) dX3_letGo_33 ⟨Nat.zero_le _, Nat.zero_le _⟩) rfl G [6] [0, 1, 2, 3, 4, 5, 7, 8, 9, 10, 11, 12, 13, 14] 15 rfl (by subst eSC8; rfl) rfl (by subst eSC8; rfl) rfl (by decide) (by decide) rfl (fun H locs G => ?_)
    refine lv_aload_n hx hb dX3_letGo_36 rfl (lv_at hl 1 rfl) ?_
    refine lv_aload_n hx hb dX3_letGo_37 rfl (lv_at hl 2 rfl) ?_
    refine lv_iload_n hx hb dX3_letGo_38 rfl (lv_at hl 3 rfl) ?_
    refine lv_iload_n hx hb dX3_letGo_39 rfl (lv_at hl 0 rfl) ?_
    obtain ⟨r9, hcr9, hf⟩ := bd_some hf
    refine p_N (st1 := []) (wr := []) (ws' := kSc k ot aSC (r9) ++ (kPl k o1 aPL (PL))) (run_V (rest := []) X (ctX3_finish hZ ot o1 aSC aPL hcr9) mk_X3_finish ml_X3_100 ⟨(Nat.le_of_ble_eq_true rfl), (Nat.le_of_ble_eq_true rfl)⟩ G [0, 1, 2, 3, 4, 5, 6, 7, 8, 9, 10, 11, 12, 13, 14] rfl rfl 0 rfl rfl rfl hl.1 rfl (Nat.le_of_ble_eq_true rfl) dX3_letGo_40 ⟨Nat.zero_le _, Nat.zero_le _⟩) rfl G [0, 1, 2, 3, 4, 5, 6, 7, 8, 9, 10, 11, 12, 13, 14] [] 15 rfl rfl rfl rfl rfl (by decide) (by decide) rfl (fun H locs G => ?_)
    cases hf
    exact e_mv X G dX3_letGo_43
theorem mk_X3_letGo : MV yX3_letGo cX3_letGo 4 none 2 := ⟨co_X3_letGo, in_X3, im_X3_letGo, se_X3_letGo, by decide +kernel, by decide +kernel⟩
noncomputable def FX3_mark (SC : ScT) (v1 : Int32) (v2 : Int32) : Option (Bool × ScT) :=
  ix v1 8 <|
  if (((Sc_marks SC (Int32.toNatClampNeg v1)) >>> (v2 &&& 31)) &&& (1 : Int32)) = (1 : Int32) then (
    some (false, SC)
  ) else (
    ix v1 8 <|
    ix v1 8 <|
    nm (sSc_marks SC (upd (Sc_marks SC) (Int32.toNatClampNeg v1) ((Sc_marks SC (Int32.toNatClampNeg v1)) ||| ((1 : Int32) <<< (v2 &&& 31))))) fun SC5 =>
    some (true, SC5)
  )
set_option maxHeartbeats 4000000 in
set_option maxRecDepth 100000 in
theorem ctX3_mark {l : Launch} {D : va_G} {k : Nat → ClassId} {Z : ZT} (hZ : ZOK Z) (ot : Nat) (aSC : Nat → Nat) {SC : ScT} {v1 : Int32} {v2 : Int32} {q : Bool × ScT} (hf : FX3_mark SC v1 v2 = some q) :
    CM l D k Z yX3_mark cX3_mark 3 (some .boolean) 0 0 [.ref ot, .int v1, .int v2] (some (.int (bI q.1))) (kSc k ot aSC (SC)) (kSc k ot aSC (q.2)) := by
  refine CM.start hZ (by decide) (Nat.le_of_ble_eq_true rfl) ?_
  intro p e s m below meth c ls X hl G
  have hx := X.1
  have hb := X.2.1
  have hl : lv_has ls 3 [(0, .ref ot), (1, .int v1), (2, .int v2)] := hl
  unfold FX3_mark at hf
  refine lv_aload_n hx hb dX3_mark_0 rfl (lv_at hl 0 rfl) ?_
  refine r_get X inw_X3 G 0 rfl rfl 7 (by decide) fl_X3_34 (v := .ref (aSC 4)) rfl dX3_mark_1 ?_
  refine lv_iload_n hx hb dX3_mark_4 rfl (lv_at hl 1 rfl) ?_
  obtain ⟨h1, hf⟩ := ix_some hf
  refine r_iald X G 5 rfl h1 dX3_mark_5 ?_
  refine lv_iload_n hx hb dX3_mark_6 rfl (lv_at hl 2 rfl) ?_
  refine lv_ishr hx hb dX3_mark_7 ?_
  refine lv_iconst (v := 1) hx hb dX3_mark_8 (by decide) ?_
  refine lv_iand hx hb dX3_mark_9 ?_
  refine lv_iconst (v := 1) hx hb dX3_mark_10 (by decide) ?_
  refine lv_icmp_ne (tgt := 16) hx hb dX3_mark_11 (by decide) (fun c2 => ?_) (fun c2 => ?_)
  · replace hf := if_f hf c2
    refine lv_aload_n hx hb dX3_mark_16 rfl (lv_at hl 0 rfl) ?_
    refine r_get X inw_X3 G 0 rfl rfl 7 (by decide) fl_X3_34 (v := .ref (aSC 4)) rfl dX3_mark_17 ?_
    refine lv_iload_n hx hb dX3_mark_20 rfl (lv_at hl 1 rfl) ?_
    refine lv_dup2_11 hx hb dX3_mark_21 rfl rfl ?_
    obtain ⟨h3, hf⟩ := ix_some hf
    refine r_iald X G 5 rfl h3 dX3_mark_22 ?_
    refine lv_iconst (v := 1) hx hb dX3_mark_23 (by decide) ?_
    refine lv_iload_n hx hb dX3_mark_24 rfl (lv_at hl 2 rfl) ?_
    refine lv_ishl hx hb dX3_mark_25 ?_
    refine lv_ior hx hb dX3_mark_26 ?_
    obtain ⟨h4, hf⟩ := ix_some hf
    obtain ⟨SC5, eSC5, hf⟩ := nm_some hf
    refine r_iast X G 5 rfl h4 (ws' := kSc k ot aSC (SC5)) (by subst eSC5; rfl) dX3_mark_27 (fun H locs G => ?_)
    refine lv_iconst (v := 1) hx hb dX3_mark_28 (by decide) ?_
    cases hf
    exact e_mz _ rfl X G dX3_mark_29
  · replace hf := if_t hf c2
    refine lv_iconst (v := 0) hx hb dX3_mark_14 (by decide) ?_
    cases hf
    exact e_mz _ rfl X G dX3_mark_15
theorem mk_X3_mark : MV yX3_mark cX3_mark 3 (some .boolean) 2 := ⟨co_X3_mark, in_X3, im_X3_mark, se_X3_mark, by decide +kernel, by decide +kernel⟩
