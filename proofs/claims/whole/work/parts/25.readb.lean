noncomputable def FX2_takeNumber_j39 (PL : PlT) (vJ2 : RdT) : Option (Int32 × RdT × PlT) :=
  nm (Rd_word vJ2) fun x3 =>
  if x3 = (10 : Int32) then (
    nm (sPl_window PL (Rd_value vJ2)) fun PL5 =>
    some ((3 : Int32), vJ2, PL5)
  ) else (
  if x3 = (11 : Int32) then (
    nm (sPl_grace PL (Rd_value vJ2)) fun PL7 =>
    some ((3 : Int32), vJ2, PL7)
  ) else (
  if x3 = (12 : Int32) then (
    nm (sRd_pipeTold vJ2 (Rd_value vJ2)) fun RD9 =>
    nm (sRd_word RD9 (14 : Int32)) fun RD10 =>
    some ((2 : Int32), RD10, PL)
  ) else (
  if x3 = (14 : Int32) then (
    (FX9_set 4 (Pl_rooms PL) (Rd_pipeTold vJ2) (Rd_value vJ2)).bind fun r12 =>
    nm (sPl_rooms PL r12) fun PL13 =>
    some ((3 : Int32), vJ2, PL13)
  ) else (
    (FX9_set 96 (Pl_numbers PL) (Rd_cell vJ2) (Rd_value vJ2)).bind fun r14 =>
    nm (sPl_numbers PL r14) fun PL15 =>
    (FX9_set 96 (Rd_spots vJ2) (Rd_cell vJ2) (Rd_start vJ2)).bind fun r16 =>
    nm (sRd_spots vJ2 r16) fun RD17 =>
    some ((4 : Int32), RD17, PL15)
  ))))
noncomputable def FX2_takeNumber (RD : RdT) (PL : PlT) : Option (Int32 × RdT × PlT) :=
  (FX9_at 15 LEf (Rd_word RD)).bind fun r1 =>
  if (Rd_value RD) < r1 then (
    (FX2_note RD (2 : Int32)).bind fun r19 =>
    FX2_takeNumber_j39 PL r19
  ) else (
    (FX9_at 15 MOf (Rd_word RD)).bind fun r20 =>
    if (Rd_value RD) ≤ r20 then (
      FX2_takeNumber_j39 PL RD
    ) else (
      (FX2_note RD (2 : Int32)).bind fun r22 =>
      FX2_takeNumber_j39 PL r22
    )
  )
set_option maxHeartbeats 4000000 in
set_option maxRecDepth 100000 in
theorem ctX2_takeNumber {l : Launch} {D : va_G} {k : Nat → ClassId} (t : Nat → Nat) (ot : Nat) (aRD : Nat → Nat) (aPL : Nat → Nat) {RD : RdT} {PL : PlT} {q : Int32 × RdT × PlT} (hf : FX2_takeNumber RD PL = some q) :
    CM l D k (SZ t) yX2_takeNumber cX2_takeNumber 1 (some .int) 1 22 [.ref ot] (some (.int q.1)) (kRd k ot aRD (RD) ++ (kPl k (aRD 0) aPL (PL))) (kRd k ot aRD (q.2.1) ++ (kPl k (aRD 0) aPL (q.2.2))) := by
  refine CM.start (SZ_ok t) (by decide) (Nat.le_of_ble_eq_true rfl) ?_
  intro p e s m below meth c ls X hl G
  have hx := X.1
  have hb := X.2.1
  have hz := X.2.2.2.2.2.2.2.2.1
  have hl : lv_has ls 1 [(0, .ref ot)] := hl
  unfold FX2_takeNumber at hf
  refine lv_aload_n hx hb dX2_takeNumber_0 rfl (lv_at hl 0 rfl) ?_
  refine r_get X inw_X2 G 0 rfl rfl 6 (by decide) fl_X2_35 (v := .int (Rd_value RD)) rfl dX2_takeNumber_1 ?_
  refine r_gets X G hz.1.1 sf_X2_105 dX2_takeNumber_4 ?_
  refine lv_aload_n hx hb dX2_takeNumber_7 rfl (lv_at hl 0 rfl) ?_
  refine r_get X inw_X2 G 0 rfl rfl 8 (by decide) fl_X2_41 (v := .int (Rd_word RD)) rfl dX2_takeNumber_8 ?_
  obtain ⟨r1, hcr1, hf⟩ := bd_some hf
  refine p_R (st1 := [.int r1, .int (Rd_value RD)]) (run_N (rest := [.int (Rd_value RD)]) X (ctX9_at_T (SZ_ok t) (fun _ _ h => h.1.2) hcr1) mk_X9_at mn_X2_80 ⟨(Nat.le_of_ble_eq_true rfl), (Nat.le_of_ble_eq_true rfl)⟩ G [] rfl rfl rfl hl.1 rfl (Nat.le_of_ble_eq_true rfl) dX2_takeNumber_11 ⟨Nat.zero_le _, Nat.zero_le _⟩) rfl ?_
  have JJ2 : ∀ (vJ2 : RdT) (H : Heap) (locs : List Loc) (ls : Array Slot), Wo D (wA (kRd k ot aRD (RD) ++ (kPl k (aRD 0) aPL (PL)))) s.heap (kRd k ot aRD (vJ2) ++ (kPl k (aRD 0) aPL (PL))) H locs → lv_has ls 1 [(0, .ref ot)] → FX2_takeNumber_j39 PL vJ2 = some q → W p l e (rmz 1 22) s m [.ref ot].toArray below meth c H locs 0 0 (MQ below (Qm D (some (.int q.1)) (kRd k ot aRD (RD) ++ (kPl k (aRD 0) aPL (PL))) (kRd k ot aRD (q.2.1) ++ (kPl k (aRD 0) aPL (q.2.2)))) [.ref ot].toArray s 0 0 (wA (kRd k ot aRD (RD) ++ (kPl k (aRD 0) aPL (PL))))) (F0 m 39 ls []) := by
    intro vJ2 H locs ls G hl hf
    unfold FX2_takeNumber_j39 at hf
    refine lv_aload_n hx hb dX2_takeNumber_39 rfl (lv_at hl 0 rfl) ?_
    refine r_get X inw_X2 G 0 rfl rfl 8 (by decide) fl_X2_41 (v := .int (Rd_word vJ2)) rfl dX2_takeNumber_40 ?_
    obtain ⟨x3, ex3, hf⟩ := nm_some hf
    refine r_top (congrArg Value.int ex3) ?_
    by_cases c4 : x3 = (10 : Int32)
    · replace hf := if_t hf c4
      refine r_tsw X (tgt := 76) dX2_takeNumber_43 (by rw [c4]; decide +kernel) (by rw [c4]; decide +kernel) ?_
      refine lv_aload_n hx hb dX2_takeNumber_76 rfl (lv_at hl 0 rfl) ?_
      refine r_get X inw_X2 G 0 rfl rfl 0 (by decide) fl_X2_12 (v := .ref (aRD 0)) rfl dX2_takeNumber_77 ?_
      refine lv_aload_n hx hb dX2_takeNumber_80 rfl (lv_at hl 0 rfl) ?_
      refine r_get X inw_X2 G 0 rfl rfl 6 (by decide) fl_X2_35 (v := .int (Rd_value vJ2)) rfl dX2_takeNumber_81 ?_
      obtain ⟨PL5, ePL5, hf⟩ := nm_some hf
      refine r_put X inw_X1 tyX1 tyX1_ok nmX1 G 2 rfl rfl 1 (by decide) fl_X2_111 rfl rfl rfl (Nat.le_of_ble_eq_true rfl) (ws' := kRd k ot aRD (vJ2) ++ (kPl k (aRD 0) aPL (PL5))) (by subst ePL5; rfl) dX2_takeNumber_84 (fun H locs G => ?_)
      refine lv_iconst (v := 3) hx hb dX2_takeNumber_87 (by decide) ?_
      cases hf
      exact e_mi X G dX2_takeNumber_88
    replace hf := if_f hf c4
    by_cases c6 : x3 = (11 : Int32)
    · replace hf := if_t hf c6
      refine r_tsw X (tgt := 89) dX2_takeNumber_43 (by rw [c6]; decide +kernel) (by rw [c6]; decide +kernel) ?_
      refine lv_aload_n hx hb dX2_takeNumber_89 rfl (lv_at hl 0 rfl) ?_
      refine r_get X inw_X2 G 0 rfl rfl 0 (by decide) fl_X2_12 (v := .ref (aRD 0)) rfl dX2_takeNumber_90 ?_
      refine lv_aload_n hx hb dX2_takeNumber_93 rfl (lv_at hl 0 rfl) ?_
      refine r_get X inw_X2 G 0 rfl rfl 6 (by decide) fl_X2_35 (v := .int (Rd_value vJ2)) rfl dX2_takeNumber_94 ?_
      obtain ⟨PL7, ePL7, hf⟩ := nm_some hf
      refine r_put X inw_X1 tyX1 tyX1_ok nmX1 G 2 rfl rfl 2 (by decide) fl_X2_114 rfl rfl rfl (Nat.le_of_ble_eq_true rfl) (ws' := kRd k ot aRD (vJ2) ++ (kPl k (aRD 0) aPL (PL7))) (by subst ePL7; rfl) dX2_takeNumber_97 (fun H locs G => ?_)
      refine lv_iconst (v := 3) hx hb dX2_takeNumber_100 (by decide) ?_
      cases hf
      exact e_mi X G dX2_takeNumber_101
    replace hf := if_f hf c6
    by_cases c8 : x3 = (12 : Int32)
    · replace hf := if_t hf c8
      refine r_tsw X (tgt := 102) dX2_takeNumber_43 (by rw [c8]; decide +kernel) (by rw [c8]; decide +kernel) ?_
      refine lv_aload_n hx hb dX2_takeNumber_102 rfl (lv_at hl 0 rfl) ?_
      refine lv_aload_n hx hb dX2_takeNumber_103 rfl (lv_at hl 0 rfl) ?_
      refine r_get X inw_X2 G 0 rfl rfl 6 (by decide) fl_X2_35 (v := .int (Rd_value vJ2)) rfl dX2_takeNumber_104 ?_
      obtain ⟨RD9, eRD9, hf⟩ := nm_some hf
      refine r_put X inw_X2 tyX2 tyX2_ok nmX2 G 0 rfl rfl 10 (by decide) fl_X2_47 rfl rfl rfl (Nat.le_of_ble_eq_true rfl) (ws' := kRd k ot aRD (RD9) ++ (kPl k (aRD 0) aPL (PL))) (by subst eRD9; rfl) dX2_takeNumber_107 (fun H locs G => ?_)
      refine lv_aload_n hx hb dX2_takeNumber_110 rfl (lv_at hl 0 rfl) ?_
      refine lv_bipush (v := 14) hx hb dX2_takeNumber_111 (by decide) ?_
      obtain ⟨RD10, eRD10, hf⟩ := nm_some hf
      refine r_put X inw_X2 tyX2 tyX2_ok nmX2 G 0 rfl rfl 8 (by decide) fl_X2_41 rfl rfl rfl (Nat.le_of_ble_eq_true rfl) (ws' := kRd k ot aRD (RD10) ++ (kPl k (aRD 0) aPL (PL))) (by subst eRD10; rfl) dX2_takeNumber_113 (fun H locs G => ?_)
      refine lv_iconst (v := 2) hx hb dX2_takeNumber_116 (by decide) ?_
      cases hf
      exact e_mi X G dX2_takeNumber_117
    replace hf := if_f hf c8
    by_cases c11 : x3 = (14 : Int32)
    · replace hf := if_t hf c11
      refine r_tsw X (tgt := 118) dX2_takeNumber_43 (by rw [c11]; decide +kernel) (by rw [c11]; decide +kernel) ?_
      refine lv_aload_n hx hb dX2_takeNumber_118 rfl (lv_at hl 0 rfl) ?_
      refine r_get X inw_X2 G 0 rfl rfl 0 (by decide) fl_X2_12 (v := .ref (aRD 0)) rfl dX2_takeNumber_119 ?_
      refine r_get X inw_X1 G 2 rfl rfl 7 (by decide) fl_X2_117 (v := .ref (aPL 4)) rfl dX2_takeNumber_122 ?_
      refine lv_aload_n hx hb dX2_takeNumber_125 rfl (lv_at hl 0 rfl) ?_
      refine r_get X inw_X2 G 0 rfl rfl 10 (by decide) fl_X2_47 (v := .int (Rd_pipeTold vJ2)) rfl dX2_takeNumber_126 ?_
      refine lv_aload_n hx hb dX2_takeNumber_129 rfl (lv_at hl 0 rfl) ?_
      refine r_get X inw_X2 G 0 rfl rfl 6 (by decide) fl_X2_35 (v := .int (Rd_value vJ2)) rfl dX2_takeNumber_130 ?_
      obtain ⟨r12, hcr12, hf⟩ := bd_some hf
      obtain ⟨PL13, ePL13, hf⟩ := nm_some hf
      refine p_N (st1 := []) (wr := kRd k ot aRD (vJ2) ++ ([((aRD 0), .inr (1, [.int (Pl_workers PL), .int (Pl_window PL), .int (Pl_grace PL), .ref (aPL 0), .ref (aPL 1), .ref (aPL 2), .ref (aPL 3), .ref (aPL 4)])), (aPL 0, .inl (k 0, 8, .inl (Pl_lengths PL))), (aPL 1, .inl (k 0, 96, .inl (Pl_kinds PL))), (aPL 2, .inl (k 0, 96, .inl (Pl_numbers PL))), (aPL 3, .inl (k 0, 96, .inl (Pl_reach PL)))])) (ws' := kRd k ot aRD (vJ2) ++ (kPl k (aRD 0) aPL (PL13))) (run_N (rest := []) X (ctX9_set (SZ_ok t) (aPL 4) hcr12) mk_X9_set mn_X2_120 ⟨(Nat.le_of_ble_eq_true rfl), (Nat.le_of_ble_eq_true rfl)⟩ G [7] rfl rfl rfl hl.1 rfl (Nat.le_of_ble_eq_true rfl) dX2_takeNumber_133 ⟨Nat.zero_le _, Nat.zero_le _⟩) rfl G [7] [0, 1, 2, 3, 4, 5, 6] 8 rfl (by subst ePL13; rfl) rfl (by subst ePL13; rfl) rfl (by decide) (by decide) rfl (fun H locs G => ?_)
      refine lv_iconst (v := 3) hx hb dX2_takeNumber_136 (by decide) ?_
      cases hf
      exact e_mi X G dX2_takeNumber_137
    replace hf := if_f hf c11
    have hd := tsw_d (x := x3) (lo' := 10) (hi' := 14) (dflt := 95) (offs := #[33, 46, 59, 95, 75]) [(10 : Int32), (11 : Int32), (12 : Int32), (14 : Int32)] (by
        intro k hk
        simp only [List.mem_cons, List.not_mem_nil, or_false] at hk
        rcases hk with rfl | rfl | rfl | rfl
        · exact c4
        · exact c6
        · exact c8
        · exact c11
        ) 4 (by decide) (by decide +kernel)
    refine r_tsw X (tgt := 138) dX2_takeNumber_43 (by rw [hd.1]; rfl) hd.2 ?_
    refine lv_aload_n hx hb dX2_takeNumber_138 rfl (lv_at hl 0 rfl) ?_
    refine r_get X inw_X2 G 0 rfl rfl 0 (by decide) fl_X2_12 (v := .ref (aRD 0)) rfl dX2_takeNumber_139 ?_
    refine r_get X inw_X1 G 2 rfl rfl 5 (by decide) fl_X2_124 (v := .ref (aPL 2)) rfl dX2_takeNumber_142 ?_
    refine lv_aload_n hx hb dX2_takeNumber_145 rfl (lv_at hl 0 rfl) ?_
    refine r_get X inw_X2 G 0 rfl rfl 9 (by decide) fl_X2_44 (v := .int (Rd_cell vJ2)) rfl dX2_takeNumber_146 ?_
    refine lv_aload_n hx hb dX2_takeNumber_149 rfl (lv_at hl 0 rfl) ?_
    refine r_get X inw_X2 G 0 rfl rfl 6 (by decide) fl_X2_35 (v := .int (Rd_value vJ2)) rfl dX2_takeNumber_150 ?_
    obtain ⟨r14, hcr14, hf⟩ := bd_some hf
    obtain ⟨PL15, ePL15, hf⟩ := nm_some hf
    refine p_N (st1 := []) (wr := kRd k ot aRD (vJ2) ++ ([((aRD 0), .inr (1, [.int (Pl_workers PL), .int (Pl_window PL), .int (Pl_grace PL), .ref (aPL 0), .ref (aPL 1), .ref (aPL 2), .ref (aPL 3), .ref (aPL 4)])), (aPL 0, .inl (k 0, 8, .inl (Pl_lengths PL))), (aPL 1, .inl (k 0, 96, .inl (Pl_kinds PL))), (aPL 3, .inl (k 0, 96, .inl (Pl_reach PL))), (aPL 4, .inl (k 0, 4, .inl (Pl_rooms PL)))])) (ws' := kRd k ot aRD (vJ2) ++ (kPl k (aRD 0) aPL (PL15))) (run_N (rest := []) X (ctX9_set (SZ_ok t) (aPL 2) hcr14) mk_X9_set mn_X2_120 ⟨(Nat.le_of_ble_eq_true rfl), (Nat.le_of_ble_eq_true rfl)⟩ G [5] rfl rfl rfl hl.1 rfl (Nat.le_of_ble_eq_true rfl) dX2_takeNumber_153 ⟨Nat.zero_le _, Nat.zero_le _⟩) rfl G [5] [0, 1, 2, 3, 4, 6, 7] 8 rfl (by subst ePL15; rfl) rfl (by subst ePL15; rfl) rfl (by decide) (by decide) rfl (fun H locs G => ?_)
    refine lv_aload_n hx hb dX2_takeNumber_156 rfl (lv_at hl 0 rfl) ?_
    refine r_get X inw_X2 G 0 rfl rfl 1 (by decide) fl_X2_18 (v := .ref (aRD 1)) rfl dX2_takeNumber_157 ?_
    refine lv_aload_n hx hb dX2_takeNumber_160 rfl (lv_at hl 0 rfl) ?_
    refine r_get X inw_X2 G 0 rfl rfl 9 (by decide) fl_X2_44 (v := .int (Rd_cell vJ2)) rfl dX2_takeNumber_161 ?_
    refine lv_aload_n hx hb dX2_takeNumber_164 rfl (lv_at hl 0 rfl) ?_
    refine r_get X inw_X2 G 0 rfl rfl 5 (by decide) fl_X2_32 (v := .int (Rd_start vJ2)) rfl dX2_takeNumber_165 ?_
    obtain ⟨r16, hcr16, hf⟩ := bd_some hf
    obtain ⟨RD17, eRD17, hf⟩ := nm_some hf
    refine p_N (st1 := []) (wr := [(ot, .inr (2, [.ref (aRD 0), .ref (aRD 1), .int (Rd_fault vJ2), .int (Rd_spot vJ2), .int (Rd_token vJ2), .int (Rd_start vJ2), .int (Rd_value vJ2), .int (Rd_next vJ2), .int (Rd_word vJ2), .int (Rd_cell vJ2), .int (Rd_pipeTold vJ2)]))] ++ (kPl k (aRD 0) aPL (PL15))) (ws' := kRd k ot aRD (RD17) ++ (kPl k (aRD 0) aPL (PL15))) (run_N (rest := []) X (ctX9_set (SZ_ok t) (aRD 1) hcr16) mk_X9_set mn_X2_120 ⟨(Nat.le_of_ble_eq_true rfl), (Nat.le_of_ble_eq_true rfl)⟩ G [1] rfl rfl rfl hl.1 rfl (Nat.le_of_ble_eq_true rfl) dX2_takeNumber_168 ⟨Nat.zero_le _, Nat.zero_le _⟩) rfl G [1] [0, 2, 3, 4, 5, 6, 7] 8 rfl (by subst eRD17; rfl) rfl (by subst eRD17; rfl) rfl (by decide) (by decide) rfl (fun H locs G => ?_)
    refine lv_iconst (v := 4) hx hb dX2_takeNumber_171 (by decide) ?_
    cases hf
    exact e_mi X G dX2_takeNumber_172
  refine lv_icmp_lt (tgt := 34) hx hb dX2_takeNumber_14 (by decide) (fun c18 => ?_) (fun c18 => ?_)
  · replace hf := if_t hf c18
    refine lv_aload_n hx hb dX2_takeNumber_34 rfl (lv_at hl 0 rfl) ?_
    refine lv_iconst (v := 2) hx hb dX2_takeNumber_35 (by decide) ?_
    obtain ⟨r19, hcr19, hf⟩ := bd_some hf
    refine p_N (st1 := []) (wr := kPl k (aRD 0) aPL (PL)) (ws' := kRd k ot aRD (r19) ++ (kPl k (aRD 0) aPL (PL))) (run_V (rest := []) X (ctX2_note (SZ_ok t) ot aRD hcr19) mk_X2_note ml_X2_98 ⟨(Nat.le_of_ble_eq_true rfl), (Nat.le_of_ble_eq_true rfl)⟩ G [0, 1] rfl rfl 0 rfl rfl rfl hl.1 rfl (Nat.le_of_ble_eq_true rfl) dX2_takeNumber_36 ⟨Nat.zero_le _, Nat.zero_le _⟩) rfl G [0, 1] [2, 3, 4, 5, 6, 7] 8 rfl rfl rfl rfl rfl (by decide) (by decide) rfl (fun H locs G => ?_)
    exact JJ2 r19 _ _ _ G (lv_sub hl [0] rfl) hf
  · replace hf := if_f hf c18
    refine lv_aload_n hx hb dX2_takeNumber_17 rfl (lv_at hl 0 rfl) ?_
    refine r_get X inw_X2 G 0 rfl rfl 6 (by decide) fl_X2_35 (v := .int (Rd_value RD)) rfl dX2_takeNumber_18 ?_
    refine r_gets X G hz.2.1.1 sf_X2_108 dX2_takeNumber_21 ?_
    refine lv_aload_n hx hb dX2_takeNumber_24 rfl (lv_at hl 0 rfl) ?_
    refine r_get X inw_X2 G 0 rfl rfl 8 (by decide) fl_X2_41 (v := .int (Rd_word RD)) rfl dX2_takeNumber_25 ?_
    obtain ⟨r20, hcr20, hf⟩ := bd_some hf
    refine p_R (st1 := [.int r20, .int (Rd_value RD)]) (run_N (rest := [.int (Rd_value RD)]) X (ctX9_at_T (SZ_ok t) (fun _ _ h => h.2.1.2) hcr20) mk_X9_at mn_X2_80 ⟨(Nat.le_of_ble_eq_true rfl), (Nat.le_of_ble_eq_true rfl)⟩ G [] rfl rfl rfl hl.1 rfl (Nat.le_of_ble_eq_true rfl) dX2_takeNumber_28 ⟨Nat.zero_le _, Nat.zero_le _⟩) rfl ?_
    refine lv_icmp_le (tgt := 39) hx hb dX2_takeNumber_31 (by decide) (fun c21 => ?_) (fun c21 => ?_)
    · replace hf := if_t hf c21
      exact JJ2 RD _ _ _ G (lv_sub hl [0] rfl) hf
    · replace hf := if_f hf c21
      refine lv_aload_n hx hb dX2_takeNumber_34 rfl (lv_at hl 0 rfl) ?_
      refine lv_iconst (v := 2) hx hb dX2_takeNumber_35 (by decide) ?_
      obtain ⟨r22, hcr22, hf⟩ := bd_some hf
      refine p_N (st1 := []) (wr := kPl k (aRD 0) aPL (PL)) (ws' := kRd k ot aRD (r22) ++ (kPl k (aRD 0) aPL (PL))) (run_V (rest := []) X (ctX2_note (SZ_ok t) ot aRD hcr22) mk_X2_note ml_X2_98 ⟨(Nat.le_of_ble_eq_true rfl), (Nat.le_of_ble_eq_true rfl)⟩ G [0, 1] rfl rfl 0 rfl rfl rfl hl.1 rfl (Nat.le_of_ble_eq_true rfl) dX2_takeNumber_36 ⟨Nat.zero_le _, Nat.zero_le _⟩) rfl G [0, 1] [2, 3, 4, 5, 6, 7] 8 rfl rfl rfl rfl rfl (by decide) (by decide) rfl (fun H locs G => ?_)
      exact JJ2 r22 _ _ _ G (lv_sub hl [0] rfl) hf
theorem mk_X2_takeNumber : MV yX2_takeNumber cX2_takeNumber 1 (some .int) 0 := ⟨co_X2_takeNumber, in_X2, im_X2_takeNumber, se_X2_takeNumber, by decide +kernel, by decide +kernel⟩
noncomputable def FX2_follow (RD : RdT) (PL : PlT) (v1 : Int32) : Option (Int32 × RdT × PlT) :=
  if v1 = (0 : Int32) then (
    if (Rd_token RD) = (1 : Int32) then (
      (FX2_openLine RD PL).bind fun r3 =>
      some (r3.1, r3.2.1, r3.2.2)
    ) else (
      some ((-1 : Int32), RD, PL)
    )
  ) else (
  if v1 = (1 : Int32) then (
    if (Rd_token RD) = (1 : Int32) then (
      (FX2_openStep RD PL).bind fun r6 =>
      some (r6.1, r6.2.1, r6.2.2)
    ) else (
      some ((-1 : Int32), RD, PL)
    )
  ) else (
  if v1 = (2 : Int32) then (
    if (Rd_token RD) = (2 : Int32) then (
      (FX2_takeNumber RD PL).bind fun r9 =>
      some (r9.1, r9.2.1, r9.2.2)
    ) else (
      some ((-1 : Int32), RD, PL)
    )
  ) else (
  if v1 = (3 : Int32) then (
    if (Rd_token RD) = (3 : Int32) then (
      some ((0 : Int32), RD, PL)
    ) else (
      some ((-1 : Int32), RD, PL)
    )
  ) else (
  if v1 = (4 : Int32) then (
    if (Rd_token RD) = (4 : Int32) then (
      some ((1 : Int32), RD, PL)
    ) else (
      if (Rd_token RD) = (3 : Int32) then (
        some ((0 : Int32), RD, PL)
      ) else (
        some ((-1 : Int32), RD, PL)
      )
    )
  ) else (
    some ((-1 : Int32), RD, PL)
  )))))
set_option maxHeartbeats 4000000 in
set_option maxRecDepth 100000 in
theorem ctX2_follow {l : Launch} {D : va_G} {k : Nat → ClassId} (t : Nat → Nat) (ot : Nat) (aRD : Nat → Nat) (aPL : Nat → Nat) {RD : RdT} {PL : PlT} {v1 : Int32} {q : Int32 × RdT × PlT} (hf : FX2_follow RD PL v1 = some q) :
    CM l D k (SZ t) yX2_follow cX2_follow 2 (some .int) 2 43 [.ref ot, .int v1] (some (.int q.1)) (kRd k ot aRD (RD) ++ (kPl k (aRD 0) aPL (PL))) (kRd k ot aRD (q.2.1) ++ (kPl k (aRD 0) aPL (q.2.2))) := by
  refine CM.start (SZ_ok t) (by decide) (Nat.le_of_ble_eq_true rfl) ?_
  intro p e s m below meth c ls X hl G
  have hx := X.1
  have hb := X.2.1
  have hz := X.2.2.2.2.2.2.2.2.1
  have hl : lv_has ls 2 [(0, .ref ot), (1, .int v1)] := hl
  unfold FX2_follow at hf
  refine lv_iload_n hx hb dX2_follow_0 rfl (lv_at hl 1 rfl) ?_
  by_cases c1 : v1 = (0 : Int32)
  · replace hf := if_t hf c1
    refine r_tsw X (tgt := 36) dX2_follow_1 (by rw [c1]; decide +kernel) (by rw [c1]; decide +kernel) ?_
    refine lv_aload_n hx hb dX2_follow_36 rfl (lv_at hl 0 rfl) ?_
    refine r_get X inw_X2 G 0 rfl rfl 4 (by decide) fl_X2_29 (v := .int (Rd_token RD)) rfl dX2_follow_37 ?_
    refine lv_iconst (v := 1) hx hb dX2_follow_40 (by decide) ?_
    refine lv_icmp_ne (tgt := 51) hx hb dX2_follow_41 (by decide) (fun c2 => ?_) (fun c2 => ?_)
    · replace hf := if_f hf c2
      refine lv_iconst (v := -1) hx hb dX2_follow_51 (by decide) ?_
      cases hf
      exact e_mi X G dX2_follow_52
    · replace hf := if_t hf c2
      refine lv_aload_n hx hb dX2_follow_44 rfl (lv_at hl 0 rfl) ?_
      obtain ⟨r3, hcr3, hf⟩ := bd_some hf
      refine p_N (st1 := [.int (r3.1)]) (wr := []) (ws' := kRd k ot aRD (r3.2.1) ++ (kPl k (aRD 0) aPL (r3.2.2))) (run_V (rest := []) X (ctX2_openLine (SZ_ok t) ot aRD aPL hcr3) mk_X2_openLine ml_X2_84 ⟨(Nat.le_of_ble_eq_true rfl), (Nat.le_of_ble_eq_true rfl)⟩ G [0, 1, 2, 3, 4, 5, 6, 7] rfl rfl 0 rfl rfl rfl hl.1 rfl (Nat.le_of_ble_eq_true rfl) dX2_follow_45 ⟨Nat.zero_le _, Nat.zero_le _⟩) rfl G [0, 1, 2, 3, 4, 5, 6, 7] [] 8 rfl rfl rfl rfl rfl (by decide) (by decide) rfl (fun H locs G => ?_)
      refine lv_goto (tgt := 52) hx hb dX2_follow_48 (by decide) ?_
      cases hf
      exact e_mi X G dX2_follow_52
  replace hf := if_f hf c1
  by_cases c4 : v1 = (1 : Int32)
  · replace hf := if_t hf c4
    refine r_tsw X (tgt := 53) dX2_follow_1 (by rw [c4]; decide +kernel) (by rw [c4]; decide +kernel) ?_
    refine lv_aload_n hx hb dX2_follow_53 rfl (lv_at hl 0 rfl) ?_
    refine r_get X inw_X2 G 0 rfl rfl 4 (by decide) fl_X2_29 (v := .int (Rd_token RD)) rfl dX2_follow_54 ?_
    refine lv_iconst (v := 1) hx hb dX2_follow_57 (by decide) ?_
    refine lv_icmp_ne (tgt := 68) hx hb dX2_follow_58 (by decide) (fun c5 => ?_) (fun c5 => ?_)
    · replace hf := if_f hf c5
      refine lv_iconst (v := -1) hx hb dX2_follow_68 (by decide) ?_
      cases hf
      exact e_mi X G dX2_follow_69
    · replace hf := if_t hf c5
      refine lv_aload_n hx hb dX2_follow_61 rfl (lv_at hl 0 rfl) ?_
      obtain ⟨r6, hcr6, hf⟩ := bd_some hf
      refine p_N (st1 := [.int (r6.1)]) (wr := []) (ws' := kRd k ot aRD (r6.2.1) ++ (kPl k (aRD 0) aPL (r6.2.2))) (run_V (rest := []) X (ctX2_openStep (SZ_ok t) ot aRD aPL hcr6) mk_X2_openStep ml_X2_88 ⟨(Nat.le_of_ble_eq_true rfl), (Nat.le_of_ble_eq_true rfl)⟩ G [0, 1, 2, 3, 4, 5, 6, 7] rfl rfl 0 rfl rfl rfl hl.1 rfl (Nat.le_of_ble_eq_true rfl) dX2_follow_62 ⟨Nat.zero_le _, Nat.zero_le _⟩) rfl G [0, 1, 2, 3, 4, 5, 6, 7] [] 8 rfl rfl rfl rfl rfl (by decide) (by decide) rfl (fun H locs G => ?_)
      refine lv_goto (tgt := 69) hx hb dX2_follow_65 (by decide) ?_
      cases hf
      exact e_mi X G dX2_follow_69
  replace hf := if_f hf c4
  by_cases c7 : v1 = (2 : Int32)
  · replace hf := if_t hf c7
    refine r_tsw X (tgt := 70) dX2_follow_1 (by rw [c7]; decide +kernel) (by rw [c7]; decide +kernel) ?_
    refine lv_aload_n hx hb dX2_follow_70 rfl (lv_at hl 0 rfl) ?_
    refine r_get X inw_X2 G 0 rfl rfl 4 (by decide) fl_X2_29 (v := .int (Rd_token RD)) rfl dX2_follow_71 ?_
    refine lv_iconst (v := 2) hx hb dX2_follow_74 (by decide) ?_
    refine lv_icmp_ne (tgt := 85) hx hb dX2_follow_75 (by decide) (fun c8 => ?_) (fun c8 => ?_)
    · replace hf := if_f hf c8
      refine lv_iconst (v := -1) hx hb dX2_follow_85 (by decide) ?_
      cases hf
      exact e_mi X G dX2_follow_86
    · replace hf := if_t hf c8
      refine lv_aload_n hx hb dX2_follow_78 rfl (lv_at hl 0 rfl) ?_
      obtain ⟨r9, hcr9, hf⟩ := bd_some hf
      refine p_N (st1 := [.int (r9.1)]) (wr := []) (ws' := kRd k ot aRD (r9.2.1) ++ (kPl k (aRD 0) aPL (r9.2.2))) (run_V (rest := []) X (ctX2_takeNumber t ot aRD aPL hcr9) mk_X2_takeNumber ml_X2_91 ⟨(Nat.le_of_ble_eq_true rfl), (Nat.le_of_ble_eq_true rfl)⟩ G [0, 1, 2, 3, 4, 5, 6, 7] rfl rfl 0 rfl rfl rfl hl.1 rfl (Nat.le_of_ble_eq_true rfl) dX2_follow_79 ⟨Nat.zero_le _, Nat.zero_le _⟩) rfl G [0, 1, 2, 3, 4, 5, 6, 7] [] 8 rfl rfl rfl rfl rfl (by decide) (by decide) rfl (fun H locs G => ?_)
      refine lv_goto (tgt := 86) hx hb dX2_follow_82 (by decide) ?_
      cases hf
      exact e_mi X G dX2_follow_86
  replace hf := if_f hf c7
  by_cases c10 : v1 = (3 : Int32)
  · replace hf := if_t hf c10
    refine r_tsw X (tgt := 87) dX2_follow_1 (by rw [c10]; decide +kernel) (by rw [c10]; decide +kernel) ?_
    refine lv_aload_n hx hb dX2_follow_87 rfl (lv_at hl 0 rfl) ?_
    refine r_get X inw_X2 G 0 rfl rfl 4 (by decide) fl_X2_29 (v := .int (Rd_token RD)) rfl dX2_follow_88 ?_
    refine lv_iconst (v := 3) hx hb dX2_follow_91 (by decide) ?_
    refine lv_icmp_ne (tgt := 99) hx hb dX2_follow_92 (by decide) (fun c11 => ?_) (fun c11 => ?_)
    · replace hf := if_f hf c11
      refine lv_iconst (v := -1) hx hb dX2_follow_99 (by decide) ?_
      cases hf
      exact e_mi X G dX2_follow_100
    · replace hf := if_t hf c11
      refine lv_iconst (v := 0) hx hb dX2_follow_95 (by decide) ?_
      refine lv_goto (tgt := 100) hx hb dX2_follow_96 (by decide) ?_
      cases hf
      exact e_mi X G dX2_follow_100
  replace hf := if_f hf c10
  by_cases c12 : v1 = (4 : Int32)
  · replace hf := if_t hf c12
    refine r_tsw X (tgt := 101) dX2_follow_1 (by rw [c12]; decide +kernel) (by rw [c12]; decide +kernel) ?_
    refine lv_aload_n hx hb dX2_follow_101 rfl (lv_at hl 0 rfl) ?_
    refine r_get X inw_X2 G 0 rfl rfl 4 (by decide) fl_X2_29 (v := .int (Rd_token RD)) rfl dX2_follow_102 ?_
    refine lv_iconst (v := 4) hx hb dX2_follow_105 (by decide) ?_
    refine lv_icmp_ne (tgt := 111) hx hb dX2_follow_106 (by decide) (fun c13 => ?_) (fun c13 => ?_)
    · replace hf := if_f hf c13
      refine lv_aload_n hx hb dX2_follow_111 rfl (lv_at hl 0 rfl) ?_
      refine r_get X inw_X2 G 0 rfl rfl 4 (by decide) fl_X2_29 (v := .int (Rd_token RD)) rfl dX2_follow_112 ?_
      refine lv_iconst (v := 3) hx hb dX2_follow_115 (by decide) ?_
      refine lv_icmp_ne (tgt := 123) hx hb dX2_follow_116 (by decide) (fun c14 => ?_) (fun c14 => ?_)
      · replace hf := if_f hf c14
        refine lv_iconst (v := -1) hx hb dX2_follow_123 (by decide) ?_
        cases hf
        exact e_mi X G dX2_follow_124
      · replace hf := if_t hf c14
        refine lv_iconst (v := 0) hx hb dX2_follow_119 (by decide) ?_
        refine lv_goto (tgt := 124) hx hb dX2_follow_120 (by decide) ?_
        cases hf
        exact e_mi X G dX2_follow_124
    · replace hf := if_t hf c13
      refine lv_iconst (v := 1) hx hb dX2_follow_109 (by decide) ?_
      cases hf
      exact e_mi X G dX2_follow_110
  replace hf := if_f hf c12
  have hd := tsw_d (x := v1) (lo' := 0) (hi' := 4) (dflt := 124) (offs := #[35, 52, 69, 86, 100]) [(0 : Int32), (1 : Int32), (2 : Int32), (3 : Int32), (4 : Int32)] (by
      intro k hk
      simp only [List.mem_cons, List.not_mem_nil, or_false] at hk
      rcases hk with rfl | rfl | rfl | rfl | rfl
      · exact c1
      · exact c4
      · exact c7
      · exact c10
      · exact c12
      ) 4 (by decide) (by decide +kernel)
  refine r_tsw X (tgt := 125) dX2_follow_1 (by rw [hd.1]; rfl) hd.2 ?_
  refine lv_iconst (v := -1) hx hb dX2_follow_125 (by decide) ?_
  cases hf
  exact e_mi X G dX2_follow_126
theorem mk_X2_follow : MV yX2_follow cX2_follow 2 (some .int) 1 := ⟨co_X2_follow, in_X2, im_X2_follow, se_X2_follow, by decide +kernel, by decide +kernel⟩
noncomputable def FX2_isWord_j52 (v2 : Int32) (stL2 : Int32) (vJ4 : Int32) : Option ((Int32) ⊕ ((Unit) ⊕ (Unit))) :=
  nm ((v2 * (6 : Int32)) + stL2) fun x5 =>
  if x5 < 0 then (
    some (.inr (.inr (())))
  ) else (
    if (84 : Int32) ≤ x5 then (
      some (.inr (.inr (())))
    ) else (
      ix x5 84 <|
      if (WDf (Int32.toNatClampNeg x5)) = vJ4 then (
        nm (stL2 + 1) fun x10 =>
        some (.inl x10)
      ) else (
        some (.inr (.inr (())))
      )
    )
  )
noncomputable def FX2_isWord_18 (RD : RdT) (TP : TpT) (v2 : Int32) : Int32 → Option ((Int32) ⊕ ((Unit) ⊕ (Unit))) := fun stL2 =>
  if (6 : Int32) ≤ stL2 then (
    some (.inr (.inl ()))
  ) else (
    if (Rd_next RD) ≤ ((Rd_start RD) + stL2) then (
      FX2_isWord_j52 v2 stL2 (32 : Int32)
    ) else (
      (FX5_byteAt TP ((Rd_start RD) + stL2)).bind fun r12 =>
      FX2_isWord_j52 v2 stL2 r12
    )
  )
noncomputable def FX2_isWord (RD : RdT) (TP : TpT) (v2 : Int32) : Option (Bool) :=
  if ((Rd_next RD) - (Rd_start RD)) ≤ (6 : Int32) then (
    (itr (FX2_isWord_18 RD TP v2) (0 : Int32)).bind fun exL2 =>
    Sum.elim (fun uL2 =>
      some true
    )
    (fun uL2 =>
      some false
    ) exL2
  ) else (
    some false
  )
set_option maxHeartbeats 4000000 in
set_option maxRecDepth 100000 in
theorem ctX2_isWord {l : Launch} {D : va_G} {k : Nat → ClassId} (t : Nat → Nat) (ot : Nat) (o1 : Nat) (aRD : Nat → Nat) (aTP : Nat → Nat) {RD : RdT} {TP : TpT} {v2 : Int32} {q : Bool} (hf : FX2_isWord RD TP v2 = some q) :
    CR l D k (SZ t) yX2_isWord cX2_isWord 6 (some .boolean) 4 85 [.ref ot, .ref o1, .int v2] (some (.int (bI q))) (kRd k ot aRD (RD) ++ (kTp k o1 aTP (TP))) := by
  refine CR.start (SZ_ok t) (by decide) (Nat.le_of_ble_eq_true rfl) ?_
  intro p e s m below meth c ls X hl G
  have hx := X.1
  have hb := X.2.1
  have hz := X.2.2.2.2.2.2.2.2.1
  have hl : lv_has ls 6 [(0, .ref ot), (1, .ref o1), (2, .int v2)] := hl
  unfold FX2_isWord at hf
  refine lv_aload_n hx hb dX2_isWord_0 rfl (lv_at hl 0 rfl) ?_
  refine r_get X inw_X2 G 0 rfl rfl 7 (by decide) fl_X2_38 (v := .int (Rd_next RD)) rfl dX2_isWord_1 ?_
  refine lv_aload_n hx hb dX2_isWord_4 rfl (lv_at hl 0 rfl) ?_
  refine r_get X inw_X2 G 0 rfl rfl 5 (by decide) fl_X2_32 (v := .int (Rd_start RD)) rfl dX2_isWord_5 ?_
  refine lv_isub hx hb dX2_isWord_8 ?_
  refine lv_bipush (v := 6) hx hb dX2_isWord_9 (by decide) ?_
  refine lv_icmp_le (tgt := 16) hx hb dX2_isWord_11 (by decide) (fun c1 => ?_) (fun c1 => ?_)
  · replace hf := if_t hf c1
    refine lv_iconst (v := 0) hx hb dX2_isWord_16 (by decide) ?_
    refine lv_istore_n (lv' := [(3, .int (0 : Int32)), (0, .ref ot), (1, .ref o1), (2, .int v2)]) hx hb dX2_isWord_17 rfl hl (by decide) rfl (fun ls hl => ?_)
    obtain ⟨exL2, hitL2, hfL2⟩ := bd_some hf
    obtain ⟨nL2, hitL2⟩ := itr_ex hitL2
    have KL2_0 : ∀ (u : Unit) (ls : Array Slot), exL2 = Sum.inl u → lv_has ls 6 [] → W p l e (rmz 4 85) s m [.ref ot, .ref o1, .int v2].toArray below meth c s.heap [] 0 0 (MQ below (Qr (some (.int (bI q)))) [.ref ot, .ref o1, .int v2].toArray s 0 0 (fun _ => False)) (F0 m 97 ls []) := by
      intro uL2 ls hex hl
      rw [hex] at hfL2
      have hf := hfL2
      replace hf := sl_l hf
      refine lv_iconst (v := 1) hx hb dX2_isWord_97 (by decide) ?_
      cases hf
      exact e_rz _ rfl X dX2_isWord_98
    have KL2_1 : ∀ (u : Unit) (ls : Array Slot), exL2 = Sum.inr (u) → lv_has ls 6 [] → W p l e (rmz 4 85) s m [.ref ot, .ref o1, .int v2].toArray below meth c s.heap [] 0 0 (MQ below (Qr (some (.int (bI q)))) [.ref ot, .ref o1, .int v2].toArray s 0 0 (fun _ => False)) (F0 m 89 ls []) := by
      intro uL2 ls hex hl
      rw [hex] at hfL2
      have hf := hfL2
      replace hf := sl_r hf
      refine lv_iconst (v := 0) hx hb dX2_isWord_89 (by decide) ?_
      cases hf
      exact e_rz _ rfl X dX2_isWord_90
    have LL2 : ∀ (n : Nat) (stL2 : Int32) (ls : Array Slot), lv_has ls 6 [(0, .ref ot), (1, .ref o1), (2, .int v2), (3, .int stL2)] → it (FX2_isWord_18 RD TP v2) n stL2 = some exL2 → W p l e (rmz 4 85) s m [.ref ot, .ref o1, .int v2].toArray below meth c s.heap [] 0 0 (MQ below (Qr (some (.int (bI q)))) [.ref ot, .ref o1, .int v2].toArray s 0 0 (fun _ => False)) (F0 m 18 ls []) := by
      intro n
      induction n with
      | zero =>
        intro stL2 ls hl hit
        exact (it_zero hit).elim
      | succ n ih =>
        intro stL2 ls hl hit
        obtain ⟨oL2, hf, hoL2⟩ := it_bd hit
        unfold FX2_isWord_18 at hf
        refine lv_iload_n hx hb dX2_isWord_18 rfl (lv_at hl 3 rfl) ?_
        refine lv_bipush (v := 6) hx hb dX2_isWord_19 (by decide) ?_
        refine lv_icmp_ge (tgt := 97) hx hb dX2_isWord_21 (by decide) (fun c3 => ?_) (fun c3 => ?_)
        · replace hf := if_t hf c3
          cases hf
          exact KL2_0 () _ (it_out hoL2) (lv_sub hl [] rfl)
        · replace hf := if_f hf c3
          refine lv_aload_n hx hb dX2_isWord_24 rfl (lv_at hl 0 rfl) ?_
          refine r_get X inw_X2 G 0 rfl rfl 5 (by decide) fl_X2_32 (v := .int (Rd_start RD)) rfl dX2_isWord_25 ?_
          refine lv_iload_n hx hb dX2_isWord_28 rfl (lv_at hl 3 rfl) ?_
          refine lv_iadd hx hb dX2_isWord_29 ?_
          refine lv_aload_n hx hb dX2_isWord_30 rfl (lv_at hl 0 rfl) ?_
          refine r_get X inw_X2 G 0 rfl rfl 7 (by decide) fl_X2_38 (v := .int (Rd_next RD)) rfl dX2_isWord_31 ?_
          have JJ4 : ∀ (vJ4 : Int32) (ls : Array Slot), lv_has ls 6 [(0, .ref ot), (1, .ref o1), (2, .int v2), (3, .int stL2)] → FX2_isWord_j52 v2 stL2 vJ4 = some oL2 → W p l e (rmz 4 85) s m [.ref ot, .ref o1, .int v2].toArray below meth c s.heap [] 0 0 (MQ below (Qr (some (.int (bI q)))) [.ref ot, .ref o1, .int v2].toArray s 0 0 (fun _ => False)) (F0 m 52 ls [.int vJ4]) := by
            intro vJ4 ls hl hf
            unfold FX2_isWord_j52 at hf
            refine lv_istore (lv' := [(4, .int vJ4), (0, .ref ot), (1, .ref o1), (2, .int v2), (3, .int stL2)]) hx hb dX2_isWord_52 hl (by decide) rfl (fun ls hl => ?_)
            refine lv_iload_n hx hb dX2_isWord_54 rfl (lv_at hl 3 rfl) ?_
            refine lv_bipush (v := 6) hx hb dX2_isWord_55 (by decide) ?_
            refine lv_imul hx hb dX2_isWord_57 ?_
            refine lv_iload_n hx hb dX2_isWord_58 rfl (lv_at hl 4 rfl) ?_
            refine lv_iadd hx hb dX2_isWord_59 ?_
            obtain ⟨x5, ex5, hf⟩ := nm_some hf
            refine r_top (congrArg Value.int ex5) ?_
            refine lv_istore (lv' := [(5, .int x5), (4, .int vJ4), (0, .ref ot), (1, .ref o1), (2, .int v2), (3, .int stL2)]) hx hb dX2_isWord_60 hl (by decide) rfl (fun ls hl => ?_)
            refine lv_iload hx hb dX2_isWord_62 (lv_at hl 0 rfl) ?_
            refine lv_if_lt (tgt := 89) hx hb dX2_isWord_64 (by decide) (fun c6 => ?_) (fun c6 => ?_)
            · replace hf := if_t hf c6
              cases hf
              exact KL2_1 () _ (it_out hoL2) (lv_sub hl [] rfl)
            · replace hf := if_f hf c6
              refine lv_iload hx hb dX2_isWord_67 (lv_at hl 0 rfl) ?_
              refine va_ldcS hx hb X.2.2.2.2.2.1 hz.2.2.2.1 dX2_isWord_69 ?_
              refine p_R (st1 := [.int (84 : Int32), .int x5]) (run_W (rest := [.int x5]) X (ct_len t) mk_len ml_X2_157 ⟨(Nat.le_of_ble_eq_true rfl), (Nat.le_of_ble_eq_true rfl)⟩ G [] rfl rfl (sz_recv hz G.2.2) rfl hl.1 rfl (Nat.le_of_ble_eq_true rfl) dX2_isWord_71 ⟨Nat.zero_le _, Nat.zero_le _⟩) rfl ?_
              refine lv_icmp_ge (tgt := 89) hx hb dX2_isWord_74 (by decide) (fun c7 => ?_) (fun c7 => ?_)
              · replace hf := if_t hf c7
                cases hf
                exact KL2_1 () _ (it_out hoL2) (lv_sub hl [] rfl)
              · replace hf := if_f hf c7
                refine va_ldcS hx hb X.2.2.2.2.2.1 hz.2.2.2.1 dX2_isWord_77 ?_
                refine lv_iload hx hb dX2_isWord_79 (lv_at hl 0 rfl) ?_
                obtain ⟨h8, hf⟩ := ix_some hf
                refine p_R (st1 := [.int (WDf (Int32.toNatClampNeg x5))]) (run_W (rest := []) X (ct_chr t h8) mk_chr ml_X2_161 ⟨(Nat.le_of_ble_eq_true rfl), (Nat.le_of_ble_eq_true rfl)⟩ G [] rfl rfl (sz_recv hz G.2.2) rfl hl.1 rfl (Nat.le_of_ble_eq_true rfl) dX2_isWord_81 ⟨Nat.zero_le _, Nat.zero_le _⟩) rfl ?_
                refine lv_iload hx hb dX2_isWord_84 (lv_at hl 1 rfl) ?_
                refine lv_icmp_eq (tgt := 91) hx hb dX2_isWord_86 (by decide) (fun c9 => ?_) (fun c9 => ?_)
                · replace hf := if_t hf c9
                  obtain ⟨x10, ex10, hf⟩ := nm_some hf
                  refine lv_iinc (v := x10) (lv' := [(3, .int x10), (5, .int x5), (4, .int vJ4), (0, .ref ot), (1, .ref o1), (2, .int v2)]) hx hb dX2_isWord_91 hl (k := 5) rfl (by subst ex10; rfl) (by decide) rfl (fun ls hl => ?_)
                  refine lv_goto (tgt := 18) hx hb dX2_isWord_94 (by decide) ?_
                  cases hf
                  exact ih x10 _ (lv_sub hl [3, 4, 5, 0] rfl) hoL2
                · replace hf := if_f hf c9
                  cases hf
                  exact KL2_1 () _ (it_out hoL2) (lv_sub hl [] rfl)
          refine lv_icmp_ge (tgt := 50) hx hb dX2_isWord_34 (by decide) (fun c11 => ?_) (fun c11 => ?_)
          · replace hf := if_t hf c11
            refine lv_bipush (v := 32) hx hb dX2_isWord_50 (by decide) ?_
            exact JJ4 (32 : Int32) _ (lv_sub hl [0, 1, 2, 3] rfl) hf
          · replace hf := if_f hf c11
            refine lv_aload_n hx hb dX2_isWord_37 rfl (lv_at hl 1 rfl) ?_
            refine lv_aload_n hx hb dX2_isWord_38 rfl (lv_at hl 0 rfl) ?_
            refine r_get X inw_X2 G 0 rfl rfl 5 (by decide) fl_X2_32 (v := .int (Rd_start RD)) rfl dX2_isWord_39 ?_
            refine lv_iload_n hx hb dX2_isWord_42 rfl (lv_at hl 3 rfl) ?_
            refine lv_iadd hx hb dX2_isWord_43 ?_
            obtain ⟨r12, hcr12, hf⟩ := bd_some hf
            refine p_R (st1 := [.int r12]) (run_V (rest := []) X (ctX5_byteAt (SZ_ok t) o1 aTP hcr12) mk_X5_byteAt ml_X2_132 ⟨(Nat.le_of_ble_eq_true rfl), (Nat.le_of_ble_eq_true rfl)⟩ G [2, 3] rfl rfl 2 rfl rfl rfl hl.1 rfl (Nat.le_of_ble_eq_true rfl) dX2_isWord_44 ⟨Nat.zero_le _, Nat.zero_le _⟩) rfl ?_
            refine lv_goto (tgt := 52) hx hb dX2_isWord_47 (by decide) ?_
            exact JJ4 r12 _ (lv_sub hl [0, 1, 2, 3] rfl) hf
    exact LL2 nL2 (0 : Int32) _ (lv_sub hl [1, 2, 3, 0] rfl) hitL2
  · replace hf := if_f hf c1
    refine lv_iconst (v := 0) hx hb dX2_isWord_14 (by decide) ?_
    cases hf
    exact e_rz _ rfl X dX2_isWord_15
theorem mk_X2_isWord : MV yX2_isWord cX2_isWord 6 (some .boolean) 2 := ⟨co_X2_isWord, in_X2, im_X2_isWord, se_X2_isWord, by decide +kernel, by decide +kernel⟩
noncomputable def FX2_scanWord_0 (TP : TpT) : RdT → Option ((RdT) ⊕ (RdT)) := fun stL1 =>
  if (Tp_length TP) ≤ (Rd_next stL1) then (
    some (.inr stL1)
  ) else (
    (FX5_byteAt TP (Rd_next stL1)).bind fun r3 =>
    (FX2_isLetter r3).bind fun r4 =>
    if (bI r4) = 0 then (
      some (.inr stL1)
    ) else (
      nm (sRd_next stL1 ((Rd_next stL1) + (1 : Int32))) fun RD6 =>
      some (.inl RD6)
    )
  )
noncomputable def FX2_scanWord_50 (TP : TpT) : (Int32 × RdT) → Option ((Int32 × RdT) ⊕ (RdT)) := fun stL9 =>
  if (14 : Int32) ≤ stL9.1 then (
    some (.inr stL9.2)
  ) else (
    (FX2_isWord stL9.2 TP stL9.1).bind fun r11 =>
    if (bI r11) = 0 then (
      nm (stL9.1 + 1) fun x13 =>
      some (.inl (x13, stL9.2))
    ) else (
      nm (sRd_value stL9.2 stL9.1) fun RD14 =>
      nm (stL9.1 + 1) fun x15 =>
      some (.inl (x15, RD14))
    )
  )
noncomputable def FX2_scanWord (RD : RdT) (TP : TpT) : Option (RdT) :=
  (itr (FX2_scanWord_0 TP) RD).bind fun uL1 =>
  nm (sRd_token uL1 (1 : Int32)) fun RD7 =>
  nm (sRd_value RD7 (-1 : Int32)) fun RD8 =>
  (itr (FX2_scanWord_50 TP) ((0 : Int32), RD8)).bind fun uL9 =>
  some uL9
set_option maxHeartbeats 4000000 in
set_option maxRecDepth 100000 in
theorem ctX2_scanWord {l : Launch} {D : va_G} {k : Nat → ClassId} (t : Nat → Nat) (ot : Nat) (o1 : Nat) (aRD : Nat → Nat) (aTP : Nat → Nat) {RD : RdT} {TP : TpT} {q : RdT} (hf : FX2_scanWord RD TP = some q) :
    CM l D k (SZ t) yX2_scanWord cX2_scanWord 3 none 5 110 [.ref ot, .ref o1] none (kRd k ot aRD (RD) ++ (kTp k o1 aTP (TP))) (kRd k ot aRD (q) ++ (kTp k o1 aTP (TP))) := by
  refine CM.start (SZ_ok t) (by decide) (Nat.le_of_ble_eq_true rfl) ?_
  intro p e s m below meth c ls X hl G
  have hx := X.1
  have hb := X.2.1
  have hz := X.2.2.2.2.2.2.2.2.1
  have hl : lv_has ls 3 [(0, .ref ot), (1, .ref o1)] := hl
  unfold FX2_scanWord at hf
  obtain ⟨exL1, hitL1, hfL1⟩ := bd_some hf
  obtain ⟨nL1, hitL1⟩ := itr_ex hitL1
  have KL1_0 : ∀ (u : RdT) (H : Heap) (locs : List Loc) (ls : Array Slot), exL1 = u → Wo D (wA (kRd k ot aRD (RD) ++ (kTp k o1 aTP (TP)))) s.heap (kRd k ot aRD (u) ++ (kTp k o1 aTP (TP))) H locs → lv_has ls 3 [(0, .ref ot), (1, .ref o1)] → W p l e (rmz 5 110) s m [.ref ot, .ref o1].toArray below meth c H locs 0 0 (MQ below (Qm D none (kRd k ot aRD (RD) ++ (kTp k o1 aTP (TP))) (kRd k ot aRD (q) ++ (kTp k o1 aTP (TP)))) [.ref ot, .ref o1].toArray s 0 0 (wA (kRd k ot aRD (RD) ++ (kTp k o1 aTP (TP))))) (F0 m 38 ls []) := by
    intro uL1 H locs ls hex G hl
    rw [hex] at hfL1
    have hf := hfL1
    refine lv_aload_n hx hb dX2_scanWord_38 rfl (lv_at hl 0 rfl) ?_
    refine lv_iconst (v := 1) hx hb dX2_scanWord_39 (by decide) ?_
    obtain ⟨RD7, eRD7, hf⟩ := nm_some hf
    refine r_put X inw_X2 tyX2 tyX2_ok nmX2 G 0 rfl rfl 4 (by decide) fl_X2_29 rfl rfl rfl (Nat.le_of_ble_eq_true rfl) (ws' := kRd k ot aRD (RD7) ++ (kTp k o1 aTP (TP))) (by subst eRD7; rfl) dX2_scanWord_40 (fun H locs G => ?_)
    refine lv_aload_n hx hb dX2_scanWord_43 rfl (lv_at hl 0 rfl) ?_
    refine lv_iconst (v := -1) hx hb dX2_scanWord_44 (by decide) ?_
    obtain ⟨RD8, eRD8, hf⟩ := nm_some hf
    refine r_put X inw_X2 tyX2 tyX2_ok nmX2 G 0 rfl rfl 6 (by decide) fl_X2_35 rfl rfl rfl (Nat.le_of_ble_eq_true rfl) (ws' := kRd k ot aRD (RD8) ++ (kTp k o1 aTP (TP))) (by subst eRD8; rfl) dX2_scanWord_45 (fun H locs G => ?_)
    refine lv_iconst (v := 0) hx hb dX2_scanWord_48 (by decide) ?_
    refine lv_istore_n (lv' := [(2, .int (0 : Int32)), (0, .ref ot), (1, .ref o1)]) hx hb dX2_scanWord_49 rfl hl (by decide) rfl (fun ls hl => ?_)
    obtain ⟨exL9, hitL9, hfL9⟩ := bd_some hf
    obtain ⟨nL9, hitL9⟩ := itr_ex hitL9
    have KL9_0 : ∀ (u : RdT) (H : Heap) (locs : List Loc) (ls : Array Slot), exL9 = u → Wo D (wA (kRd k ot aRD (RD) ++ (kTp k o1 aTP (TP)))) s.heap (kRd k ot aRD (u) ++ (kTp k o1 aTP (TP))) H locs → lv_has ls 3 [] → W p l e (rmz 5 110) s m [.ref ot, .ref o1].toArray below meth c H locs 0 0 (MQ below (Qm D none (kRd k ot aRD (RD) ++ (kTp k o1 aTP (TP))) (kRd k ot aRD (q) ++ (kTp k o1 aTP (TP)))) [.ref ot, .ref o1].toArray s 0 0 (wA (kRd k ot aRD (RD) ++ (kTp k o1 aTP (TP))))) (F0 m 76 ls []) := by
      intro uL9 H locs ls hex G hl
      rw [hex] at hfL9
      have hf := hfL9
      cases hf
      exact e_mv X G dX2_scanWord_76
    have LL9 : ∀ (n : Nat) (stL9 : Int32 × RdT) (H : Heap) (locs : List Loc) (ls : Array Slot), Wo D (wA (kRd k ot aRD (RD) ++ (kTp k o1 aTP (TP)))) s.heap (kRd k ot aRD (stL9.2) ++ (kTp k o1 aTP (TP))) H locs → lv_has ls 3 [(0, .ref ot), (1, .ref o1), (2, .int (stL9.1))] → it (FX2_scanWord_50 TP) n stL9 = some exL9 → W p l e (rmz 5 110) s m [.ref ot, .ref o1].toArray below meth c H locs 0 0 (MQ below (Qm D none (kRd k ot aRD (RD) ++ (kTp k o1 aTP (TP))) (kRd k ot aRD (q) ++ (kTp k o1 aTP (TP)))) [.ref ot, .ref o1].toArray s 0 0 (wA (kRd k ot aRD (RD) ++ (kTp k o1 aTP (TP))))) (F0 m 50 ls []) := by
      intro n
      induction n with
      | zero =>
        intro stL9 H locs ls G hl hit
        exact (it_zero hit).elim
      | succ n ih =>
        intro stL9 H locs ls G hl hit
        obtain ⟨oL9, hf, hoL9⟩ := it_bd hit
        unfold FX2_scanWord_50 at hf
        refine lv_iload_n hx hb dX2_scanWord_50 rfl (lv_at hl 2 rfl) ?_
        refine lv_bipush (v := 14) hx hb dX2_scanWord_51 (by decide) ?_
        refine lv_icmp_ge (tgt := 76) hx hb dX2_scanWord_53 (by decide) (fun c10 => ?_) (fun c10 => ?_)
        · replace hf := if_t hf c10
          cases hf
          exact KL9_0 stL9.2 _ _ _ (it_out hoL9) G (lv_sub hl [] rfl)
        · replace hf := if_f hf c10
          refine lv_aload_n hx hb dX2_scanWord_56 rfl (lv_at hl 0 rfl) ?_
          refine lv_aload_n hx hb dX2_scanWord_57 rfl (lv_at hl 1 rfl) ?_
          refine lv_iload_n hx hb dX2_scanWord_58 rfl (lv_at hl 2 rfl) ?_
          obtain ⟨r11, hcr11, hf⟩ := bd_some hf
          refine p_R (st1 := [.int (bI r11)]) (run_V (rest := []) X (ctX2_isWord t ot o1 aRD aTP hcr11) mk_X2_isWord ml_X2_151 ⟨(Nat.le_of_ble_eq_true rfl), (Nat.le_of_ble_eq_true rfl)⟩ G [0, 1, 2, 3] rfl rfl 0 rfl rfl rfl hl.1 rfl (Nat.le_of_ble_eq_true rfl) dX2_scanWord_59 ⟨Nat.zero_le _, Nat.zero_le _⟩) rfl ?_
          refine lv_if_eq (tgt := 70) hx hb dX2_scanWord_62 (by decide) (fun c12 => ?_) (fun c12 => ?_)
          · replace hf := if_t hf c12
            obtain ⟨x13, ex13, hf⟩ := nm_some hf
            refine lv_iinc (v := x13) (lv' := [(2, .int x13), (0, .ref ot), (1, .ref o1)]) hx hb dX2_scanWord_70 hl (k := 2) rfl (by subst ex13; rfl) (by decide) rfl (fun ls hl => ?_)
            refine lv_goto (tgt := 50) hx hb dX2_scanWord_73 (by decide) ?_
            cases hf
            exact ih (x13, stL9.2) _ _ _ G (lv_sub hl [1, 2, 0] rfl) hoL9
          · replace hf := if_f hf c12
            refine lv_aload_n hx hb dX2_scanWord_65 rfl (lv_at hl 0 rfl) ?_
            refine lv_iload_n hx hb dX2_scanWord_66 rfl (lv_at hl 2 rfl) ?_
            obtain ⟨RD14, eRD14, hf⟩ := nm_some hf
            refine r_put X inw_X2 tyX2 tyX2_ok nmX2 G 0 rfl rfl 6 (by decide) fl_X2_35 rfl rfl rfl (Nat.le_of_ble_eq_true rfl) (ws' := kRd k ot aRD (RD14) ++ (kTp k o1 aTP (TP))) (by subst eRD14; rfl) dX2_scanWord_67 (fun H locs G => ?_)
            obtain ⟨x15, ex15, hf⟩ := nm_some hf
            refine lv_iinc (v := x15) (lv' := [(2, .int x15), (0, .ref ot), (1, .ref o1)]) hx hb dX2_scanWord_70 hl (k := 2) rfl (by subst ex15; rfl) (by decide) rfl (fun ls hl => ?_)
            refine lv_goto (tgt := 50) hx hb dX2_scanWord_73 (by decide) ?_
            cases hf
            exact ih (x15, RD14) _ _ _ G (lv_sub hl [1, 2, 0] rfl) hoL9
    exact LL9 nL9 ((0 : Int32), RD8) _ _ _ G (lv_sub hl [1, 2, 0] rfl) hitL9
  have LL1 : ∀ (n : Nat) (stL1 : RdT) (H : Heap) (locs : List Loc) (ls : Array Slot), Wo D (wA (kRd k ot aRD (RD) ++ (kTp k o1 aTP (TP)))) s.heap (kRd k ot aRD (stL1) ++ (kTp k o1 aTP (TP))) H locs → lv_has ls 3 [(0, .ref ot), (1, .ref o1)] → it (FX2_scanWord_0 TP) n stL1 = some exL1 → W p l e (rmz 5 110) s m [.ref ot, .ref o1].toArray below meth c H locs 0 0 (MQ below (Qm D none (kRd k ot aRD (RD) ++ (kTp k o1 aTP (TP))) (kRd k ot aRD (q) ++ (kTp k o1 aTP (TP)))) [.ref ot, .ref o1].toArray s 0 0 (wA (kRd k ot aRD (RD) ++ (kTp k o1 aTP (TP))))) (F0 m 0 ls []) := by
    intro n
    induction n with
    | zero =>
      intro stL1 H locs ls G hl hit
      exact (it_zero hit).elim
    | succ n ih =>
      intro stL1 H locs ls G hl hit
      obtain ⟨oL1, hf, hoL1⟩ := it_bd hit
      unfold FX2_scanWord_0 at hf
      refine lv_aload_n hx hb dX2_scanWord_0 rfl (lv_at hl 0 rfl) ?_
      refine r_get X inw_X2 G 0 rfl rfl 7 (by decide) fl_X2_38 (v := .int (Rd_next stL1)) rfl dX2_scanWord_1 ?_
      refine lv_aload_n hx hb dX2_scanWord_4 rfl (lv_at hl 1 rfl) ?_
      refine r_get X inw_X5 G 2 rfl rfl 1 (by decide) fl_X2_127 (v := .int (Tp_length TP)) rfl dX2_scanWord_5 ?_
      refine lv_icmp_ge (tgt := 38) hx hb dX2_scanWord_8 (by decide) (fun c2 => ?_) (fun c2 => ?_)
      · replace hf := if_t hf c2
        cases hf
        exact KL1_0 stL1 _ _ _ (it_out hoL1) G (lv_sub hl [0, 1] rfl)
      · replace hf := if_f hf c2
        refine lv_aload_n hx hb dX2_scanWord_11 rfl (lv_at hl 1 rfl) ?_
        refine lv_aload_n hx hb dX2_scanWord_12 rfl (lv_at hl 0 rfl) ?_
        refine r_get X inw_X2 G 0 rfl rfl 7 (by decide) fl_X2_38 (v := .int (Rd_next stL1)) rfl dX2_scanWord_13 ?_
        obtain ⟨r3, hcr3, hf⟩ := bd_some hf
        refine p_R (st1 := [.int r3]) (run_V (rest := []) X (ctX5_byteAt (SZ_ok t) o1 aTP hcr3) mk_X5_byteAt ml_X2_132 ⟨(Nat.le_of_ble_eq_true rfl), (Nat.le_of_ble_eq_true rfl)⟩ G [2, 3] rfl rfl 2 rfl rfl rfl hl.1 rfl (Nat.le_of_ble_eq_true rfl) dX2_scanWord_16 ⟨Nat.zero_le _, Nat.zero_le _⟩) rfl ?_
        obtain ⟨r4, hcr4, hf⟩ := bd_some hf
        refine p_R (st1 := [.int (bI r4)]) (run_S (rest := []) X (ctX2_isLetter (SZ_ok t) hcr4) mk_X2_isLetter ml_X2_139 ⟨(Nat.le_of_ble_eq_true rfl), (Nat.le_of_ble_eq_true rfl)⟩ G [] rfl rfl rfl hl.1 rfl (Nat.le_of_ble_eq_true rfl) dX2_scanWord_19 ⟨Nat.zero_le _, Nat.zero_le _⟩) rfl ?_
        refine lv_if_eq (tgt := 38) hx hb dX2_scanWord_22 (by decide) (fun c5 => ?_) (fun c5 => ?_)
        · replace hf := if_t hf c5
          cases hf
          exact KL1_0 stL1 _ _ _ (it_out hoL1) G (lv_sub hl [0, 1] rfl)
        · replace hf := if_f hf c5
          refine lv_aload_n hx hb dX2_scanWord_25 rfl (lv_at hl 0 rfl) ?_
          refine lv_dup hx hb dX2_scanWord_26 rfl ?_
          refine r_get X inw_X2 G 0 rfl rfl 7 (by decide) fl_X2_38 (v := .int (Rd_next stL1)) rfl dX2_scanWord_27 ?_
          refine lv_iconst (v := 1) hx hb dX2_scanWord_30 (by decide) ?_
          refine lv_iadd hx hb dX2_scanWord_31 ?_
          obtain ⟨RD6, eRD6, hf⟩ := nm_some hf
          refine r_put X inw_X2 tyX2 tyX2_ok nmX2 G 0 rfl rfl 7 (by decide) fl_X2_38 rfl rfl rfl (Nat.le_of_ble_eq_true rfl) (ws' := kRd k ot aRD (RD6) ++ (kTp k o1 aTP (TP))) (by subst eRD6; rfl) dX2_scanWord_32 (fun H locs G => ?_)
          refine lv_goto (tgt := 0) hx hb dX2_scanWord_35 (by decide) ?_
          cases hf
          exact ih RD6 _ _ _ G (lv_sub hl [0, 1] rfl) hoL1
  exact LL1 nL1 RD _ _ _ G (lv_sub hl [0, 1] rfl) hitL1
theorem mk_X2_scanWord : MV yX2_scanWord cX2_scanWord 3 none 1 := ⟨co_X2_scanWord, in_X2, im_X2_scanWord, se_X2_scanWord, by decide +kernel, by decide +kernel⟩
noncomputable def FX2_scan_0 (TP : TpT) : RdT → Option ((RdT) ⊕ (RdT)) := fun stL1 =>
  if (Tp_length TP) ≤ (Rd_next stL1) then (
    some (.inr stL1)
  ) else (
    (FX5_byteAt TP (Rd_next stL1)).bind fun r3 =>
    (FX2_isBlank r3).bind fun r4 =>
    if (bI r4) = 0 then (
      some (.inr stL1)
    ) else (
      nm (sRd_next stL1 ((Rd_next stL1) + (1 : Int32))) fun RD6 =>
      some (.inl RD6)
    )
  )
noncomputable def FX2_scan (RD : RdT) (TP : TpT) : Option (RdT) :=
  (itr (FX2_scan_0 TP) RD).bind fun uL1 =>
  nm (sRd_start uL1 (Rd_next uL1)) fun RD7 =>
  (FX5_byteAt TP (Rd_start RD7)).bind fun r8 =>
  if (Rd_start RD7) < (Tp_length TP) then (
    (FX2_isLetter r8).bind fun r10 =>
    if (bI r10) = 0 then (
      (FX2_isDigit r8).bind fun r12 =>
      if (bI r12) = 0 then (
        nm (sRd_next RD7 ((Rd_next RD7) + (1 : Int32))) fun RD14 =>
        if r8 = (59 : Int32) then (
          nm (sRd_token RD14 (3 : Int32)) fun RD19 =>
          some RD19
        ) else (
          if r8 = (44 : Int32) then (
            nm (sRd_token RD14 (4 : Int32)) fun RD18 =>
            some RD18
          ) else (
            nm (sRd_token RD14 (5 : Int32)) fun RD17 =>
            some RD17
          )
        )
      ) else (
        (FX2_scanNumber RD7 TP).bind fun r20 =>
        some r20
      )
    ) else (
      (FX2_scanWord RD7 TP).bind fun r21 =>
      some r21
    )
  ) else (
    nm (sRd_token RD7 (0 : Int32)) fun RD22 =>
    some RD22
  )
set_option maxHeartbeats 4000000 in
set_option maxRecDepth 100000 in
theorem ctX2_scan {l : Launch} {D : va_G} {k : Nat → ClassId} (t : Nat → Nat) (ot : Nat) (o1 : Nat) (aRD : Nat → Nat) (aTP : Nat → Nat) {RD : RdT} {TP : TpT} {q : RdT} (hf : FX2_scan RD TP = some q) :
    CM l D k (SZ t) yX2_scan cX2_scan 3 none 6 132 [.ref ot, .ref o1] none (kRd k ot aRD (RD) ++ (kTp k o1 aTP (TP))) (kRd k ot aRD (q) ++ (kTp k o1 aTP (TP))) := by
  refine CM.start (SZ_ok t) (by decide) (Nat.le_of_ble_eq_true rfl) ?_
  intro p e s m below meth c ls X hl G
  have hx := X.1
  have hb := X.2.1
  have hz := X.2.2.2.2.2.2.2.2.1
  have hl : lv_has ls 3 [(0, .ref ot), (1, .ref o1)] := hl
  unfold FX2_scan at hf
  obtain ⟨exL1, hitL1, hfL1⟩ := bd_some hf
  obtain ⟨nL1, hitL1⟩ := itr_ex hitL1
  have KL1_0 : ∀ (u : RdT) (H : Heap) (locs : List Loc) (ls : Array Slot), exL1 = u → Wo D (wA (kRd k ot aRD (RD) ++ (kTp k o1 aTP (TP)))) s.heap (kRd k ot aRD (u) ++ (kTp k o1 aTP (TP))) H locs → lv_has ls 3 [(0, .ref ot), (1, .ref o1)] → W p l e (rmz 6 132) s m [.ref ot, .ref o1].toArray below meth c H locs 0 0 (MQ below (Qm D none (kRd k ot aRD (RD) ++ (kTp k o1 aTP (TP))) (kRd k ot aRD (q) ++ (kTp k o1 aTP (TP)))) [.ref ot, .ref o1].toArray s 0 0 (wA (kRd k ot aRD (RD) ++ (kTp k o1 aTP (TP))))) (F0 m 38 ls []) := by
    intro uL1 H locs ls hex G hl
    rw [hex] at hfL1
    have hf := hfL1
    refine lv_aload_n hx hb dX2_scan_38 rfl (lv_at hl 0 rfl) ?_
    refine lv_aload_n hx hb dX2_scan_39 rfl (lv_at hl 0 rfl) ?_
    refine r_get X inw_X2 G 0 rfl rfl 7 (by decide) fl_X2_38 (v := .int (Rd_next uL1)) rfl dX2_scan_40 ?_
    obtain ⟨RD7, eRD7, hf⟩ := nm_some hf
    refine r_put X inw_X2 tyX2 tyX2_ok nmX2 G 0 rfl rfl 5 (by decide) fl_X2_32 rfl rfl rfl (Nat.le_of_ble_eq_true rfl) (ws' := kRd k ot aRD (RD7) ++ (kTp k o1 aTP (TP))) (by subst eRD7; rfl) dX2_scan_43 (fun H locs G => ?_)
    refine lv_aload_n hx hb dX2_scan_46 rfl (lv_at hl 1 rfl) ?_
    refine lv_aload_n hx hb dX2_scan_47 rfl (lv_at hl 0 rfl) ?_
    refine r_get X inw_X2 G 0 rfl rfl 5 (by decide) fl_X2_32 (v := .int (Rd_start RD7)) rfl dX2_scan_48 ?_
    obtain ⟨r8, hcr8, hf⟩ := bd_some hf
    refine p_R (st1 := [.int r8]) (run_V (rest := []) X (ctX5_byteAt (SZ_ok t) o1 aTP hcr8) mk_X5_byteAt ml_X2_132 ⟨(Nat.le_of_ble_eq_true rfl), (Nat.le_of_ble_eq_true rfl)⟩ G [2, 3] rfl rfl 2 rfl rfl rfl hl.1 rfl (Nat.le_of_ble_eq_true rfl) dX2_scan_51 ⟨Nat.zero_le _, Nat.zero_le _⟩) rfl ?_
    refine lv_istore_n (lv' := [(2, .int r8), (0, .ref ot), (1, .ref o1)]) hx hb dX2_scan_54 rfl hl (by decide) rfl (fun ls hl => ?_)
    refine lv_aload_n hx hb dX2_scan_55 rfl (lv_at hl 1 rfl) ?_
    refine r_get X inw_X2 G 0 rfl rfl 5 (by decide) fl_X2_32 (v := .int (Rd_start RD7)) rfl dX2_scan_56 ?_
    refine lv_aload_n hx hb dX2_scan_59 rfl (lv_at hl 2 rfl) ?_
    refine r_get X inw_X5 G 2 rfl rfl 1 (by decide) fl_X2_127 (v := .int (Tp_length TP)) rfl dX2_scan_60 ?_
    refine lv_icmp_lt (tgt := 74) hx hb dX2_scan_63 (by decide) (fun c9 => ?_) (fun c9 => ?_)
    · replace hf := if_t hf c9
      refine lv_iload_n hx hb dX2_scan_74 rfl (lv_at hl 0 rfl) ?_
      obtain ⟨r10, hcr10, hf⟩ := bd_some hf
      refine p_R (st1 := [.int (bI r10)]) (run_S (rest := []) X (ctX2_isLetter (SZ_ok t) hcr10) mk_X2_isLetter ml_X2_139 ⟨(Nat.le_of_ble_eq_true rfl), (Nat.le_of_ble_eq_true rfl)⟩ G [] rfl rfl rfl hl.1 rfl (Nat.le_of_ble_eq_true rfl) dX2_scan_75 ⟨Nat.zero_le _, Nat.zero_le _⟩) rfl ?_
      refine lv_if_eq (tgt := 89) hx hb dX2_scan_78 (by decide) (fun c11 => ?_) (fun c11 => ?_)
      · replace hf := if_t hf c11
        refine lv_iload_n hx hb dX2_scan_89 rfl (lv_at hl 0 rfl) ?_
        obtain ⟨r12, hcr12, hf⟩ := bd_some hf
        refine p_R (st1 := [.int (bI r12)]) (run_S (rest := []) X (ctX2_isDigit (SZ_ok t) hcr12) mk_X2_isDigit ml_X2_145 ⟨(Nat.le_of_ble_eq_true rfl), (Nat.le_of_ble_eq_true rfl)⟩ G [] rfl rfl rfl hl.1 rfl (Nat.le_of_ble_eq_true rfl) dX2_scan_90 ⟨Nat.zero_le _, Nat.zero_le _⟩) rfl ?_
        refine lv_if_eq (tgt := 104) hx hb dX2_scan_93 (by decide) (fun c13 => ?_) (fun c13 => ?_)
        · replace hf := if_t hf c13
          refine lv_aload_n hx hb dX2_scan_104 rfl (lv_at hl 1 rfl) ?_
          refine lv_dup hx hb dX2_scan_105 rfl ?_
          refine r_get X inw_X2 G 0 rfl rfl 7 (by decide) fl_X2_38 (v := .int (Rd_next RD7)) rfl dX2_scan_106 ?_
          refine lv_iconst (v := 1) hx hb dX2_scan_109 (by decide) ?_
          refine lv_iadd hx hb dX2_scan_110 ?_
          obtain ⟨RD14, eRD14, hf⟩ := nm_some hf
          refine r_put X inw_X2 tyX2 tyX2_ok nmX2 G 0 rfl rfl 7 (by decide) fl_X2_38 rfl rfl rfl (Nat.le_of_ble_eq_true rfl) (ws' := kRd k ot aRD (RD14) ++ (kTp k o1 aTP (TP))) (by subst eRD14; rfl) dX2_scan_111 (fun H locs G => ?_)
          refine lv_aload_n hx hb dX2_scan_114 rfl (lv_at hl 1 rfl) ?_
          refine lv_iload_n hx hb dX2_scan_115 rfl (lv_at hl 0 rfl) ?_
          refine lv_bipush (v := 59) hx hb dX2_scan_116 (by decide) ?_
          refine lv_icmp_ne (tgt := 125) hx hb dX2_scan_118 (by decide) (fun c15 => ?_) (fun c15 => ?_)
          · replace hf := if_f hf c15
            refine lv_iload_n hx hb dX2_scan_125 rfl (lv_at hl 0 rfl) ?_
            refine lv_bipush (v := 44) hx hb dX2_scan_126 (by decide) ?_
            refine lv_icmp_ne (tgt := 135) hx hb dX2_scan_128 (by decide) (fun c16 => ?_) (fun c16 => ?_)
            · replace hf := if_f hf c16
              refine lv_iconst (v := 5) hx hb dX2_scan_135 (by decide) ?_
              obtain ⟨RD17, eRD17, hf⟩ := nm_some hf
              refine r_put X inw_X2 tyX2 tyX2_ok nmX2 G 0 rfl rfl 4 (by decide) fl_X2_29 rfl rfl rfl (Nat.le_of_ble_eq_true rfl) (ws' := kRd k ot aRD (RD17) ++ (kTp k o1 aTP (TP))) (by subst eRD17; rfl) dX2_scan_136 (fun H locs G => ?_)
              cases hf
              exact e_mv X G dX2_scan_139
            · replace hf := if_t hf c16
              refine lv_iconst (v := 4) hx hb dX2_scan_131 (by decide) ?_
              refine lv_goto (tgt := 136) hx hb dX2_scan_132 (by decide) ?_
              obtain ⟨RD18, eRD18, hf⟩ := nm_some hf
              refine r_put X inw_X2 tyX2 tyX2_ok nmX2 G 0 rfl rfl 4 (by decide) fl_X2_29 rfl rfl rfl (Nat.le_of_ble_eq_true rfl) (ws' := kRd k ot aRD (RD18) ++ (kTp k o1 aTP (TP))) (by subst eRD18; rfl) dX2_scan_136 (fun H locs G => ?_)
              cases hf
              exact e_mv X G dX2_scan_139
          · replace hf := if_t hf c15
            refine lv_iconst (v := 3) hx hb dX2_scan_121 (by decide) ?_
            refine lv_goto (tgt := 136) hx hb dX2_scan_122 (by decide) ?_
            obtain ⟨RD19, eRD19, hf⟩ := nm_some hf
            refine r_put X inw_X2 tyX2 tyX2_ok nmX2 G 0 rfl rfl 4 (by decide) fl_X2_29 rfl rfl rfl (Nat.le_of_ble_eq_true rfl) (ws' := kRd k ot aRD (RD19) ++ (kTp k o1 aTP (TP))) (by subst eRD19; rfl) dX2_scan_136 (fun H locs G => ?_)
            cases hf
            exact e_mv X G dX2_scan_139
        · replace hf := if_f hf c13
          refine lv_aload_n hx hb dX2_scan_96 rfl (lv_at hl 1 rfl) ?_
          refine lv_aload_n hx hb dX2_scan_97 rfl (lv_at hl 2 rfl) ?_
          obtain ⟨r20, hcr20, hf⟩ := bd_some hf
          refine p_N (st1 := []) (wr := []) (ws' := kRd k ot aRD (r20) ++ (kTp k o1 aTP (TP))) (run_V (rest := []) X (ctX2_scanNumber (SZ_ok t) ot o1 aRD aTP hcr20) mk_X2_scanNumber ml_X2_148 ⟨(Nat.le_of_ble_eq_true rfl), (Nat.le_of_ble_eq_true rfl)⟩ G [0, 1, 2, 3] rfl rfl 0 rfl rfl rfl hl.1 rfl (Nat.le_of_ble_eq_true rfl) dX2_scan_98 ⟨Nat.zero_le _, Nat.zero_le _⟩) rfl G [0, 1, 2, 3] [] 4 rfl rfl rfl rfl rfl (by decide) (by decide) rfl (fun H locs G => ?_)
          refine lv_goto (tgt := 139) hx hb dX2_scan_101 (by decide) ?_
          cases hf
          exact e_mv X G dX2_scan_139
      · replace hf := if_f hf c11
        refine lv_aload_n hx hb dX2_scan_81 rfl (lv_at hl 1 rfl) ?_
        refine lv_aload_n hx hb dX2_scan_82 rfl (lv_at hl 2 rfl) ?_
        obtain ⟨r21, hcr21, hf⟩ := bd_some hf
        refine p_N (st1 := []) (wr := []) (ws' := kRd k ot aRD (r21) ++ (kTp k o1 aTP (TP))) (run_V (rest := []) X (ctX2_scanWord t ot o1 aRD aTP hcr21) mk_X2_scanWord ml_X2_142 ⟨(Nat.le_of_ble_eq_true rfl), (Nat.le_of_ble_eq_true rfl)⟩ G [0, 1, 2, 3] rfl rfl 0 rfl rfl rfl hl.1 rfl (Nat.le_of_ble_eq_true rfl) dX2_scan_83 ⟨Nat.zero_le _, Nat.zero_le _⟩) rfl G [0, 1, 2, 3] [] 4 rfl rfl rfl rfl rfl (by decide) (by decide) rfl (fun H locs G => ?_)
        refine lv_goto (tgt := 139) hx hb dX2_scan_86 (by decide) ?_
        cases hf
        exact e_mv X G dX2_scan_139
    · replace hf := if_f hf c9
      refine lv_aload_n hx hb dX2_scan_66 rfl (lv_at hl 1 rfl) ?_
      refine lv_iconst (v := 0) hx hb dX2_scan_67 (by decide) ?_
      obtain ⟨RD22, eRD22, hf⟩ := nm_some hf
      refine r_put X inw_X2 tyX2 tyX2_ok nmX2 G 0 rfl rfl 4 (by decide) fl_X2_29 rfl rfl rfl (Nat.le_of_ble_eq_true rfl) (ws' := kRd k ot aRD (RD22) ++ (kTp k o1 aTP (TP))) (by subst eRD22; rfl) dX2_scan_68 (fun H locs G => ?_)
      refine lv_goto (tgt := 139) hx hb dX2_scan_71 (by decide) ?_
      cases hf
      exact e_mv X G dX2_scan_139
  have LL1 : ∀ (n : Nat) (stL1 : RdT) (H : Heap) (locs : List Loc) (ls : Array Slot), Wo D (wA (kRd k ot aRD (RD) ++ (kTp k o1 aTP (TP)))) s.heap (kRd k ot aRD (stL1) ++ (kTp k o1 aTP (TP))) H locs → lv_has ls 3 [(0, .ref ot), (1, .ref o1)] → it (FX2_scan_0 TP) n stL1 = some exL1 → W p l e (rmz 6 132) s m [.ref ot, .ref o1].toArray below meth c H locs 0 0 (MQ below (Qm D none (kRd k ot aRD (RD) ++ (kTp k o1 aTP (TP))) (kRd k ot aRD (q) ++ (kTp k o1 aTP (TP)))) [.ref ot, .ref o1].toArray s 0 0 (wA (kRd k ot aRD (RD) ++ (kTp k o1 aTP (TP))))) (F0 m 0 ls []) := by
    intro n
    induction n with
    | zero =>
      intro stL1 H locs ls G hl hit
      exact (it_zero hit).elim
    | succ n ih =>
      intro stL1 H locs ls G hl hit
      obtain ⟨oL1, hf, hoL1⟩ := it_bd hit
      unfold FX2_scan_0 at hf
      refine lv_aload_n hx hb dX2_scan_0 rfl (lv_at hl 0 rfl) ?_
      refine r_get X inw_X2 G 0 rfl rfl 7 (by decide) fl_X2_38 (v := .int (Rd_next stL1)) rfl dX2_scan_1 ?_
      refine lv_aload_n hx hb dX2_scan_4 rfl (lv_at hl 1 rfl) ?_
      refine r_get X inw_X5 G 2 rfl rfl 1 (by decide) fl_X2_127 (v := .int (Tp_length TP)) rfl dX2_scan_5 ?_
      refine lv_icmp_ge (tgt := 38) hx hb dX2_scan_8 (by decide) (fun c2 => ?_) (fun c2 => ?_)
      · replace hf := if_t hf c2
        cases hf
        exact KL1_0 stL1 _ _ _ (it_out hoL1) G (lv_sub hl [0, 1] rfl)
      · replace hf := if_f hf c2
        refine lv_aload_n hx hb dX2_scan_11 rfl (lv_at hl 1 rfl) ?_
        refine lv_aload_n hx hb dX2_scan_12 rfl (lv_at hl 0 rfl) ?_
        refine r_get X inw_X2 G 0 rfl rfl 7 (by decide) fl_X2_38 (v := .int (Rd_next stL1)) rfl dX2_scan_13 ?_
        obtain ⟨r3, hcr3, hf⟩ := bd_some hf
        refine p_R (st1 := [.int r3]) (run_V (rest := []) X (ctX5_byteAt (SZ_ok t) o1 aTP hcr3) mk_X5_byteAt ml_X2_132 ⟨(Nat.le_of_ble_eq_true rfl), (Nat.le_of_ble_eq_true rfl)⟩ G [2, 3] rfl rfl 2 rfl rfl rfl hl.1 rfl (Nat.le_of_ble_eq_true rfl) dX2_scan_16 ⟨Nat.zero_le _, Nat.zero_le _⟩) rfl ?_
        obtain ⟨r4, hcr4, hf⟩ := bd_some hf
        refine p_R (st1 := [.int (bI r4)]) (run_S (rest := []) X (ctX2_isBlank (SZ_ok t) hcr4) mk_X2_isBlank ml_X2_135 ⟨(Nat.le_of_ble_eq_true rfl), (Nat.le_of_ble_eq_true rfl)⟩ G [] rfl rfl rfl hl.1 rfl (Nat.le_of_ble_eq_true rfl) dX2_scan_19 ⟨Nat.zero_le _, Nat.zero_le _⟩) rfl ?_
        refine lv_if_eq (tgt := 38) hx hb dX2_scan_22 (by decide) (fun c5 => ?_) (fun c5 => ?_)
        · replace hf := if_t hf c5
          cases hf
          exact KL1_0 stL1 _ _ _ (it_out hoL1) G (lv_sub hl [0, 1] rfl)
        · replace hf := if_f hf c5
          refine lv_aload_n hx hb dX2_scan_25 rfl (lv_at hl 0 rfl) ?_
          refine lv_dup hx hb dX2_scan_26 rfl ?_
          refine r_get X inw_X2 G 0 rfl rfl 7 (by decide) fl_X2_38 (v := .int (Rd_next stL1)) rfl dX2_scan_27 ?_
          refine lv_iconst (v := 1) hx hb dX2_scan_30 (by decide) ?_
          refine lv_iadd hx hb dX2_scan_31 ?_
          obtain ⟨RD6, eRD6, hf⟩ := nm_some hf
          refine r_put X inw_X2 tyX2 tyX2_ok nmX2 G 0 rfl rfl 7 (by decide) fl_X2_38 rfl rfl rfl (Nat.le_of_ble_eq_true rfl) (ws' := kRd k ot aRD (RD6) ++ (kTp k o1 aTP (TP))) (by subst eRD6; rfl) dX2_scan_32 (fun H locs G => ?_)
          refine lv_goto (tgt := 0) hx hb dX2_scan_35 (by decide) ?_
          cases hf
          exact ih RD6 _ _ _ G (lv_sub hl [0, 1] rfl) hoL1
  exact LL1 nL1 RD _ _ _ G (lv_sub hl [0, 1] rfl) hitL1
theorem mk_X2_scan : MV yX2_scan cX2_scan 3 none 1 := ⟨co_X2_scan, in_X2, im_X2_scan, se_X2_scan, by decide +kernel, by decide +kernel⟩
noncomputable def FX2_read_j73 (stL5 : Int32 × Int32 × Int32 × RdT × PlT) (vJ9 : Int32) (vJ10 : Int32 × RdT × PlT) : Option ((Int32 × Int32 × Int32 × RdT × PlT) ⊕ (RdT × PlT)) :=
  if vJ10.1 = (-1 : Int32) then (
    nm (sRd_fault vJ10.2.1 (1 : Int32)) fun RD13 =>
    nm (sRd_spot RD13 (Rd_start RD13)) fun RD14 =>
    nm (stL5.2.2.1 + 1) fun x15 =>
    some (.inl (vJ10.1, (0 : Int32), x15, RD14, vJ10.2.2))
  ) else (
    nm (stL5.2.2.1 + 1) fun x12 =>
    some (.inl (vJ10.1, vJ9, x12, vJ10.2.1, vJ10.2.2))
  )
noncomputable def FX2_read_j62 (stL5 : Int32 × Int32 × Int32 × RdT × PlT) (r8 : RdT) (vJ9 : Int32) : Option ((Int32 × Int32 × Int32 × RdT × PlT) ⊕ (RdT × PlT)) :=
  if vJ9 = 0 then (
    FX2_read_j73 stL5 vJ9 (stL5.1, r8, stL5.2.2.2.2)
  ) else (
    (FX2_follow r8 stL5.2.2.2.2 stL5.1).bind fun r17 =>
    FX2_read_j73 stL5 vJ9 (r17.1, r17.2.1, r17.2.2)
  )
noncomputable def FX2_read_29 (TP : TpT) : (Int32 × Int32 × Int32 × RdT × PlT) → Option ((Int32 × Int32 × Int32 × RdT × PlT) ⊕ (RdT × PlT)) := fun stL5 =>
  if (800 : Int32) < stL5.2.2.1 then (
    some (.inr (stL5.2.2.2.1, stL5.2.2.2.2))
  ) else (
    if stL5.2.1 = 0 then (
      some (.inr (stL5.2.2.2.1, stL5.2.2.2.2))
    ) else (
      (FX2_scan stL5.2.2.2.1 TP).bind fun r8 =>
      if (Rd_token r8) = 0 then (
        if stL5.1 = 0 then (
          FX2_read_j62 stL5 r8 (0 : Int32)
        ) else (
          FX2_read_j62 stL5 r8 (1 : Int32)
        )
      ) else (
        FX2_read_j62 stL5 r8 (1 : Int32)
      )
    )
  )
noncomputable def FX2_read (RD : RdT) (PL : PlT) (TP : TpT) : Option (RdT × PlT) :=
  (FX1_clear PL).bind fun r1 =>
  nm (sRd_fault RD (0 : Int32)) fun RD2 =>
  nm (sRd_spot RD2 (-1 : Int32)) fun RD3 =>
  nm (sRd_next RD3 (0 : Int32)) fun RD4 =>
  (itr (FX2_read_29 TP) ((0 : Int32), (1 : Int32), (0 : Int32), RD4, r1)).bind fun uL5 =>
  if (Rd_fault uL5.1) = 0 then (
    (FX2_seekStrangers uL5.1 uL5.2).bind fun r21 =>
    some (r21, uL5.2)
  ) else (
    some (uL5.1, uL5.2)
  )
set_option maxHeartbeats 4000000 in
set_option maxRecDepth 100000 in
theorem ctX2_read {l : Launch} {D : va_G} {k : Nat → ClassId} (t : Nat → Nat) (ot : Nat) (o1 : Nat) (aRD : Nat → Nat) (aPL : Nat → Nat) (aTP : Nat → Nat) {RD : RdT} {PL : PlT} {TP : TpT} {q : RdT × PlT} (hf : FX2_read RD PL TP = some q) :
    CM l D k (SZ t) yX2_read cX2_read 5 none 7 154 [.ref ot, .ref o1] none (kRd k ot aRD (RD) ++ (kPl k (aRD 0) aPL (PL) ++ (kTp k o1 aTP (TP)))) (kRd k ot aRD (q.1) ++ (kPl k (aRD 0) aPL (q.2) ++ (kTp k o1 aTP (TP)))) := by
  refine CM.start (SZ_ok t) (by decide) (Nat.le_of_ble_eq_true rfl) ?_
  intro p e s m below meth c ls X hl G
  have hx := X.1
  have hb := X.2.1
  have hz := X.2.2.2.2.2.2.2.2.1
  have hl : lv_has ls 5 [(0, .ref ot), (1, .ref o1)] := hl
  unfold FX2_read at hf
  refine lv_aload_n hx hb dX2_read_0 rfl (lv_at hl 0 rfl) ?_
  refine r_get X inw_X2 G 0 rfl rfl 0 (by decide) fl_X2_12 (v := .ref (aRD 0)) rfl dX2_read_1 ?_
  obtain ⟨r1, hcr1, hf⟩ := bd_some hf
  refine p_N (st1 := []) (wr := kRd k ot aRD (RD) ++ (kTp k o1 aTP (TP))) (ws' := kRd k ot aRD (RD) ++ (kPl k (aRD 0) aPL (r1) ++ (kTp k o1 aTP (TP)))) (run_V (rest := []) X (ctX1_clear (SZ_ok t) (aRD 0) aPL hcr1) mk_X1_clear ml_X2_50 ⟨(Nat.le_of_ble_eq_true rfl), (Nat.le_of_ble_eq_true rfl)⟩ G [2, 3, 4, 5, 6, 7] rfl rfl 2 rfl rfl rfl hl.1 rfl (Nat.le_of_ble_eq_true rfl) dX2_read_4 ⟨Nat.zero_le _, Nat.zero_le _⟩) rfl G [2, 3, 4, 5, 6, 7] [0, 1, 8, 9] 10 rfl rfl rfl rfl rfl (by decide) (by decide) rfl (fun H locs G => ?_)
  refine lv_aload_n hx hb dX2_read_7 rfl (lv_at hl 0 rfl) ?_
  refine lv_iconst (v := 0) hx hb dX2_read_8 (by decide) ?_
  obtain ⟨RD2, eRD2, hf⟩ := nm_some hf
  refine r_put X inw_X2 tyX2 tyX2_ok nmX2 G 0 rfl rfl 2 (by decide) fl_X2_22 rfl rfl rfl (Nat.le_of_ble_eq_true rfl) (ws' := kRd k ot aRD (RD2) ++ (kPl k (aRD 0) aPL (r1) ++ (kTp k o1 aTP (TP)))) (by subst eRD2; rfl) dX2_read_9 (fun H locs G => ?_)
  refine lv_aload_n hx hb dX2_read_12 rfl (lv_at hl 0 rfl) ?_
  refine lv_iconst (v := -1) hx hb dX2_read_13 (by decide) ?_
  obtain ⟨RD3, eRD3, hf⟩ := nm_some hf
  refine r_put X inw_X2 tyX2 tyX2_ok nmX2 G 0 rfl rfl 3 (by decide) fl_X2_26 rfl rfl rfl (Nat.le_of_ble_eq_true rfl) (ws' := kRd k ot aRD (RD3) ++ (kPl k (aRD 0) aPL (r1) ++ (kTp k o1 aTP (TP)))) (by subst eRD3; rfl) dX2_read_14 (fun H locs G => ?_)
  refine lv_aload_n hx hb dX2_read_17 rfl (lv_at hl 0 rfl) ?_
  refine lv_iconst (v := 0) hx hb dX2_read_18 (by decide) ?_
  obtain ⟨RD4, eRD4, hf⟩ := nm_some hf
  refine r_put X inw_X2 tyX2 tyX2_ok nmX2 G 0 rfl rfl 7 (by decide) fl_X2_38 rfl rfl rfl (Nat.le_of_ble_eq_true rfl) (ws' := kRd k ot aRD (RD4) ++ (kPl k (aRD 0) aPL (r1) ++ (kTp k o1 aTP (TP)))) (by subst eRD4; rfl) dX2_read_19 (fun H locs G => ?_)
  refine lv_iconst (v := 0) hx hb dX2_read_22 (by decide) ?_
  refine lv_istore_n (lv' := [(2, .int (0 : Int32)), (0, .ref ot), (1, .ref o1)]) hx hb dX2_read_23 rfl hl (by decide) rfl (fun ls hl => ?_)
  refine lv_iconst (v := 1) hx hb dX2_read_24 (by decide) ?_
  refine lv_istore_n (lv' := [(3, .int (1 : Int32)), (2, .int (0 : Int32)), (0, .ref ot), (1, .ref o1)]) hx hb dX2_read_25 rfl hl (by decide) rfl (fun ls hl => ?_)
  refine lv_iconst (v := 0) hx hb dX2_read_26 (by decide) ?_
  refine lv_istore (lv' := [(4, .int (0 : Int32)), (3, .int (1 : Int32)), (2, .int (0 : Int32)), (0, .ref ot), (1, .ref o1)]) hx hb dX2_read_27 hl (by decide) rfl (fun ls hl => ?_)
  obtain ⟨exL5, hitL5, hfL5⟩ := bd_some hf
  obtain ⟨nL5, hitL5⟩ := itr_ex hitL5
  have KL5_0 : ∀ (u : RdT × PlT) (H : Heap) (locs : List Loc) (ls : Array Slot), exL5 = u → Wo D (wA (kRd k ot aRD (RD) ++ (kPl k (aRD 0) aPL (PL) ++ (kTp k o1 aTP (TP))))) s.heap (kRd k ot aRD (u.1) ++ (kPl k (aRD 0) aPL (u.2) ++ (kTp k o1 aTP (TP)))) H locs → lv_has ls 5 [(0, .ref ot)] → W p l e (rmz 7 154) s m [.ref ot, .ref o1].toArray below meth c H locs 0 0 (MQ below (Qm D none (kRd k ot aRD (RD) ++ (kPl k (aRD 0) aPL (PL) ++ (kTp k o1 aTP (TP)))) (kRd k ot aRD (q.1) ++ (kPl k (aRD 0) aPL (q.2) ++ (kTp k o1 aTP (TP))))) [.ref ot, .ref o1].toArray s 0 0 (wA (kRd k ot aRD (RD) ++ (kPl k (aRD 0) aPL (PL) ++ (kTp k o1 aTP (TP)))))) (F0 m 99 ls []) := by
    intro uL5 H locs ls hex G hl
    rw [hex] at hfL5
    have hf := hfL5
    refine lv_aload_n hx hb dX2_read_99 rfl (lv_at hl 0 rfl) ?_
    refine r_get X inw_X2 G 0 rfl rfl 2 (by decide) fl_X2_22 (v := .int (Rd_fault uL5.1)) rfl dX2_read_100 ?_
    refine lv_if_ne (tgt := 110) hx hb dX2_read_103 (by decide) (fun c20 => ?_) (fun c20 => ?_)
    · replace hf := if_f hf c20
      cases hf
      exact e_mv X G dX2_read_110
    · replace hf := if_t hf c20
      refine lv_aload_n hx hb dX2_read_106 rfl (lv_at hl 0 rfl) ?_
      obtain ⟨r21, hcr21, hf⟩ := bd_some hf
      refine p_N (st1 := []) (wr := kTp k o1 aTP (TP)) (ws' := kRd k ot aRD (r21) ++ (kPl k (aRD 0) aPL (uL5.2) ++ (kTp k o1 aTP (TP)))) (run_V (rest := []) X (ctX2_seekStrangers (SZ_ok t) ot aRD aPL hcr21) mk_X2_seekStrangers ml_X2_61 ⟨(Nat.le_of_ble_eq_true rfl), (Nat.le_of_ble_eq_true rfl)⟩ G [0, 1, 2, 3, 4, 5, 6, 7] rfl rfl 0 rfl rfl rfl hl.1 rfl (Nat.le_of_ble_eq_true rfl) dX2_read_107 ⟨Nat.zero_le _, Nat.zero_le _⟩) rfl G [0, 1, 2, 3, 4, 5, 6, 7] [8, 9] 10 rfl rfl rfl rfl rfl (by decide) (by decide) rfl (fun H locs G => ?_)
      cases hf
      exact e_mv X G dX2_read_110
  have LL5 : ∀ (n : Nat) (stL5 : Int32 × Int32 × Int32 × RdT × PlT) (H : Heap) (locs : List Loc) (ls : Array Slot), Wo D (wA (kRd k ot aRD (RD) ++ (kPl k (aRD 0) aPL (PL) ++ (kTp k o1 aTP (TP))))) s.heap (kRd k ot aRD (stL5.2.2.2.1) ++ (kPl k (aRD 0) aPL (stL5.2.2.2.2) ++ (kTp k o1 aTP (TP)))) H locs → lv_has ls 5 [(0, .ref ot), (1, .ref o1), (2, .int (stL5.1)), (3, .int (stL5.2.1)), (4, .int (stL5.2.2.1))] → it (FX2_read_29 TP) n stL5 = some exL5 → W p l e (rmz 7 154) s m [.ref ot, .ref o1].toArray below meth c H locs 0 0 (MQ below (Qm D none (kRd k ot aRD (RD) ++ (kPl k (aRD 0) aPL (PL) ++ (kTp k o1 aTP (TP)))) (kRd k ot aRD (q.1) ++ (kPl k (aRD 0) aPL (q.2) ++ (kTp k o1 aTP (TP))))) [.ref ot, .ref o1].toArray s 0 0 (wA (kRd k ot aRD (RD) ++ (kPl k (aRD 0) aPL (PL) ++ (kTp k o1 aTP (TP)))))) (F0 m 29 ls []) := by
    intro n
    induction n with
    | zero =>
      intro stL5 H locs ls G hl hit
      exact (it_zero hit).elim
    | succ n ih =>
      intro stL5 H locs ls G hl hit
      obtain ⟨oL5, hf, hoL5⟩ := it_bd hit
      unfold FX2_read_29 at hf
      refine lv_iload hx hb dX2_read_29 (lv_at hl 4 rfl) ?_
      refine lv_sipush (v := 800) hx hb dX2_read_31 (by decide) ?_
      refine lv_icmp_gt (tgt := 99) hx hb dX2_read_34 (by decide) (fun c6 => ?_) (fun c6 => ?_)
      · replace hf := if_t hf c6
        cases hf
        exact KL5_0 (stL5.2.2.2.1, stL5.2.2.2.2) _ _ _ (it_out hoL5) G (lv_sub hl [0] rfl)
      · replace hf := if_f hf c6
        refine lv_iload_n hx hb dX2_read_37 rfl (lv_at hl 3 rfl) ?_
        refine lv_if_eq (tgt := 99) hx hb dX2_read_38 (by decide) (fun c7 => ?_) (fun c7 => ?_)
        · replace hf := if_t hf c7
          cases hf
          exact KL5_0 (stL5.2.2.2.1, stL5.2.2.2.2) _ _ _ (it_out hoL5) G (lv_sub hl [0] rfl)
        · replace hf := if_f hf c7
          refine lv_aload_n hx hb dX2_read_41 rfl (lv_at hl 0 rfl) ?_
          refine lv_aload_n hx hb dX2_read_42 rfl (lv_at hl 1 rfl) ?_
          obtain ⟨r8, hcr8, hf⟩ := bd_some hf
          refine p_N (st1 := []) (wr := kPl k (aRD 0) aPL (stL5.2.2.2.2)) (ws' := kRd k ot aRD (r8) ++ (kPl k (aRD 0) aPL (stL5.2.2.2.2) ++ (kTp k o1 aTP (TP)))) (run_V (rest := []) X (ctX2_scan t ot o1 aRD aTP hcr8) mk_X2_scan ml_X2_53 ⟨(Nat.le_of_ble_eq_true rfl), (Nat.le_of_ble_eq_true rfl)⟩ G [0, 1, 8, 9] rfl rfl 0 rfl rfl rfl hl.1 rfl (Nat.le_of_ble_eq_true rfl) dX2_read_43 ⟨Nat.zero_le _, Nat.zero_le _⟩) rfl G [0, 1, 8, 9] [2, 3, 4, 5, 6, 7] 10 rfl rfl rfl rfl rfl (by decide) (by decide) rfl (fun H locs G => ?_)
          refine lv_aload_n hx hb dX2_read_46 rfl (lv_at hl 0 rfl) ?_
          refine r_get X inw_X2 G 0 rfl rfl 4 (by decide) fl_X2_29 (v := .int (Rd_token r8)) rfl dX2_read_47 ?_
          have JJ9 : ∀ (vJ9 : Int32) (H : Heap) (locs : List Loc) (ls : Array Slot), Wo D (wA (kRd k ot aRD (RD) ++ (kPl k (aRD 0) aPL (PL) ++ (kTp k o1 aTP (TP))))) s.heap (kRd k ot aRD (r8) ++ (kPl k (aRD 0) aPL (stL5.2.2.2.2) ++ (kTp k o1 aTP (TP)))) H locs → lv_has ls 5 [(0, .ref ot), (1, .ref o1), (2, .int (stL5.1)), (4, .int (stL5.2.2.1))] → FX2_read_j62 stL5 r8 vJ9 = some oL5 → W p l e (rmz 7 154) s m [.ref ot, .ref o1].toArray below meth c H locs 0 0 (MQ below (Qm D none (kRd k ot aRD (RD) ++ (kPl k (aRD 0) aPL (PL) ++ (kTp k o1 aTP (TP)))) (kRd k ot aRD (q.1) ++ (kPl k (aRD 0) aPL (q.2) ++ (kTp k o1 aTP (TP))))) [.ref ot, .ref o1].toArray s 0 0 (wA (kRd k ot aRD (RD) ++ (kPl k (aRD 0) aPL (PL) ++ (kTp k o1 aTP (TP)))))) (F0 m 62 ls [.int vJ9]) := by
            intro vJ9 H locs ls G hl hf
            unfold FX2_read_j62 at hf
            refine lv_istore_n (lv' := [(3, .int vJ9), (0, .ref ot), (1, .ref o1), (2, .int (stL5.1)), (4, .int (stL5.2.2.1))]) hx hb dX2_read_62 rfl hl (by decide) rfl (fun ls hl => ?_)
            refine lv_iload_n hx hb dX2_read_63 rfl (lv_at hl 0 rfl) ?_
            have JJ10 : ∀ (vJ10 : Int32 × RdT × PlT) (H : Heap) (locs : List Loc) (ls : Array Slot), Wo D (wA (kRd k ot aRD (RD) ++ (kPl k (aRD 0) aPL (PL) ++ (kTp k o1 aTP (TP))))) s.heap (kRd k ot aRD (vJ10.2.1) ++ (kPl k (aRD 0) aPL (vJ10.2.2) ++ (kTp k o1 aTP (TP)))) H locs → lv_has ls 5 [(0, .ref ot), (1, .ref o1), (2, .int (vJ10.1)), (3, .int vJ9), (4, .int (stL5.2.2.1))] → FX2_read_j73 stL5 vJ9 vJ10 = some oL5 → W p l e (rmz 7 154) s m [.ref ot, .ref o1].toArray below meth c H locs 0 0 (MQ below (Qm D none (kRd k ot aRD (RD) ++ (kPl k (aRD 0) aPL (PL) ++ (kTp k o1 aTP (TP)))) (kRd k ot aRD (q.1) ++ (kPl k (aRD 0) aPL (q.2) ++ (kTp k o1 aTP (TP))))) [.ref ot, .ref o1].toArray s 0 0 (wA (kRd k ot aRD (RD) ++ (kPl k (aRD 0) aPL (PL) ++ (kTp k o1 aTP (TP)))))) (F0 m 73 ls []) := by
              intro vJ10 H locs ls G hl hf
              unfold FX2_read_j73 at hf
              refine lv_iload_n hx hb dX2_read_73 rfl (lv_at hl 2 rfl) ?_
              refine lv_iconst (v := -1) hx hb dX2_read_74 (by decide) ?_
              refine lv_icmp_ne (tgt := 93) hx hb dX2_read_75 (by decide) (fun c11 => ?_) (fun c11 => ?_)
              · replace hf := if_f hf c11
                obtain ⟨x12, ex12, hf⟩ := nm_some hf
                refine lv_iinc (v := x12) (lv' := [(4, .int x12), (0, .ref ot), (1, .ref o1), (2, .int (vJ10.1)), (3, .int vJ9)]) hx hb dX2_read_93 hl (k := 4) rfl (by subst ex12; rfl) (by decide) rfl (fun ls hl => ?_)
                refine lv_goto (tgt := 29) hx hb dX2_read_96 (by decide) ?_
                cases hf
                exact ih (vJ10.1, vJ9, x12, vJ10.2.1, vJ10.2.2) _ _ _ G (lv_sub hl [1, 2, 3, 4, 0] rfl) hoL5
              · replace hf := if_t hf c11
                refine lv_aload_n hx hb dX2_read_78 rfl (lv_at hl 0 rfl) ?_
                refine lv_iconst (v := 1) hx hb dX2_read_79 (by decide) ?_
                obtain ⟨RD13, eRD13, hf⟩ := nm_some hf
                refine r_put X inw_X2 tyX2 tyX2_ok nmX2 G 0 rfl rfl 2 (by decide) fl_X2_22 rfl rfl rfl (Nat.le_of_ble_eq_true rfl) (ws' := kRd k ot aRD (RD13) ++ (kPl k (aRD 0) aPL (vJ10.2.2) ++ (kTp k o1 aTP (TP)))) (by subst eRD13; rfl) dX2_read_80 (fun H locs G => ?_)
                refine lv_aload_n hx hb dX2_read_83 rfl (lv_at hl 0 rfl) ?_
                refine lv_aload_n hx hb dX2_read_84 rfl (lv_at hl 0 rfl) ?_
                refine r_get X inw_X2 G 0 rfl rfl 5 (by decide) fl_X2_32 (v := .int (Rd_start RD13)) rfl dX2_read_85 ?_
                obtain ⟨RD14, eRD14, hf⟩ := nm_some hf
                refine r_put X inw_X2 tyX2 tyX2_ok nmX2 G 0 rfl rfl 3 (by decide) fl_X2_26 rfl rfl rfl (Nat.le_of_ble_eq_true rfl) (ws' := kRd k ot aRD (RD14) ++ (kPl k (aRD 0) aPL (vJ10.2.2) ++ (kTp k o1 aTP (TP)))) (by subst eRD14; rfl) dX2_read_88 (fun H locs G => ?_)
                refine lv_iconst (v := 0) hx hb dX2_read_91 (by decide) ?_
                refine lv_istore_n (lv' := [(3, .int (0 : Int32)), (0, .ref ot), (1, .ref o1), (2, .int (vJ10.1)), (4, .int (stL5.2.2.1))]) hx hb dX2_read_92 rfl hl (by decide) rfl (fun ls hl => ?_)
                obtain ⟨x15, ex15, hf⟩ := nm_some hf
                refine lv_iinc (v := x15) (lv' := [(4, .int x15), (3, .int (0 : Int32)), (0, .ref ot), (1, .ref o1), (2, .int (vJ10.1))]) hx hb dX2_read_93 hl (k := 4) rfl (by subst ex15; rfl) (by decide) rfl (fun ls hl => ?_)
                refine lv_goto (tgt := 29) hx hb dX2_read_96 (by decide) ?_
                cases hf
                exact ih (vJ10.1, (0 : Int32), x15, RD14, vJ10.2.2) _ _ _ G (lv_sub hl [2, 3, 4, 1, 0] rfl) hoL5
            refine lv_if_eq (tgt := 73) hx hb dX2_read_64 (by decide) (fun c16 => ?_) (fun c16 => ?_)
            · replace hf := if_t hf c16
              exact JJ10 (stL5.1, r8, stL5.2.2.2.2) _ _ _ G (lv_sub hl [1, 2, 3, 0, 4] rfl) hf
            · replace hf := if_f hf c16
              refine lv_aload_n hx hb dX2_read_67 rfl (lv_at hl 1 rfl) ?_
              refine lv_iload_n hx hb dX2_read_68 rfl (lv_at hl 3 rfl) ?_
              obtain ⟨r17, hcr17, hf⟩ := bd_some hf
              refine p_N (st1 := [.int (r17.1)]) (wr := kTp k o1 aTP (TP)) (ws' := kRd k ot aRD (r17.2.1) ++ (kPl k (aRD 0) aPL (r17.2.2) ++ (kTp k o1 aTP (TP)))) (run_V (rest := []) X (ctX2_follow t ot aRD aPL hcr17) mk_X2_follow ml_X2_57 ⟨(Nat.le_of_ble_eq_true rfl), (Nat.le_of_ble_eq_true rfl)⟩ G [0, 1, 2, 3, 4, 5, 6, 7] rfl rfl 0 rfl rfl rfl hl.1 rfl (Nat.le_of_ble_eq_true rfl) dX2_read_69 ⟨Nat.zero_le _, Nat.zero_le _⟩) rfl G [0, 1, 2, 3, 4, 5, 6, 7] [8, 9] 10 rfl rfl rfl rfl rfl (by decide) (by decide) rfl (fun H locs G => ?_)
              refine lv_istore_n (lv' := [(2, .int (r17.1)), (3, .int vJ9), (0, .ref ot), (1, .ref o1), (4, .int (stL5.2.2.1))]) hx hb dX2_read_72 rfl hl (by decide) rfl (fun ls hl => ?_)
              exact JJ10 (r17.1, r17.2.1, r17.2.2) _ _ _ G (lv_sub hl [2, 3, 0, 1, 4] rfl) hf
          refine lv_if_ne (tgt := 57) hx hb dX2_read_50 (by decide) (fun c18 => ?_) (fun c18 => ?_)
          · replace hf := if_f hf c18
            refine lv_iconst (v := 1) hx hb dX2_read_57 (by decide) ?_
            refine lv_goto (tgt := 62) hx hb dX2_read_58 (by decide) ?_
            exact JJ9 (1 : Int32) _ _ _ G (lv_sub hl [0, 1, 2, 4] rfl) hf
          · replace hf := if_t hf c18
            refine lv_iload_n hx hb dX2_read_53 rfl (lv_at hl 2 rfl) ?_
            refine lv_if_eq (tgt := 61) hx hb dX2_read_54 (by decide) (fun c19 => ?_) (fun c19 => ?_)
            · replace hf := if_t hf c19
              refine lv_iconst (v := 0) hx hb dX2_read_61 (by decide) ?_
              exact JJ9 (0 : Int32) _ _ _ G (lv_sub hl [0, 1, 2, 4] rfl) hf
            · replace hf := if_f hf c19
              refine lv_iconst (v := 1) hx hb dX2_read_57 (by decide) ?_
              refine lv_goto (tgt := 62) hx hb dX2_read_58 (by decide) ?_
              exact JJ9 (1 : Int32) _ _ _ G (lv_sub hl [0, 1, 2, 4] rfl) hf
  exact LL5 nL5 ((0 : Int32), (1 : Int32), (0 : Int32), RD4, r1) _ _ _ G (lv_sub hl [3, 4, 2, 1, 0] rfl) hitL5
theorem mk_X2_read : MV yX2_read cX2_read 5 none 1 := ⟨co_X2_read, in_X2, im_X2_read, se_X2_read, by decide +kernel, by decide +kernel⟩
noncomputable def FX9_text (HI : HiT) (WD : WdT) (PL : PlT) (SC : ScT) (SK : SkT) (TP : TpT) (RD : RdT) (PL_2 : PlT) : Option (Int32 × HiT × WdT × PlT × ScT × SkT × TpT × RdT × PlT) :=
  (FX2_read RD PL_2 TP).bind fun r1 =>
  nm (sTp_length TP (0 : Int32)) fun TP2 =>
  nm (sWd_fault WD (Rd_fault r1.1)) fun WD3 =>
  nm (sWd_spot WD3 (Rd_spot r1.1)) fun WD4 =>
  if (Rd_fault r1.1) = 0 then (
    (FX1_take PL r1.2).bind fun r6 =>
    (FX1_findReach r6).bind fun r7 =>
    (FX3_begin SC r7).bind fun r8 =>
    (FX4_clear SK).bind fun r9 =>
    (FX0_clear HI).bind fun r10 =>
    some (Pl_workers r7, r10, WD4, r7, r8, r9, TP2, r1.1, r1.2)
  ) else (
    some ((-1 : Int32), HI, WD4, PL, SC, SK, TP2, r1.1, r1.2)
  )
set_option maxHeartbeats 4000000 in
set_option maxRecDepth 100000 in
theorem ctX9_text {l : Launch} {D : va_G} {k : Nat → ClassId} (t : Nat → Nat) (ot : Nat) (aHW : Nat → Nat) (aHI : Nat → Nat) (aWD : Nat → Nat) (aPL : Nat → Nat) (aSC : Nat → Nat) (aSK : Nat → Nat) (aTP : Nat → Nat) (aRD : Nat → Nat) (aPL_2 : Nat → Nat) {HI : HiT} {WD : WdT} {PL : PlT} {SC : ScT} {SK : SkT} {TP : TpT} {RD : RdT} {PL_2 : PlT} {q : Int32 × HiT × WdT × PlT × ScT × SkT × TpT × RdT × PlT} (hf : FX9_text HI WD PL SC SK TP RD PL_2 = some q) :
    CM l D k (SZ t) yX9_text cX9_text 1 (some .int) 8 178 [.ref ot] (some (.int q.1)) (kHw k ot aHW () ++ (kHi k (aHW 2) aHI (HI) ++ (kWd k (aHW 0) aWD (WD) ++ (kPl k (aWD 0) aPL (PL) ++ (kSc k (aWD 1) aSC (SC) ++ (kSk k (aWD 2) aSK (SK) ++ (kTp k (aWD 3) aTP (TP) ++ (kRd k (aHW 3) aRD (RD) ++ (kPl k (aRD 0) aPL_2 (PL_2)))))))))) (kHw k ot aHW () ++ (kHi k (aHW 2) aHI (q.2.1) ++ (kWd k (aHW 0) aWD (q.2.2.1) ++ (kPl k (aWD 0) aPL (q.2.2.2.1) ++ (kSc k (aWD 1) aSC (q.2.2.2.2.1) ++ (kSk k (aWD 2) aSK (q.2.2.2.2.2.1) ++ (kTp k (aWD 3) aTP (q.2.2.2.2.2.2.1) ++ (kRd k (aHW 3) aRD (q.2.2.2.2.2.2.2.1) ++ (kPl k (aRD 0) aPL_2 (q.2.2.2.2.2.2.2.2)))))))))) := by
  refine CM.start (SZ_ok t) (by decide) (Nat.le_of_ble_eq_true rfl) ?_
  intro p e s m below meth c ls X hl G
  have hx := X.1
  have hb := X.2.1
  have hz := X.2.2.2.2.2.2.2.2.1
  have hl : lv_has ls 1 [(0, .ref ot)] := hl
  unfold FX9_text at hf
  refine lv_aload_n hx hb dX9_text_0 rfl (lv_at hl 0 rfl) ?_
  refine r_get X inw_X9 G 0 rfl rfl 3 (by decide) fl_X9_30 (v := .ref (aHW 3)) rfl dX9_text_1 ?_
  refine lv_aload_n hx hb dX9_text_4 rfl (lv_at hl 0 rfl) ?_
  refine r_get X inw_X9 G 0 rfl rfl 0 (by decide) fl_X9_10 (v := .ref (aHW 0)) rfl dX9_text_5 ?_
  refine r_get X inw_X8 G 4 rfl rfl 3 (by decide) fl_X9_55 (v := .ref (aWD 3)) rfl dX9_text_8 ?_
  obtain ⟨r1, hcr1, hf⟩ := bd_some hf
  refine p_N (st1 := []) (wr := kHw k ot aHW () ++ (kHi k (aHW 2) aHI (HI) ++ (kWd k (aHW 0) aWD (WD) ++ (kPl k (aWD 0) aPL (PL) ++ (kSc k (aWD 1) aSC (SC) ++ (kSk k (aWD 2) aSK (SK))))))) (ws' := kHw k ot aHW () ++ (kHi k (aHW 2) aHI (HI) ++ (kWd k (aHW 0) aWD (WD) ++ (kPl k (aWD 0) aPL (PL) ++ (kSc k (aWD 1) aSC (SC) ++ (kSk k (aWD 2) aSK (SK) ++ (kTp k (aWD 3) aTP (TP) ++ (kRd k (aHW 3) aRD (r1.1) ++ (kPl k (aRD 0) aPL_2 (r1.2)))))))))) (run_V (rest := []) X (ctX2_read t (aHW 3) (aWD 3) aRD aPL_2 aTP hcr1) mk_X2_read ml_X9_69 ⟨(Nat.le_of_ble_eq_true rfl), (Nat.le_of_ble_eq_true rfl)⟩ G [24, 25, 26, 27, 28, 29, 30, 31, 22, 23] rfl rfl 24 rfl rfl rfl hl.1 rfl (Nat.le_of_ble_eq_true rfl) dX9_text_11 ⟨Nat.zero_le _, Nat.zero_le _⟩) rfl G [24, 25, 26, 27, 28, 29, 30, 31, 22, 23] [0, 1, 2, 3, 4, 5, 6, 7, 8, 9, 10, 11, 12, 13, 14, 15, 16, 17, 18, 19, 20, 21] 32 rfl rfl rfl rfl rfl (by decide) (by decide) rfl (fun H locs G => ?_)
  refine lv_aload_n hx hb dX9_text_14 rfl (lv_at hl 0 rfl) ?_
  refine r_get X inw_X9 G 0 rfl rfl 0 (by decide) fl_X9_10 (v := .ref (aHW 0)) rfl dX9_text_15 ?_
  refine r_get X inw_X8 G 4 rfl rfl 3 (by decide) fl_X9_55 (v := .ref (aWD 3)) rfl dX9_text_18 ?_
  refine lv_iconst (v := 0) hx hb dX9_text_21 (by decide) ?_
  obtain ⟨TP2, eTP2, hf⟩ := nm_some hf
  refine r_put X inw_X5 tyX5 tyX5_ok nmX5 G 22 rfl rfl 1 (by decide) fl_X9_59 rfl rfl rfl (Nat.le_of_ble_eq_true rfl) (ws' := kHw k ot aHW () ++ (kHi k (aHW 2) aHI (HI) ++ (kWd k (aHW 0) aWD (WD) ++ (kPl k (aWD 0) aPL (PL) ++ (kSc k (aWD 1) aSC (SC) ++ (kSk k (aWD 2) aSK (SK) ++ (kTp k (aWD 3) aTP (TP2) ++ (kRd k (aHW 3) aRD (r1.1) ++ (kPl k (aRD 0) aPL_2 (r1.2)))))))))) (by subst eTP2; rfl) dX9_text_22 (fun H locs G => ?_)
  refine lv_aload_n hx hb dX9_text_25 rfl (lv_at hl 0 rfl) ?_
  refine r_get X inw_X9 G 0 rfl rfl 0 (by decide) fl_X9_10 (v := .ref (aHW 0)) rfl dX9_text_26 ?_
  refine lv_aload_n hx hb dX9_text_29 rfl (lv_at hl 0 rfl) ?_
  refine r_get X inw_X9 G 0 rfl rfl 3 (by decide) fl_X9_30 (v := .ref (aHW 3)) rfl dX9_text_30 ?_
  refine r_get X inw_X2 G 24 rfl rfl 2 (by decide) fl_X9_73 (v := .int (Rd_fault r1.1)) rfl dX9_text_33 ?_
  obtain ⟨WD3, eWD3, hf⟩ := nm_some hf
  refine r_put X inw_X8 tyX8 tyX8_ok nmX8 G 4 rfl rfl 4 (by decide) fl_X9_76 rfl rfl rfl (Nat.le_of_ble_eq_true rfl) (ws' := kHw k ot aHW () ++ (kHi k (aHW 2) aHI (HI) ++ (kWd k (aHW 0) aWD (WD3) ++ (kPl k (aWD 0) aPL (PL) ++ (kSc k (aWD 1) aSC (SC) ++ (kSk k (aWD 2) aSK (SK) ++ (kTp k (aWD 3) aTP (TP2) ++ (kRd k (aHW 3) aRD (r1.1) ++ (kPl k (aRD 0) aPL_2 (r1.2)))))))))) (by subst eWD3; rfl) dX9_text_36 (fun H locs G => ?_)
  refine lv_aload_n hx hb dX9_text_39 rfl (lv_at hl 0 rfl) ?_
  refine r_get X inw_X9 G 0 rfl rfl 0 (by decide) fl_X9_10 (v := .ref (aHW 0)) rfl dX9_text_40 ?_
  refine lv_aload_n hx hb dX9_text_43 rfl (lv_at hl 0 rfl) ?_
  refine r_get X inw_X9 G 0 rfl rfl 3 (by decide) fl_X9_30 (v := .ref (aHW 3)) rfl dX9_text_44 ?_
  refine r_get X inw_X2 G 24 rfl rfl 3 (by decide) fl_X9_77 (v := .int (Rd_spot r1.1)) rfl dX9_text_47 ?_
  obtain ⟨WD4, eWD4, hf⟩ := nm_some hf
  refine r_put X inw_X8 tyX8 tyX8_ok nmX8 G 4 rfl rfl 5 (by decide) fl_X9_80 rfl rfl rfl (Nat.le_of_ble_eq_true rfl) (ws' := kHw k ot aHW () ++ (kHi k (aHW 2) aHI (HI) ++ (kWd k (aHW 0) aWD (WD4) ++ (kPl k (aWD 0) aPL (PL) ++ (kSc k (aWD 1) aSC (SC) ++ (kSk k (aWD 2) aSK (SK) ++ (kTp k (aWD 3) aTP (TP2) ++ (kRd k (aHW 3) aRD (r1.1) ++ (kPl k (aRD 0) aPL_2 (r1.2)))))))))) (by subst eWD4; rfl) dX9_text_50 (fun H locs G => ?_)
  refine lv_aload_n hx hb dX9_text_53 rfl (lv_at hl 0 rfl) ?_
  refine r_get X inw_X9 G 0 rfl rfl 3 (by decide) fl_X9_30 (v := .ref (aHW 3)) rfl dX9_text_54 ?_
  refine r_get X inw_X2 G 24 rfl rfl 2 (by decide) fl_X9_73 (v := .int (Rd_fault r1.1)) rfl dX9_text_57 ?_
  refine lv_if_eq (tgt := 65) hx hb dX9_text_60 (by decide) (fun c5 => ?_) (fun c5 => ?_)
  · replace hf := if_t hf c5
    refine lv_aload_n hx hb dX9_text_65 rfl (lv_at hl 0 rfl) ?_
    refine r_get X inw_X9 G 0 rfl rfl 0 (by decide) fl_X9_10 (v := .ref (aHW 0)) rfl dX9_text_66 ?_
    refine r_get X inw_X8 G 4 rfl rfl 0 (by decide) fl_X9_81 (v := .ref (aWD 0)) rfl dX9_text_69 ?_
    refine lv_aload_n hx hb dX9_text_72 rfl (lv_at hl 0 rfl) ?_
    refine r_get X inw_X9 G 0 rfl rfl 3 (by decide) fl_X9_30 (v := .ref (aHW 3)) rfl dX9_text_73 ?_
    refine r_get X inw_X2 G 24 rfl rfl 0 (by decide) fl_X9_85 (v := .ref (aRD 0)) rfl dX9_text_76 ?_
    obtain ⟨r6, hcr6, hf⟩ := bd_some hf
    refine p_N (st1 := []) (wr := kHw k ot aHW () ++ (kHi k (aHW 2) aHI (HI) ++ (kWd k (aHW 0) aWD (WD4) ++ (kSc k (aWD 1) aSC (SC) ++ (kSk k (aWD 2) aSK (SK) ++ (kTp k (aWD 3) aTP (TP2) ++ (kRd k (aHW 3) aRD (r1.1)))))))) (ws' := kHw k ot aHW () ++ (kHi k (aHW 2) aHI (HI) ++ (kWd k (aHW 0) aWD (WD4) ++ (kPl k (aWD 0) aPL (r6) ++ (kSc k (aWD 1) aSC (SC) ++ (kSk k (aWD 2) aSK (SK) ++ (kTp k (aWD 3) aTP (TP2) ++ (kRd k (aHW 3) aRD (r1.1) ++ (kPl k (aRD 0) aPL_2 (r1.2)))))))))) (run_V (rest := []) X (ctX1_take (SZ_ok t) (aWD 0) (aRD 0) aPL aPL_2 hcr6) mk_X1_take ml_X9_88 ⟨(Nat.le_of_ble_eq_true rfl), (Nat.le_of_ble_eq_true rfl)⟩ G [5, 6, 7, 8, 9, 10, 26, 27, 28, 29, 30, 31] rfl rfl 5 rfl rfl rfl hl.1 rfl (Nat.le_of_ble_eq_true rfl) dX9_text_79 ⟨Nat.zero_le _, Nat.zero_le _⟩) rfl G [5, 6, 7, 8, 9, 10, 26, 27, 28, 29, 30, 31] [0, 1, 2, 3, 4, 11, 12, 13, 14, 15, 16, 17, 18, 19, 20, 21, 22, 23, 24, 25] 32 rfl rfl rfl rfl rfl (by decide) (by decide) rfl (fun H locs G => ?_)
    refine lv_aload_n hx hb dX9_text_82 rfl (lv_at hl 0 rfl) ?_
    refine r_get X inw_X9 G 0 rfl rfl 0 (by decide) fl_X9_10 (v := .ref (aHW 0)) rfl dX9_text_83 ?_
    refine r_get X inw_X8 G 4 rfl rfl 0 (by decide) fl_X9_81 (v := .ref (aWD 0)) rfl dX9_text_86 ?_
    obtain ⟨r7, hcr7, hf⟩ := bd_some hf
    refine p_N (st1 := []) (wr := kHw k ot aHW () ++ (kHi k (aHW 2) aHI (HI) ++ (kWd k (aHW 0) aWD (WD4) ++ (kSc k (aWD 1) aSC (SC) ++ (kSk k (aWD 2) aSK (SK) ++ (kTp k (aWD 3) aTP (TP2) ++ (kRd k (aHW 3) aRD (r1.1) ++ (kPl k (aRD 0) aPL_2 (r1.2))))))))) (ws' := kHw k ot aHW () ++ (kHi k (aHW 2) aHI (HI) ++ (kWd k (aHW 0) aWD (WD4) ++ (kPl k (aWD 0) aPL (r7) ++ (kSc k (aWD 1) aSC (SC) ++ (kSk k (aWD 2) aSK (SK) ++ (kTp k (aWD 3) aTP (TP2) ++ (kRd k (aHW 3) aRD (r1.1) ++ (kPl k (aRD 0) aPL_2 (r1.2)))))))))) (run_V (rest := []) X (ctX1_findReach (SZ_ok t) (aWD 0) aPL hcr7) mk_X1_findReach ml_X9_94 ⟨(Nat.le_of_ble_eq_true rfl), (Nat.le_of_ble_eq_true rfl)⟩ G [5, 6, 7, 8, 9, 10] rfl rfl 5 rfl rfl rfl hl.1 rfl (Nat.le_of_ble_eq_true rfl) dX9_text_89 ⟨Nat.zero_le _, Nat.zero_le _⟩) rfl G [5, 6, 7, 8, 9, 10] [0, 1, 2, 3, 4, 11, 12, 13, 14, 15, 16, 17, 18, 19, 20, 21, 22, 23, 24, 25, 26, 27, 28, 29, 30, 31] 32 rfl rfl rfl rfl rfl (by decide) (by decide) rfl (fun H locs G => ?_)
    refine lv_aload_n hx hb dX9_text_92 rfl (lv_at hl 0 rfl) ?_
    refine r_get X inw_X9 G 0 rfl rfl 0 (by decide) fl_X9_10 (v := .ref (aHW 0)) rfl dX9_text_93 ?_
    refine r_get X inw_X8 G 4 rfl rfl 1 (by decide) fl_X9_97 (v := .ref (aWD 1)) rfl dX9_text_96 ?_
    refine lv_aload_n hx hb dX9_text_99 rfl (lv_at hl 0 rfl) ?_
    refine r_get X inw_X9 G 0 rfl rfl 0 (by decide) fl_X9_10 (v := .ref (aHW 0)) rfl dX9_text_100 ?_
    refine r_get X inw_X8 G 4 rfl rfl 0 (by decide) fl_X9_81 (v := .ref (aWD 0)) rfl dX9_text_103 ?_
    obtain ⟨r8, hcr8, hf⟩ := bd_some hf
    refine p_N (st1 := []) (wr := kHw k ot aHW () ++ (kHi k (aHW 2) aHI (HI) ++ (kWd k (aHW 0) aWD (WD4) ++ (kSk k (aWD 2) aSK (SK) ++ (kTp k (aWD 3) aTP (TP2) ++ (kRd k (aHW 3) aRD (r1.1) ++ (kPl k (aRD 0) aPL_2 (r1.2)))))))) (ws' := kHw k ot aHW () ++ (kHi k (aHW 2) aHI (HI) ++ (kWd k (aHW 0) aWD (WD4) ++ (kPl k (aWD 0) aPL (r7) ++ (kSc k (aWD 1) aSC (r8) ++ (kSk k (aWD 2) aSK (SK) ++ (kTp k (aWD 3) aTP (TP2) ++ (kRd k (aHW 3) aRD (r1.1) ++ (kPl k (aRD 0) aPL_2 (r1.2)))))))))) (run_V (rest := []) X (ctX3_begin (SZ_ok t) (aWD 1) (aWD 0) aSC aPL hcr8) mk_X3_begin ml_X9_100 ⟨(Nat.le_of_ble_eq_true rfl), (Nat.le_of_ble_eq_true rfl)⟩ G [11, 12, 13, 14, 15, 16, 17, 18, 19, 5, 6, 7, 8, 9, 10] rfl rfl 11 rfl rfl rfl hl.1 rfl (Nat.le_of_ble_eq_true rfl) dX9_text_106 ⟨Nat.zero_le _, Nat.zero_le _⟩) rfl G [11, 12, 13, 14, 15, 16, 17, 18, 19, 5, 6, 7, 8, 9, 10] [0, 1, 2, 3, 4, 20, 21, 22, 23, 24, 25, 26, 27, 28, 29, 30, 31] 32 rfl rfl rfl rfl rfl (by decide) (by decide) rfl (fun H locs G => ?_)
    refine lv_aload_n hx hb dX9_text_109 rfl (lv_at hl 0 rfl) ?_
    refine r_get X inw_X9 G 0 rfl rfl 0 (by decide) fl_X9_10 (v := .ref (aHW 0)) rfl dX9_text_110 ?_
    refine r_get X inw_X8 G 4 rfl rfl 2 (by decide) fl_X9_103 (v := .ref (aWD 2)) rfl dX9_text_113 ?_
    obtain ⟨r9, hcr9, hf⟩ := bd_some hf
    refine p_N (st1 := []) (wr := kHw k ot aHW () ++ (kHi k (aHW 2) aHI (HI) ++ (kWd k (aHW 0) aWD (WD4) ++ (kPl k (aWD 0) aPL (r7) ++ (kSc k (aWD 1) aSC (r8) ++ (kTp k (aWD 3) aTP (TP2) ++ (kRd k (aHW 3) aRD (r1.1) ++ (kPl k (aRD 0) aPL_2 (r1.2))))))))) (ws' := kHw k ot aHW () ++ (kHi k (aHW 2) aHI (HI) ++ (kWd k (aHW 0) aWD (WD4) ++ (kPl k (aWD 0) aPL (r7) ++ (kSc k (aWD 1) aSC (r8) ++ (kSk k (aWD 2) aSK (r9) ++ (kTp k (aWD 3) aTP (TP2) ++ (kRd k (aHW 3) aRD (r1.1) ++ (kPl k (aRD 0) aPL_2 (r1.2)))))))))) (run_V (rest := []) X (ctX4_clear (SZ_ok t) (aWD 2) aSK hcr9) mk_X4_clear ml_X9_107 ⟨(Nat.le_of_ble_eq_true rfl), (Nat.le_of_ble_eq_true rfl)⟩ G [20, 21] rfl rfl 20 rfl rfl rfl hl.1 rfl (Nat.le_of_ble_eq_true rfl) dX9_text_116 ⟨Nat.zero_le _, Nat.zero_le _⟩) rfl G [20, 21] [0, 1, 2, 3, 4, 5, 6, 7, 8, 9, 10, 11, 12, 13, 14, 15, 16, 17, 18, 19, 22, 23, 24, 25, 26, 27, 28, 29, 30, 31] 32 rfl rfl rfl rfl rfl (by decide) (by decide) rfl (fun H locs G => ?_)
    refine lv_aload_n hx hb dX9_text_119 rfl (lv_at hl 0 rfl) ?_
    refine r_get X inw_X9 G 0 rfl rfl 2 (by decide) fl_X9_23 (v := .ref (aHW 2)) rfl dX9_text_120 ?_
    obtain ⟨r10, hcr10, hf⟩ := bd_some hf
    refine p_N (st1 := []) (wr := kHw k ot aHW () ++ (kWd k (aHW 0) aWD (WD4) ++ (kPl k (aWD 0) aPL (r7) ++ (kSc k (aWD 1) aSC (r8) ++ (kSk k (aWD 2) aSK (r9) ++ (kTp k (aWD 3) aTP (TP2) ++ (kRd k (aHW 3) aRD (r1.1) ++ (kPl k (aRD 0) aPL_2 (r1.2))))))))) (ws' := kHw k ot aHW () ++ (kHi k (aHW 2) aHI (r10) ++ (kWd k (aHW 0) aWD (WD4) ++ (kPl k (aWD 0) aPL (r7) ++ (kSc k (aWD 1) aSC (r8) ++ (kSk k (aWD 2) aSK (r9) ++ (kTp k (aWD 3) aTP (TP2) ++ (kRd k (aHW 3) aRD (r1.1) ++ (kPl k (aRD 0) aPL_2 (r1.2)))))))))) (run_V (rest := []) X (ctX0_clear (SZ_ok t) (aHW 2) aHI hcr10) mk_X0_clear ml_X9_112 ⟨(Nat.le_of_ble_eq_true rfl), (Nat.le_of_ble_eq_true rfl)⟩ G [1, 2, 3] rfl rfl 1 rfl rfl rfl hl.1 rfl (Nat.le_of_ble_eq_true rfl) dX9_text_123 ⟨Nat.zero_le _, Nat.zero_le _⟩) rfl G [1, 2, 3] [0, 4, 5, 6, 7, 8, 9, 10, 11, 12, 13, 14, 15, 16, 17, 18, 19, 20, 21, 22, 23, 24, 25, 26, 27, 28, 29, 30, 31] 32 rfl rfl rfl rfl rfl (by decide) (by decide) rfl (fun H locs G => ?_)
    refine lv_aload_n hx hb dX9_text_126 rfl (lv_at hl 0 rfl) ?_
    refine r_get X inw_X9 G 0 rfl rfl 0 (by decide) fl_X9_10 (v := .ref (aHW 0)) rfl dX9_text_127 ?_
    refine r_get X inw_X8 G 4 rfl rfl 0 (by decide) fl_X9_81 (v := .ref (aWD 0)) rfl dX9_text_130 ?_
    refine r_get X inw_X1 G 5 rfl rfl 0 (by decide) fl_X9_113 (v := .int (Pl_workers r7)) rfl dX9_text_133 ?_
    cases hf
    exact e_mi X G dX9_text_136
  · replace hf := if_f hf c5
    refine lv_iconst (v := -1) hx hb dX9_text_63 (by decide) ?_
    cases hf
    exact e_mi X G dX9_text_64
theorem mk_X9_text : MV yX9_text cX9_text 1 (some .int) 0 := ⟨co_X9_text, in_X9, im_X9_text, se_X9_text, by decide +kernel, by decide +kernel⟩
