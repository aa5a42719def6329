noncomputable def FX9_feed (WD : WdT) (TP : TpT) (v1 : Int32) (v2 : Int32) (v3 : Int32) (v4 : Int32) (v5 : Int32) : Option (Int32 × TpT) :=
  if ((Tp_length TP) + (20 : Int32)) ≤ (800 : Int32) then (
    (FX5_put TP v1).bind fun r2 =>
    (FX5_put r2 v2).bind fun r3 =>
    (FX5_put r3 v3).bind fun r4 =>
    (FX5_put r4 v4).bind fun r5 =>
    (FX5_put r5 v5).bind fun r6 =>
    some (Tp_length r6, r6)
  ) else (
    some ((-1 : Int32), TP)
  )
set_option maxHeartbeats 4000000 in
set_option maxRecDepth 100000 in
theorem ctX9_feed {l : Launch} {D : va_G} {k : Nat → ClassId} {Z : ZT} (hZ : ZOK Z) (ot : Nat) (aHW : Nat → Nat) (aWD : Nat → Nat) (aTP : Nat → Nat) {WD : WdT} {TP : TpT} {v1 : Int32} {v2 : Int32} {v3 : Int32} {v4 : Int32} {v5 : Int32} {q : Int32 × TpT} (hf : FX9_feed WD TP v1 v2 v3 v4 v5 = some q) :
    CM l D k Z yX9_feed cX9_feed 7 (some .int) 1 22 [.ref ot, .int v1, .int v2, .int v3, .int v4, .int v5] (some (.int q.1)) (kHw k ot aHW () ++ (kWd k (aHW 0) aWD (WD) ++ (kTp k (aWD 3) aTP (TP)))) (kHw k ot aHW () ++ (kWd k (aHW 0) aWD (WD) ++ (kTp k (aWD 3) aTP (q.2)))) := by
  refine CM.start hZ (by decide) (Nat.le_of_ble_eq_true rfl) ?_
  intro p e s m below meth c ls X hl G
  have hx := X.1
  have hb := X.2.1
  have hl : lv_has ls 7 [(0, .ref ot), (1, .int v1), (2, .int v2), (3, .int v3), (4, .int v4), (5, .int v5)] := hl
  unfold FX9_feed at hf
  refine lv_aload_n hx hb dX9_feed_0 rfl (lv_at hl 0 rfl) ?_
  refine r_get X inw_X9 G 0 rfl rfl 0 (by decide) fl_X9_10 (v := .ref (aHW 0)) rfl dX9_feed_1 ?_
  refine r_get X inw_X8 G 1 rfl rfl 3 (by decide) fl_X9_55 (v := .ref (aWD 3)) rfl dX9_feed_4 ?_
  refine lv_astore (lv' := [(6, .ref (aWD 3)), (0, .ref ot), (1, .int v1), (2, .int v2), (3, .int v3), (4, .int v4), (5, .int v5)]) hx hb dX9_feed_7 hl (by decide) rfl (fun ls hl => ?_)
  refine lv_aload hx hb dX9_feed_9 (lv_at hl 0 rfl) ?_
  refine r_get X inw_X5 G 2 rfl rfl 1 (by decide) fl_X9_59 (v := .int (Tp_length TP)) rfl dX9_feed_11 ?_
  refine lv_bipush (v := 20) hx hb dX9_feed_14 (by decide) ?_
  refine lv_iadd hx hb dX9_feed_16 ?_
  refine lv_sipush (v := 800) hx hb dX9_feed_17 (by decide) ?_
  refine lv_icmp_le (tgt := 25) hx hb dX9_feed_20 (by decide) (fun c1 => ?_) (fun c1 => ?_)
  · replace hf := if_t hf c1
    refine lv_aload hx hb dX9_feed_25 (lv_at hl 0 rfl) ?_
    refine lv_iload_n hx hb dX9_feed_27 rfl (lv_at hl 2 rfl) ?_
    obtain ⟨r2, hcr2, hf⟩ := bd_some hf
    refine p_N (st1 := []) (wr := kHw k ot aHW () ++ (kWd k (aHW 0) aWD (WD))) (ws' := kHw k ot aHW () ++ (kWd k (aHW 0) aWD (WD) ++ (kTp k (aWD 3) aTP (r2)))) (run_V (rest := []) X (ctX5_put hZ (aWD 3) aTP hcr2) mk_X5_put ml_X9_65 ⟨(Nat.le_of_ble_eq_true rfl), (Nat.le_of_ble_eq_true rfl)⟩ G [2, 3] rfl rfl 2 rfl rfl rfl hl.1 rfl (Nat.le_of_ble_eq_true rfl) dX9_feed_28 ⟨Nat.zero_le _, Nat.zero_le _⟩) rfl G [2, 3] [0, 1] 4 rfl rfl rfl rfl rfl (by decide) (by decide) rfl (fun H locs G => ?_)
    refine lv_aload hx hb dX9_feed_31 (lv_at hl 0 rfl) ?_
    refine lv_iload_n hx hb dX9_feed_33 rfl (lv_at hl 3 rfl) ?_
    obtain ⟨r3, hcr3, hf⟩ := bd_some hf
    refine p_N (st1 := []) (wr := kHw k ot aHW () ++ (kWd k (aHW 0) aWD (WD))) (ws' := kHw k ot aHW () ++ (kWd k (aHW 0) aWD (WD) ++ (kTp k (aWD 3) aTP (r3)))) (run_V (rest := []) X (ctX5_put hZ (aWD 3) aTP hcr3) mk_X5_put ml_X9_65 ⟨(Nat.le_of_ble_eq_true rfl), (Nat.le_of_ble_eq_true rfl)⟩ G [2, 3] rfl rfl 2 rfl rfl rfl hl.1 rfl (Nat.le_of_ble_eq_true rfl) dX9_feed_34 ⟨Nat.zero_le _, Nat.zero_le _⟩) rfl G [2, 3] [0, 1] 4 rfl rfl rfl rfl rfl (by decide) (by decide) rfl (fun H locs G => ?_)
    refine lv_aload hx hb dX9_feed_37 (lv_at hl 0 rfl) ?_
    refine lv_iload_n hx hb dX9_feed_39 rfl (lv_at hl 4 rfl) ?_
    obtain ⟨r4, hcr4, hf⟩ := bd_some hf
    refine p_N (st1 := []) (wr := kHw k ot aHW () ++ (kWd k (aHW 0) aWD (WD))) (ws' := kHw k ot aHW () ++ (kWd k (aHW 0) aWD (WD) ++ (kTp k (aWD 3) aTP (r4)))) (run_V (rest := []) X (ctX5_put hZ (aWD 3) aTP hcr4) mk_X5_put ml_X9_65 ⟨(Nat.le_of_ble_eq_true rfl), (Nat.le_of_ble_eq_true rfl)⟩ G [2, 3] rfl rfl 2 rfl rfl rfl hl.1 rfl (Nat.le_of_ble_eq_true rfl) dX9_feed_40 ⟨Nat.zero_le _, Nat.zero_le _⟩) rfl G [2, 3] [0, 1] 4 rfl rfl rfl rfl rfl (by decide) (by decide) rfl (fun H locs G => ?_)
    refine lv_aload hx hb dX9_feed_43 (lv_at hl 0 rfl) ?_
    refine lv_iload hx hb dX9_feed_45 (lv_at hl 5 rfl) ?_
    obtain ⟨r5, hcr5, hf⟩ := bd_some hf
    refine p_N (st1 := []) (wr := kHw k ot aHW () ++ (kWd k (aHW 0) aWD (WD))) (ws' := kHw k ot aHW () ++ (kWd k (aHW 0) aWD (WD) ++ (kTp k (aWD 3) aTP (r5)))) (run_V (rest := []) X (ctX5_put hZ (aWD 3) aTP hcr5) mk_X5_put ml_X9_65 ⟨(Nat.le_of_ble_eq_true rfl), (Nat.le_of_ble_eq_true rfl)⟩ G [2, 3] rfl rfl 2 rfl rfl rfl hl.1 rfl (Nat.le_of_ble_eq_true rfl) dX9_feed_47 ⟨Nat.zero_le _, Nat.zero_le _⟩) rfl G [2, 3] [0, 1] 4 rfl rfl rfl rfl rfl (by decide) (by decide) rfl (fun H locs G => ?_)
    refine lv_aload hx hb dX9_feed_50 (lv_at hl 0 rfl) ?_
    refine lv_iload hx hb dX9_feed_52 (lv_at hl 6 rfl) ?_
    obtain ⟨r6, hcr6, hf⟩ := bd_some hf
    refine p_N (st1 := []) (wr := kHw k ot aHW () ++ (kWd k (aHW 0) aWD (WD))) (ws' := kHw k ot aHW () ++ (kWd k (aHW 0) aWD (WD) ++ (kTp k (aWD 3) aTP (r6)))) (run_V (rest := []) X (ctX5_put hZ (aWD 3) aTP hcr6) mk_X5_put ml_X9_65 ⟨(Nat.le_of_ble_eq_true rfl), (Nat.le_of_ble_eq_true rfl)⟩ G [2, 3] rfl rfl 2 rfl rfl rfl hl.1 rfl (Nat.le_of_ble_eq_true rfl) dX9_feed_54 ⟨Nat.zero_le _, Nat.zero_le _⟩) rfl G [2, 3] [0, 1] 4 rfl rfl rfl rfl rfl (by decide) (by decide) rfl (fun H locs G => ?_)
    refine lv_aload hx hb dX9_feed_57 (lv_at hl 0 rfl) ?_
    refine r_get X inw_X5 G 2 rfl rfl 1 (by decide) fl_X9_59 (v := .int (Tp_length r6)) rfl dX9_feed_59 ?_
    cases hf
    exact e_mi X G dX9_feed_62
  · replace hf := if_f hf c1
    refine lv_iconst (v := -1) hx hb dX9_feed_23 (by decide) ?_
    cases hf
    exact e_mi X G dX9_feed_24
theorem mk_X9_feed : MV yX9_feed cX9_feed 7 (some .int) 5 := ⟨co_X9_feed, in_X9, im_X9_feed, se_X9_feed, by decide +kernel, by decide +kernel⟩
noncomputable def FX9_end (WD : WdT) (TP : TpT) (v1 : Int32) : Option (Int32 × TpT) :=
  if v1 < 0 then (
    some ((-1 : Int32), TP)
  ) else (
    if v1 ≤ (Tp_length TP) then (
      nm (sTp_length TP v1) fun TP3 =>
      some (v1, TP3)
    ) else (
      some ((-1 : Int32), TP)
    )
  )
set_option maxHeartbeats 4000000 in
set_option maxRecDepth 100000 in
theorem ctX9_end {l : Launch} {D : va_G} {k : Nat → ClassId} {Z : ZT} (hZ : ZOK Z) (ot : Nat) (aHW : Nat → Nat) (aWD : Nat → Nat) (aTP : Nat → Nat) {WD : WdT} {TP : TpT} {v1 : Int32} {q : Int32 × TpT} (hf : FX9_end WD TP v1 = some q) :
    CM l D k Z yX9_end cX9_end 2 (some .int) 0 0 [.ref ot, .int v1] (some (.int q.1)) (kHw k ot aHW () ++ (kWd k (aHW 0) aWD (WD) ++ (kTp k (aWD 3) aTP (TP)))) (kHw k ot aHW () ++ (kWd k (aHW 0) aWD (WD) ++ (kTp k (aWD 3) aTP (q.2)))) := by
  refine CM.start hZ (by decide) (Nat.le_of_ble_eq_true rfl) ?_
  intro p e s m below meth c ls X hl G
  have hx := X.1
  have hb := X.2.1
  have hl : lv_has ls 2 [(0, .ref ot), (1, .int v1)] := hl
  unfold FX9_end at hf
  refine lv_iload_n hx hb dX9_end_0 rfl (lv_at hl 1 rfl) ?_
  refine lv_if_lt (tgt := 18) hx hb dX9_end_1 (by decide) (fun c1 => ?_) (fun c1 => ?_)
  · replace hf := if_t hf c1
    refine lv_iconst (v := -1) hx hb dX9_end_18 (by decide) ?_
    cases hf
    exact e_mi X G dX9_end_19
  · replace hf := if_f hf c1
    refine lv_iload_n hx hb dX9_end_4 rfl (lv_at hl 1 rfl) ?_
    refine lv_aload_n hx hb dX9_end_5 rfl (lv_at hl 0 rfl) ?_
    refine r_get X inw_X9 G 0 rfl rfl 0 (by decide) fl_X9_10 (v := .ref (aHW 0)) rfl dX9_end_6 ?_
    refine r_get X inw_X8 G 1 rfl rfl 3 (by decide) fl_X9_55 (v := .ref (aWD 3)) rfl dX9_end_9 ?_
    refine r_get X inw_X5 G 2 rfl rfl 1 (by decide) fl_X9_59 (v := .int (Tp_length TP)) rfl dX9_end_12 ?_
    refine lv_icmp_le (tgt := 20) hx hb dX9_end_15 (by decide) (fun c2 => ?_) (fun c2 => ?_)
    · replace hf := if_t hf c2
      refine lv_aload_n hx hb dX9_end_20 rfl (lv_at hl 0 rfl) ?_
      refine r_get X inw_X9 G 0 rfl rfl 0 (by decide) fl_X9_10 (v := .ref (aHW 0)) rfl dX9_end_21 ?_
      refine r_get X inw_X8 G 1 rfl rfl 3 (by decide) fl_X9_55 (v := .ref (aWD 3)) rfl dX9_end_24 ?_
      refine lv_iload_n hx hb dX9_end_27 rfl (lv_at hl 1 rfl) ?_
      obtain ⟨TP3, eTP3, hf⟩ := nm_some hf
      refine r_put X inw_X5 tyX5 tyX5_ok nmX5 G 2 rfl rfl 1 (by decide) fl_X9_59 rfl rfl rfl (Nat.le_of_ble_eq_true rfl) (ws' := kHw k ot aHW () ++ (kWd k (aHW 0) aWD (WD) ++ (kTp k (aWD 3) aTP (TP3)))) (by subst eTP3; rfl) dX9_end_28 (fun H locs G => ?_)
      refine lv_iload_n hx hb dX9_end_31 rfl (lv_at hl 1 rfl) ?_
      cases hf
      exact e_mi X G dX9_end_32
    · replace hf := if_f hf c2
      refine lv_iconst (v := -1) hx hb dX9_end_18 (by decide) ?_
      cases hf
      exact e_mi X G dX9_end_19
theorem mk_X9_end : MV yX9_end cX9_end 2 (some .int) 1 := ⟨co_X9_end, in_X9, im_X9_end, se_X9_end, by decide +kernel, by decide +kernel⟩
noncomputable def FX9_fault (WD : WdT) (v1 : Int32) : Option (Int32) :=
  if v1 = (0 : Int32) then (
    some (Wd_fault WD)
  ) else (
  if v1 = (1 : Int32) then (
    some (Wd_spot WD)
  ) else (
    some (-1 : Int32)
  ))
set_option maxHeartbeats 4000000 in
set_option maxRecDepth 100000 in
theorem ctX9_fault {l : Launch} {D : va_G} {k : Nat → ClassId} {Z : ZT} (hZ : ZOK Z) (ot : Nat) (aHW : Nat → Nat) (aWD : Nat → Nat) {WD : WdT} {v1 : Int32} {q : Int32} (hf : FX9_fault WD v1 = some q) :
    CR l D k Z yX9_fault cX9_fault 2 (some .int) 0 0 [.ref ot, .int v1] (some (.int q)) (kHw k ot aHW () ++ (kWd k (aHW 0) aWD (WD))) := by
  refine CR.start hZ (by decide) (Nat.le_of_ble_eq_true rfl) ?_
  intro p e s m below meth c ls X hl G
  have hx := X.1
  have hb := X.2.1
  have hl : lv_has ls 2 [(0, .ref ot), (1, .int v1)] := hl
  unfold FX9_fault at hf
  refine lv_iload_n hx hb dX9_fault_0 rfl (lv_at hl 1 rfl) ?_
  by_cases c1 : v1 = (0 : Int32)
  · replace hf := if_t hf c1
    refine lv_lookup (tgt := 28) (off := 27) hx hb dX9_fault_1 (by decide) (by rw [c1]; decide +kernel) (by decide) ?_
    refine lv_aload_n hx hb dX9_fault_28 rfl (lv_at hl 0 rfl) ?_
    refine r_get X inw_X9 G 0 rfl rfl 0 (by decide) fl_X9_10 (v := .ref (aHW 0)) rfl dX9_fault_29 ?_
    refine r_get X inw_X8 G 1 rfl rfl 4 (by decide) fl_X9_76 (v := .int (Wd_fault WD)) rfl dX9_fault_32 ?_
    cases hf
    exact e_ri X dX9_fault_35
  replace hf := if_f hf c1
  by_cases c2 : v1 = (1 : Int32)
  · replace hf := if_t hf c2
    refine lv_lookup (tgt := 36) (off := 35) hx hb dX9_fault_1 (by decide) (by rw [c2]; decide +kernel) (by decide) ?_
    refine lv_aload_n hx hb dX9_fault_36 rfl (lv_at hl 0 rfl) ?_
    refine r_get X inw_X9 G 0 rfl rfl 0 (by decide) fl_X9_10 (v := .ref (aHW 0)) rfl dX9_fault_37 ?_
    refine r_get X inw_X8 G 1 rfl rfl 5 (by decide) fl_X9_80 (v := .int (Wd_spot WD)) rfl dX9_fault_40 ?_
    cases hf
    exact e_ri X dX9_fault_43
  replace hf := if_f hf c2
  refine lv_lookup (tgt := 44) (off := 43) hx hb dX9_fault_1 (by decide) (lk_d c1 c2 _ _ _) (by decide) ?_
  refine lv_iconst (v := -1) hx hb dX9_fault_44 (by decide) ?_
  cases hf
  exact e_ri X dX9_fault_45
theorem mk_X9_fault : MV yX9_fault cX9_fault 2 (some .int) 1 := ⟨co_X9_fault, in_X9, im_X9_fault, se_X9_fault, by decide +kernel, by decide +kernel⟩
noncomputable def FX9_isWorker (WD : WdT) (PL : PlT) (v1 : Int32) : Option (Bool) :=
  if v1 < 0 then (
    some false
  ) else (
    if (Pl_workers PL) ≤ v1 then (
      some false
    ) else (
      some true
    )
  )
set_option maxHeartbeats 4000000 in
set_option maxRecDepth 100000 in
theorem ctX9_isWorker {l : Launch} {D : va_G} {k : Nat → ClassId} {Z : ZT} (hZ : ZOK Z) (ot : Nat) (aHW : Nat → Nat) (aWD : Nat → Nat) (aPL : Nat → Nat) {WD : WdT} {PL : PlT} {v1 : Int32} {q : Bool} (hf : FX9_isWorker WD PL v1 = some q) :
    CR l D k Z yX9_isWorker cX9_isWorker 2 (some .boolean) 0 0 [.ref ot, .int v1] (some (.int (bI q))) (kHw k ot aHW () ++ (kWd k (aHW 0) aWD (WD) ++ (kPl k (aWD 0) aPL (PL)))) := by
  refine CR.start hZ (by decide) (Nat.le_of_ble_eq_true rfl) ?_
  intro p e s m below meth c ls X hl G
  have hx := X.1
  have hb := X.2.1
  have hl : lv_has ls 2 [(0, .ref ot), (1, .int v1)] := hl
  unfold FX9_isWorker at hf
  refine lv_iload_n hx hb dX9_isWorker_0 rfl (lv_at hl 1 rfl) ?_
  refine lv_if_lt (tgt := 22) hx hb dX9_isWorker_1 (by decide) (fun c1 => ?_) (fun c1 => ?_)
  · replace hf := if_t hf c1
    refine lv_iconst (v := 0) hx hb dX9_isWorker_22 (by decide) ?_
    cases hf
    exact e_rz _ rfl X dX9_isWorker_23
  · replace hf := if_f hf c1
    refine lv_iload_n hx hb dX9_isWorker_4 rfl (lv_at hl 1 rfl) ?_
    refine lv_aload_n hx hb dX9_isWorker_5 rfl (lv_at hl 0 rfl) ?_
    refine r_get X inw_X9 G 0 rfl rfl 0 (by decide) fl_X9_10 (v := .ref (aHW 0)) rfl dX9_isWorker_6 ?_
    refine r_get X inw_X8 G 1 rfl rfl 0 (by decide) fl_X9_81 (v := .ref (aWD 0)) rfl dX9_isWorker_9 ?_
    refine r_get X inw_X1 G 2 rfl rfl 0 (by decide) fl_X9_113 (v := .int (Pl_workers PL)) rfl dX9_isWorker_12 ?_
    refine lv_icmp_ge (tgt := 22) hx hb dX9_isWorker_15 (by decide) (fun c2 => ?_) (fun c2 => ?_)
    · replace hf := if_t hf c2
      refine lv_iconst (v := 0) hx hb dX9_isWorker_22 (by decide) ?_
      cases hf
      exact e_rz _ rfl X dX9_isWorker_23
    · replace hf := if_f hf c2
      refine lv_iconst (v := 1) hx hb dX9_isWorker_18 (by decide) ?_
      refine lv_goto (tgt := 23) hx hb dX9_isWorker_19 (by decide) ?_
      cases hf
      exact e_rz _ rfl X dX9_isWorker_23
theorem mk_X9_isWorker : MV yX9_isWorker cX9_isWorker 2 (some .boolean) 1 := ⟨co_X9_isWorker, in_X9, im_X9_isWorker, se_X9_isWorker, by decide +kernel, by decide +kernel⟩
noncomputable def FX9_lookNow (WD : WdT) (PL : PlT) (SC : ScT) (VW : VwT) : Option (VwT) :=
  (FX7_look VW PL SC).bind fun r1 =>
  some r1
set_option maxHeartbeats 4000000 in
set_option maxRecDepth 100000 in
theorem ctX9_lookNow {l : Launch} {D : va_G} {k : Nat → ClassId} {Z : ZT} (hZ : ZOK Z) (ot : Nat) (aHW : Nat → Nat) (aWD : Nat → Nat) (aPL : Nat → Nat) (aSC : Nat → Nat) (aVW : Nat → Nat) {WD : WdT} {PL : PlT} {SC : ScT} {VW : VwT} {q : VwT} (hf : FX9_lookNow WD PL SC VW = some q) :
    CM l D k Z yX9_lookNow cX9_lookNow 1 none 4 92 [.ref ot] none (kHw k ot aHW () ++ (kWd k (aHW 0) aWD (WD) ++ (kPl k (aWD 0) aPL (PL) ++ (kSc k (aWD 1) aSC (SC) ++ (kVw k (aHW 4) aVW (VW)))))) (kHw k ot aHW () ++ (kWd k (aHW 0) aWD (WD) ++ (kPl k (aWD 0) aPL (PL) ++ (kSc k (aWD 1) aSC (SC) ++ (kVw k (aHW 4) aVW (q)))))) := by
  refine CM.start hZ (by decide) (Nat.le_of_ble_eq_true rfl) ?_
  intro p e s m below meth c ls X hl G
  have hx := X.1
  have hb := X.2.1
  have hl : lv_has ls 1 [(0, .ref ot)] := hl
  unfold FX9_lookNow at hf
  refine lv_aload_n hx hb dX9_lookNow_0 rfl (lv_at hl 0 rfl) ?_
  refine r_get X inw_X9 G 0 rfl rfl 4 (by decide) fl_X9_37 (v := .ref (aHW 4)) rfl dX9_lookNow_1 ?_
  refine lv_aload_n hx hb dX9_lookNow_4 rfl (lv_at hl 0 rfl) ?_
  refine r_get X inw_X9 G 0 rfl rfl 0 (by decide) fl_X9_10 (v := .ref (aHW 0)) rfl dX9_lookNow_5 ?_
  refine r_get X inw_X8 G 1 rfl rfl 0 (by decide) fl_X9_81 (v := .ref (aWD 0)) rfl dX9_lookNow_8 ?_
  refine lv_aload_n hx hb dX9_lookNow_11 rfl (lv_at hl 0 rfl) ?_
  refine r_get X inw_X9 G 0 rfl rfl 0 (by decide) fl_X9_10 (v := .ref (aHW 0)) rfl dX9_lookNow_12 ?_
  refine r_get X inw_X8 G 1 rfl rfl 1 (by decide) fl_X9_97 (v := .ref (aWD 1)) rfl dX9_lookNow_15 ?_
  obtain ⟨r1, hcr1, hf⟩ := bd_some hf
  refine p_N (st1 := []) (wr := kHw k ot aHW () ++ (kWd k (aHW 0) aWD (WD))) (ws' := kHw k ot aHW () ++ (kWd k (aHW 0) aWD (WD) ++ (kPl k (aWD 0) aPL (PL) ++ (kSc k (aWD 1) aSC (SC) ++ (kVw k (aHW 4) aVW (r1)))))) (run_V (rest := []) X (ctX7_look hZ (aHW 4) (aWD 0) (aWD 1) aVW aPL aSC hcr1) mk_X7_look ml_X9_247 ⟨(Nat.le_of_ble_eq_true rfl), (Nat.le_of_ble_eq_true rfl)⟩ G [17, 18, 19, 20, 2, 3, 4, 5, 6, 7, 8, 9, 10, 11, 12, 13, 14, 15, 16] rfl rfl 17 rfl rfl rfl hl.1 rfl (Nat.le_of_ble_eq_true rfl) dX9_lookNow_18 ⟨Nat.zero_le _, Nat.zero_le _⟩) rfl G [17, 18, 19, 20, 2, 3, 4, 5, 6, 7, 8, 9, 10, 11, 12, 13, 14, 15, 16] [0, 1] 21 rfl rfl rfl rfl rfl (by decide) (by decide) rfl (fun H locs G => ?_)
  cases hf
  exact e_mv X G dX9_lookNow_21
theorem mk_X9_lookNow : MV yX9_lookNow cX9_lookNow 1 none 0 := ⟨co_X9_lookNow, in_X9, im_X9_lookNow, se_X9_lookNow, by decide +kernel, by decide +kernel⟩
noncomputable def FX9_markStalls_35 (PL : PlT) (r3 : VwT) : (Int32 × Int32 × ScT) → Option ((Int32 × Int32 × ScT) ⊕ (Int32 × ScT)) := fun stL4 =>
  if (Pl_workers PL) ≤ stL4.2.1 then (
    some (.inr (stL4.1, stL4.2.2))
  ) else (
    (FX7_stallKind r3 stL4.2.1).bind fun r6 =>
    if r6 = (-1 : Int32) then (
      nm (stL4.2.1 + 1) fun x8 =>
      some (.inl (stL4.1, x8, stL4.2.2))
    ) else (
      (FX3_mark stL4.2.2 stL4.2.1 r6).bind fun r9 =>
      if (bI r9.1) = 0 then (
        nm (stL4.2.1 + 1) fun x11 =>
        some (.inl (stL4.1, x11, r9.2))
      ) else (
        nm (stL4.1 ||| ((1 : Int32) <<< (stL4.2.1 &&& 31))) fun x12 =>
        nm (stL4.2.1 + 1) fun x13 =>
        some (.inl (x12, x13, r9.2))
      )
    )
  )
noncomputable def FX9_markStalls (WD : WdT) (PL : PlT) (VW : VwT) (SC : ScT) : Option (Int32 × VwT × ScT) :=
  (FX3_anyQuiet SC PL).bind fun r1 =>
  if (bI r1) = 0 then (
    some ((0 : Int32), VW, SC)
  ) else (
    (FX7_look VW PL SC).bind fun r3 =>
    (itr (FX9_markStalls_35 PL r3) ((0 : Int32), (0 : Int32), SC)).bind fun uL4 =>
    some (uL4.1, r3, uL4.2)
  )
set_option maxHeartbeats 4000000 in
set_option maxRecDepth 100000 in
theorem ctX9_markStalls {l : Launch} {D : va_G} {k : Nat → ClassId} {Z : ZT} (hZ : ZOK Z) (ot : Nat) (o1 : Nat) (aHW : Nat → Nat) (aWD : Nat → Nat) (aPL : Nat → Nat) (aVW : Nat → Nat) (aSC : Nat → Nat) {WD : WdT} {PL : PlT} {VW : VwT} {SC : ScT} {q : Int32 × VwT × ScT} (hf : FX9_markStalls WD PL VW SC = some q) :
    CM l D k Z yX9_markStalls cX9_markStalls 5 (some .int) 4 92 [.ref ot, .ref o1] (some (.int q.1)) (kHw k ot aHW () ++ (kWd k (aHW 0) aWD (WD) ++ (kPl k (aWD 0) aPL (PL) ++ (kVw k (aHW 4) aVW (VW) ++ (kSc k o1 aSC (SC)))))) (kHw k ot aHW () ++ (kWd k (aHW 0) aWD (WD) ++ (kPl k (aWD 0) aPL (PL) ++ (kVw k (aHW 4) aVW (q.2.1) ++ (kSc k o1 aSC (q.2.2)))))) := by
  refine CM.start hZ (by decide) (Nat.le_of_ble_eq_true rfl) ?_
  intro p e s m below meth c ls X hl G
  have hx := X.1
  have hb := X.2.1
  have hl : lv_has ls 5 [(0, .ref ot), (1, .ref o1)] := hl
  unfold FX9_markStalls at hf
  refine lv_aload_n hx hb dX9_markStalls_0 rfl (lv_at hl 1 rfl) ?_
  refine lv_aload_n hx hb dX9_markStalls_1 rfl (lv_at hl 0 rfl) ?_
  refine r_get X inw_X9 G 0 rfl rfl 0 (by decide) fl_X9_10 (v := .ref (aHW 0)) rfl dX9_markStalls_2 ?_
  refine r_get X inw_X8 G 1 rfl rfl 0 (by decide) fl_X9_81 (v := .ref (aWD 0)) rfl dX9_markStalls_5 ?_
  obtain ⟨r1, hcr1, hf⟩ := bd_some hf
  refine p_R (st1 := [.int (bI r1)]) (run_V (rest := []) X (ctX3_anyQuiet hZ o1 (aWD 0) aSC aPL hcr1) mk_X3_anyQuiet ml_X9_285 ⟨(Nat.le_of_ble_eq_true rfl), (Nat.le_of_ble_eq_true rfl)⟩ G [12, 13, 14, 15, 16, 17, 18, 19, 20, 2, 3, 4, 5, 6, 7] rfl rfl 12 rfl rfl rfl hl.1 rfl (Nat.le_of_ble_eq_true rfl) dX9_markStalls_8 ⟨Nat.zero_le _, Nat.zero_le _⟩) rfl ?_
  refine lv_if_ne (tgt := 16) hx hb dX9_markStalls_11 (by decide) (fun c2 => ?_) (fun c2 => ?_)
  · replace hf := if_f hf c2
    refine lv_aload_n hx hb dX9_markStalls_16 rfl (lv_at hl 0 rfl) ?_
    refine r_get X inw_X9 G 0 rfl rfl 4 (by decide) fl_X9_37 (v := .ref (aHW 4)) rfl dX9_markStalls_17 ?_
    refine lv_aload_n hx hb dX9_markStalls_20 rfl (lv_at hl 0 rfl) ?_
    refine r_get X inw_X9 G 0 rfl rfl 0 (by decide) fl_X9_10 (v := .ref (aHW 0)) rfl dX9_markStalls_21 ?_
    refine r_get X inw_X8 G 1 rfl rfl 0 (by decide) fl_X9_81 (v := .ref (aWD 0)) rfl dX9_markStalls_24 ?_
    refine lv_aload_n hx hb dX9_markStalls_27 rfl (lv_at hl 1 rfl) ?_
    obtain ⟨r3, hcr3, hf⟩ := bd_some hf
    refine p_N (st1 := []) (wr := kHw k ot aHW () ++ (kWd k (aHW 0) aWD (WD))) (ws' := kHw k ot aHW () ++ (kWd k (aHW 0) aWD (WD) ++ (kPl k (aWD 0) aPL (PL) ++ (kVw k (aHW 4) aVW (r3) ++ (kSc k o1 aSC (SC)))))) (run_V (rest := []) X (ctX7_look hZ (aHW 4) (aWD 0) o1 aVW aPL aSC hcr3) mk_X7_look ml_X9_247 ⟨(Nat.le_of_ble_eq_true rfl), (Nat.le_of_ble_eq_true rfl)⟩ G [8, 9, 10, 11, 2, 3, 4, 5, 6, 7, 12, 13, 14, 15, 16, 17, 18, 19, 20] rfl rfl 8 rfl rfl rfl hl.1 rfl (Nat.le_of_ble_eq_true rfl) dX9_markStalls_28 ⟨Nat.zero_le _, Nat.zero_le _⟩) rfl G [8, 9, 10, 11, 2, 3, 4, 5, 6, 7, 12, 13, 14, 15, 16, 17, 18, 19, 20] [0, 1] 21 rfl rfl rfl rfl rfl (by decide) (by decide) rfl (fun H locs G => ?_)
    refine lv_iconst (v := 0) hx hb dX9_markStalls_31 (by decide) ?_
    refine lv_istore_n (lv' := [(2, .int (0 : Int32)), (0, .ref ot), (1, .ref o1)]) hx hb dX9_markStalls_32 rfl hl (by decide) rfl (fun ls hl => ?_)
    refine lv_iconst (v := 0) hx hb dX9_markStalls_33 (by decide) ?_
    refine lv_istore_n (lv' := [(3, .int (0 : Int32)), (2, .int (0 : Int32)), (0, .ref ot), (1, .ref o1)]) hx hb dX9_markStalls_34 rfl hl (by decide) rfl (fun ls hl => ?_)
    obtain ⟨exL4, hitL4, hfL4⟩ := bd_some hf
    obtain ⟨nL4, hitL4⟩ := itr_ex hitL4
    have KL4_0 : ∀ (u : Int32 × ScT) (H : Heap) (locs : List Loc) (ls : Array Slot), exL4 = u → Wo D (wA (kHw k ot aHW () ++ (kWd k (aHW 0) aWD (WD) ++ (kPl k (aWD 0) aPL (PL) ++ (kVw k (aHW 4) aVW (VW) ++ (kSc k o1 aSC (SC))))))) s.heap (kHw k ot aHW () ++ (kWd k (aHW 0) aWD (WD) ++ (kPl k (aWD 0) aPL (PL) ++ (kVw k (aHW 4) aVW (r3) ++ (kSc k o1 aSC (u.2)))))) H locs → lv_has ls 5 [(2, .int (u.1))] → W p l e (rmz 4 92) s m [.ref ot, .ref o1].toArray below meth c H locs 0 0 (MQ below (Qm D (some (.int q.1)) (kHw k ot aHW () ++ (kWd k (aHW 0) aWD (WD) ++ (kPl k (aWD 0) aPL (PL) ++ (kVw k (aHW 4) aVW (VW) ++ (kSc k o1 aSC (SC)))))) (kHw k ot aHW () ++ (kWd k (aHW 0) aWD (WD) ++ (kPl k (aWD 0) aPL (PL) ++ (kVw k (aHW 4) aVW (q.2.1) ++ (kSc k o1 aSC (q.2.2))))))) [.ref ot, .ref o1].toArray s 0 0 (wA (kHw k ot aHW () ++ (kWd k (aHW 0) aWD (WD) ++ (kPl k (aWD 0) aPL (PL) ++ (kVw k (aHW 4) aVW (VW) ++ (kSc k o1 aSC (SC)))))))) (F0 m 87 ls []) := by
      intro uL4 H locs ls hex G hl
      rw [hex] at hfL4
      have hf := hfL4
      refine lv_iload_n hx hb dX9_markStalls_87 rfl (lv_at hl 0 rfl) ?_
      cases hf
      exact e_mi X G dX9_markStalls_88
    have LL4 : ∀ (n : Nat) (stL4 : Int32 × Int32 × ScT) (H : Heap) (locs : List Loc) (ls : Array Slot), Wo D (wA (kHw k ot aHW () ++ (kWd k (aHW 0) aWD (WD) ++ (kPl k (aWD 0) aPL (PL) ++ (kVw k (aHW 4) aVW (VW) ++ (kSc k o1 aSC (SC))))))) s.heap (kHw k ot aHW () ++ (kWd k (aHW 0) aWD (WD) ++ (kPl k (aWD 0) aPL (PL) ++ (kVw k (aHW 4) aVW (r3) ++ (kSc k o1 aSC (stL4.2.2)))))) H locs → lv_has ls 5 [(0, .ref ot), (1, .ref o1), (2, .int (stL4.1)), (3, .int (stL4.2.1))] → it (FX9_markStalls_35 PL r3) n stL4 = some exL4 → W p l e (rmz 4 92) s m [.ref ot, .ref o1].toArray below meth c H locs 0 0 (MQ below (Qm D (some (.int q.1)) (kHw k ot aHW () ++ (kWd k (aHW 0) aWD (WD) ++ (kPl k (aWD 0) aPL (PL) ++ (kVw k (aHW 4) aVW (VW) ++ (kSc k o1 aSC (SC)))))) (kHw k ot aHW () ++ (kWd k (aHW 0) aWD (WD) ++ (kPl k (aWD 0) aPL (PL) ++ (kVw k (aHW 4) aVW (q.2.1) ++ (kSc k o1 aSC (q.2.2))))))) [.ref ot, .ref o1].toArray s 0 0 (wA (kHw k ot aHW () ++ (kWd k (aHW 0) aWD (WD) ++ (kPl k (aWD 0) aPL (PL) ++ (kVw k (aHW 4) aVW (VW) ++ (kSc k o1 aSC (SC)))))))) (F0 m 35 ls []) := by
      intro n
      induction n with
      | zero =>
        intro stL4 H locs ls G hl hit
        exact (it_zero hit).elim
      | succ n ih =>
        intro stL4 H locs ls G hl hit
        obtain ⟨oL4, hf, hoL4⟩ := it_bd hit
        unfold FX9_markStalls_35 at hf
        refine lv_iload_n hx hb dX9_markStalls_35 rfl (lv_at hl 3 rfl) ?_
        refine lv_aload_n hx hb dX9_markStalls_36 rfl (lv_at hl 0 rfl) ?_
        refine r_get X inw_X9 G 0 rfl rfl 0 (by decide) fl_X9_10 (v := .ref (aHW 0)) rfl dX9_markStalls_37 ?_
        refine r_get X inw_X8 G 1 rfl rfl 0 (by decide) fl_X9_81 (v := .ref (aWD 0)) rfl dX9_markStalls_40 ?_
        refine r_get X inw_X1 G 2 rfl rfl 0 (by decide) fl_X9_113 (v := .int (Pl_workers PL)) rfl dX9_markStalls_43 ?_
        refine lv_icmp_ge (tgt := 87) hx hb dX9_markStalls_46 (by decide) (fun c5 => ?_) (fun c5 => ?_)
        · replace hf := if_t hf c5
          cases hf
          exact KL4_0 (stL4.1, stL4.2.2) _ _ _ (it_out hoL4) G (lv_sub hl [2] rfl)
        · replace hf := if_f hf c5
          refine lv_aload_n hx hb dX9_markStalls_49 rfl (lv_at hl 0 rfl) ?_
          refine r_get X inw_X9 G 0 rfl rfl 4 (by decide) fl_X9_37 (v := .ref (aHW 4)) rfl dX9_markStalls_50 ?_
          refine lv_iload_n hx hb dX9_markStalls_53 rfl (lv_at hl 3 rfl) ?_
          obtain ⟨r6, hcr6, hf⟩ := bd_some hf
          refine p_R (st1 := [.int r6]) (run_V (rest := []) X (ctX7_stallKind hZ (aHW 4) aVW hcr6) mk_X7_stallKind ml_X9_288 ⟨(Nat.le_of_ble_eq_true rfl), (Nat.le_of_ble_eq_true rfl)⟩ G [8, 9, 10, 11] rfl rfl 8 rfl rfl rfl hl.1 rfl (Nat.le_of_ble_eq_true rfl) dX9_markStalls_54 ⟨Nat.zero_le _, Nat.zero_le _⟩) rfl ?_
          refine lv_istore (lv' := [(4, .int r6), (0, .ref ot), (1, .ref o1), (2, .int (stL4.1)), (3, .int (stL4.2.1))]) hx hb dX9_markStalls_57 hl (by decide) rfl (fun ls hl => ?_)
          refine lv_iload hx hb dX9_markStalls_59 (lv_at hl 0 rfl) ?_
          refine lv_iconst (v := -1) hx hb dX9_markStalls_61 (by decide) ?_
          refine lv_icmp_eq (tgt := 81) hx hb dX9_markStalls_62 (by decide) (fun c7 => ?_) (fun c7 => ?_)
          · replace hf := if_t hf c7
            obtain ⟨x8, ex8, hf⟩ := nm_some hf
            refine lv_iinc (v := x8) (lv' := [(3, .int x8), (4, .int r6), (0, .ref ot), (1, .ref o1), (2, .int (stL4.1))]) hx hb dX9_markStalls_81 hl (k := 4) rfl (by subst ex8; rfl) (by decide) rfl (fun ls hl => ?_)
            refine lv_goto (tgt := 35) hx hb dX9_markStalls_84 (by decide) ?_
            cases hf
            exact ih (stL4.1, x8, stL4.2.2) _ _ _ G (lv_sub hl [2, 3, 4, 0] rfl) hoL4
          · replace hf := if_f hf c7
            refine lv_aload_n hx hb dX9_markStalls_65 rfl (lv_at hl 2 rfl) ?_
            refine lv_iload_n hx hb dX9_markStalls_66 rfl (lv_at hl 4 rfl) ?_
            refine lv_iload hx hb dX9_markStalls_67 (lv_at hl 0 rfl) ?_
            obtain ⟨r9, hcr9, hf⟩ := bd_some hf
            refine p_N (st1 := [.int (bI r9.1)]) (wr := kHw k ot aHW () ++ (kWd k (aHW 0) aWD (WD) ++ (kPl k (aWD 0) aPL (PL) ++ (kVw k (aHW 4) aVW (r3))))) (ws' := kHw k ot aHW () ++ (kWd k (aHW 0) aWD (WD) ++ (kPl k (aWD 0) aPL (PL) ++ (kVw k (aHW 4) aVW (r3) ++ (kSc k o1 aSC (r9.2)))))) (run_V (rest := []) X (ctX3_mark hZ o1 aSC hcr9) mk_X3_mark ml_X9_291 ⟨(Nat.le_of_ble_eq_true rfl), (Nat.le_of_ble_eq_true rfl)⟩ G [12, 13, 14, 15, 16, 17, 18, 19, 20] rfl rfl 12 rfl rfl rfl hl.1 rfl (Nat.le_of_ble_eq_true rfl) dX9_markStalls_69 ⟨Nat.zero_le _, Nat.zero_le _⟩) rfl G [12, 13, 14, 15, 16, 17, 18, 19, 20] [0, 1, 2, 3, 4, 5, 6, 7, 8, 9, 10, 11] 21 rfl rfl rfl rfl rfl (by decide) (by decide) rfl (fun H locs G => ?_)
            refine lv_if_eq (tgt := 81) hx hb dX9_markStalls_72 (by decide) (fun c10 => ?_) (fun c10 => ?_)
            · replace hf := if_t hf c10
              obtain ⟨x11, ex11, hf⟩ := nm_some hf
              refine lv_iinc (v := x11) (lv' := [(3, .int x11), (4, .int r6), (0, .ref ot), (1, .ref o1), (2, .int (stL4.1))]) hx hb dX9_markStalls_81 hl (k := 4) rfl (by subst ex11; rfl) (by decide) rfl (fun ls hl => ?_)
              refine lv_goto (tgt := 35) hx hb dX9_markStalls_84 (by decide) ?_
              cases hf
              exact ih (stL4.1, x11, r9.2) _ _ _ G (lv_sub hl [2, 3, 4, 0] rfl) hoL4
            · replace hf := if_f hf c10
              refine lv_iload_n hx hb dX9_markStalls_75 rfl (lv_at hl 3 rfl) ?_
              refine lv_iconst (v := 1) hx hb dX9_markStalls_76 (by decide) ?_
              refine lv_iload_n hx hb dX9_markStalls_77 rfl (lv_at hl 4 rfl) ?_
              refine lv_ishl hx hb dX9_markStalls_78 ?_
              refine lv_ior hx hb dX9_markStalls_79 ?_
              obtain ⟨x12, ex12, hf⟩ := nm_some hf
              refine r_top (congrArg Value.int ex12) ?_
              refine lv_istore_n (lv' := [(2, .int x12), (4, .int r6), (0, .ref ot), (1, .ref o1), (3, .int (stL4.2.1))]) hx hb dX9_markStalls_80 rfl hl (by decide) rfl (fun ls hl => ?_)
              obtain ⟨x13, ex13, hf⟩ := nm_some hf
              refine lv_iinc (v := x13) (lv' := [(3, .int x13), (2, .int x12), (4, .int r6), (0, .ref ot), (1, .ref o1)]) hx hb dX9_markStalls_81 hl (k := 4) rfl (by subst ex13; rfl) (by decide) rfl (fun ls hl => ?_)
              refine lv_goto (tgt := 35) hx hb dX9_markStalls_84 (by decide) ?_
              cases hf
              exact ih (x12, x13, r9.2) _ _ _ G (lv_sub hl [3, 4, 1, 0] rfl) hoL4
    exact LL4 nL4 ((0 : Int32), (0 : Int32), SC) _ _ _ G (lv_sub hl [2, 3, 1, 0] rfl) hitL4
  · replace hf := if_t hf c2
    refine lv_iconst (v := 0) hx hb dX9_markStalls_14 (by decide) ?_
    cases hf
    exact e_mi X G dX9_markStalls_15
theorem mk_X9_markStalls : MV yX9_markStalls cX9_markStalls 5 (some .int) 1 := ⟨co_X9_markStalls, in_X9, im_X9_markStalls, se_X9_markStalls, by decide +kernel, by decide +kernel⟩
noncomputable def FX9_keepStalls_10 (PL : PlT) (SC : ScT) (TR : TrT) (VW : VwT) (v1 : Int32) : (Int32 × SkT) → Option ((Int32 × SkT) ⊕ (SkT)) := fun stL1 =>
  if (Pl_workers PL) ≤ stL1.1 then (
    some (.inr stL1.2)
  ) else (
    (FX9_has v1 stL1.1).bind fun r3 =>
    if (bI r3) = 0 then (
      nm (stL1.1 + 1) fun x5 =>
      some (.inl (x5, stL1.2))
    ) else (
      (FX6_blocker TR SC VW stL1.1).bind fun r6 =>
      (FX7_stallKind VW stL1.1).bind fun r7 =>
      (FX7_neighbour VW stL1.1).bind fun r8 =>
      (FX4_keep stL1.2 (Sc_tick SC) stL1.1 r7 r6 r8).bind fun r9 =>
      nm (stL1.1 + 1) fun x10 =>
      some (.inl (x10, r9))
    )
  )
noncomputable def FX9_keepStalls (WD : WdT) (PL : PlT) (SC : ScT) (SK : SkT) (TR : TrT) (VW : VwT) (v1 : Int32) : Option (SkT) :=
  (itr (FX9_keepStalls_10 PL SC TR VW v1) ((0 : Int32), SK)).bind fun uL1 =>
  some uL1
set_option maxHeartbeats 4000000 in
set_option maxRecDepth 100000 in
theorem ctX9_keepStalls {l : Launch} {D : va_G} {k : Nat → ClassId} {Z : ZT} (hZ : ZOK Z) (ot : Nat) (aHW : Nat → Nat) (aWD : Nat → Nat) (aPL : Nat → Nat) (aSC : Nat → Nat) (aSK : Nat → Nat) (aTR : Nat → Nat) (aVW : Nat → Nat) {WD : WdT} {PL : PlT} {SC : ScT} {SK : SkT} {TR : TrT} {VW : VwT} {v1 : Int32} {q : SkT} (hf : FX9_keepStalls WD PL SC SK TR VW v1 = some q) :
    CM l D k Z yX9_keepStalls cX9_keepStalls 5 none 3 70 [.ref ot, .int v1] none (kHw k ot aHW () ++ (kWd k (aHW 0) aWD (WD) ++ (kPl k (aWD 0) aPL (PL) ++ (kSc k (aWD 1) aSC (SC) ++ (kSk k (aWD 2) aSK (SK) ++ (kTr k (aHW 5) aTR (TR) ++ (kVw k (aHW 4) aVW (VW)))))))) (kHw k ot aHW () ++ (kWd k (aHW 0) aWD (WD) ++ (kPl k (aWD 0) aPL (PL) ++ (kSc k (aWD 1) aSC (SC) ++ (kSk k (aWD 2) aSK (q) ++ (kTr k (aHW 5) aTR (TR) ++ (kVw k (aHW 4) aVW (VW)))))))) := by
  refine CM.start hZ (by decide) (Nat.le_of_ble_eq_true rfl) ?_
  intro p e s m below meth c ls X hl G
  have hx := X.1
  have hb := X.2.1
  have hl : lv_has ls 5 [(0, .ref ot), (1, .int v1)] := hl
  unfold FX9_keepStalls at hf
  refine lv_aload_n hx hb dX9_keepStalls_0 rfl (lv_at hl 0 rfl) ?_
  refine r_get X inw_X9 G 0 rfl rfl 0 (by decide) fl_X9_10 (v := .ref (aHW 0)) rfl dX9_keepStalls_1 ?_
  refine r_get X inw_X8 G 1 rfl rfl 1 (by decide) fl_X9_97 (v := .ref (aWD 1)) rfl dX9_keepStalls_4 ?_
  refine lv_astore_n (lv' := [(2, .ref (aWD 1)), (0, .ref ot), (1, .int v1)]) hx hb dX9_keepStalls_7 rfl hl (by decide) rfl (fun ls hl => ?_)
  refine lv_iconst (v := 0) hx hb dX9_keepStalls_8 (by decide) ?_
  refine lv_istore_n (lv' := [(3, .int (0 : Int32)), (2, .ref (aWD 1)), (0, .ref ot), (1, .int v1)]) hx hb dX9_keepStalls_9 rfl hl (by decide) rfl (fun ls hl => ?_)
  obtain ⟨exL1, hitL1, hfL1⟩ := bd_some hf
  obtain ⟨nL1, hitL1⟩ := itr_ex hitL1
  have KL1_0 : ∀ (u : SkT) (H : Heap) (locs : List Loc) (ls : Array Slot), exL1 = u → Wo D (wA (kHw k ot aHW () ++ (kWd k (aHW 0) aWD (WD) ++ (kPl k (aWD 0) aPL (PL) ++ (kSc k (aWD 1) aSC (SC) ++ (kSk k (aWD 2) aSK (SK) ++ (kTr k (aHW 5) aTR (TR) ++ (kVw k (aHW 4) aVW (VW))))))))) s.heap (kHw k ot aHW () ++ (kWd k (aHW 0) aWD (WD) ++ (kPl k (aWD 0) aPL (PL) ++ (kSc k (aWD 1) aSC (SC) ++ (kSk k (aWD 2) aSK (u) ++ (kTr k (aHW 5) aTR (TR) ++ (kVw k (aHW 4) aVW (VW)))))))) H locs → lv_has ls 5 [] → W p l e (rmz 3 70) s m [.ref ot, .int v1].toArray below meth c H locs 0 0 (MQ below (Qm D none (kHw k ot aHW () ++ (kWd k (aHW 0) aWD (WD) ++ (kPl k (aWD 0) aPL (PL) ++ (kSc k (aWD 1) aSC (SC) ++ (kSk k (aWD 2) aSK (SK) ++ (kTr k (aHW 5) aTR (TR) ++ (kVw k (aHW 4) aVW (VW)))))))) (kHw k ot aHW () ++ (kWd k (aHW 0) aWD (WD) ++ (kPl k (aWD 0) aPL (PL) ++ (kSc k (aWD 1) aSC (SC) ++ (kSk k (aWD 2) aSK (q) ++ (kTr k (aHW 5) aTR (TR) ++ (kVw k (aHW 4) aVW (VW))))))))) [.ref ot, .int v1].toArray s 0 0 (wA (kHw k ot aHW () ++ (kWd k (aHW 0) aWD (WD) ++ (kPl k (aWD 0) aPL (PL) ++ (kSc k (aWD 1) aSC (SC) ++ (kSk k (aWD 2) aSK (SK) ++ (kTr k (aHW 5) aTR (TR) ++ (kVw k (aHW 4) aVW (VW)))))))))) (F0 m 86 ls []) := by
    intro uL1 H locs ls hex G hl
    rw [hex] at hfL1
    have hf := hfL1
    cases hf
    exact e_mv X G dX9_keepStalls_86
  have LL1 : ∀ (n : Nat) (stL1 : Int32 × SkT) (H : Heap) (locs : List Loc) (ls : Array Slot), Wo D (wA (kHw k ot aHW () ++ (kWd k (aHW 0) aWD (WD) ++ (kPl k (aWD 0) aPL (PL) ++ (kSc k (aWD 1) aSC (SC) ++ (kSk k (aWD 2) aSK (SK) ++ (kTr k (aHW 5) aTR (TR) ++ (kVw k (aHW 4) aVW (VW))))))))) s.heap (kHw k ot aHW () ++ (kWd k (aHW 0) aWD (WD) ++ (kPl k (aWD 0) aPL (PL) ++ (kSc k (aWD 1) aSC (SC) ++ (kSk k (aWD 2) aSK (stL1.2) ++ (kTr k (aHW 5) aTR (TR) ++ (kVw k (aHW 4) aVW (VW)))))))) H locs → lv_has ls 5 [(0, .ref ot), (1, .int v1), (2, .ref (aWD 1)), (3, .int (stL1.1))] → it (FX9_keepStalls_10 PL SC TR VW v1) n stL1 = some exL1 → W p l e (rmz 3 70) s m [.ref ot, .int v1].toArray below meth c H locs 0 0 (MQ below (Qm D none (kHw k ot aHW () ++ (kWd k (aHW 0) aWD (WD) ++ (kPl k (aWD 0) aPL (PL) ++ (kSc k (aWD 1) aSC (SC) ++ (kSk k (aWD 2) aSK (SK) ++ (kTr k (aHW 5) aTR (TR) ++ (kVw k (aHW 4) aVW (VW)))))))) (kHw k ot aHW () ++ (kWd k (aHW 0) aWD (WD) ++ (kPl k (aWD 0) aPL (PL) ++ (kSc k (aWD 1) aSC (SC) ++ (kSk k (aWD 2) aSK (q) ++ (kTr k (aHW 5) aTR (TR) ++ (kVw k (aHW 4) aVW (VW))))))))) [.ref ot, .int v1].toArray s 0 0 (wA (kHw k ot aHW () ++ (kWd k (aHW 0) aWD (WD) ++ (kPl k (aWD 0) aPL (PL) ++ (kSc k (aWD 1) aSC (SC) ++ (kSk k (aWD 2) aSK (SK) ++ (kTr k (aHW 5) aTR (TR) ++ (kVw k (aHW 4) aVW (VW)))))))))) (F0 m 10 ls []) := by
    intro n
    induction n with
    | zero =>
      intro stL1 H locs ls G hl hit
      exact (it_zero hit).elim
    | succ n ih =>
      intro stL1 H locs ls G hl hit
      obtain ⟨oL1, hf, hoL1⟩ := it_bd hit
      unfold FX9_keepStalls_10 at hf
      refine lv_iload_n hx hb dX9_keepStalls_10 rfl (lv_at hl 3 rfl) ?_
      refine lv_aload_n hx hb dX9_keepStalls_11 rfl (lv_at hl 0 rfl) ?_
      refine r_get X inw_X9 G 0 rfl rfl 0 (by decide) fl_X9_10 (v := .ref (aHW 0)) rfl dX9_keepStalls_12 ?_
      refine r_get X inw_X8 G 1 rfl rfl 0 (by decide) fl_X9_81 (v := .ref (aWD 0)) rfl dX9_keepStalls_15 ?_
      refine r_get X inw_X1 G 2 rfl rfl 0 (by decide) fl_X9_113 (v := .int (Pl_workers PL)) rfl dX9_keepStalls_18 ?_
      refine lv_icmp_ge (tgt := 86) hx hb dX9_keepStalls_21 (by decide) (fun c2 => ?_) (fun c2 => ?_)
      · replace hf := if_t hf c2
        cases hf
        exact KL1_0 stL1.2 _ _ _ (it_out hoL1) G (lv_sub hl [] rfl)
      · replace hf := if_f hf c2
        refine lv_iload_n hx hb dX9_keepStalls_24 rfl (lv_at hl 1 rfl) ?_
        refine lv_iload_n hx hb dX9_keepStalls_25 rfl (lv_at hl 3 rfl) ?_
        obtain ⟨r3, hcr3, hf⟩ := bd_some hf
        refine p_R (st1 := [.int (bI r3)]) (run_S (rest := []) X (ctX9_has hZ hcr3) mk_X9_has ml_X9_134 ⟨(Nat.le_of_ble_eq_true rfl), (Nat.le_of_ble_eq_true rfl)⟩ G [] rfl rfl rfl hl.1 rfl (Nat.le_of_ble_eq_true rfl) dX9_keepStalls_26 ⟨Nat.zero_le _, Nat.zero_le _⟩) rfl ?_
        refine lv_if_eq (tgt := 80) hx hb dX9_keepStalls_29 (by decide) (fun c4 => ?_) (fun c4 => ?_)
        · replace hf := if_t hf c4
          obtain ⟨x5, ex5, hf⟩ := nm_some hf
          refine lv_iinc (v := x5) (lv' := [(3, .int x5), (0, .ref ot), (1, .int v1), (2, .ref (aWD 1))]) hx hb dX9_keepStalls_80 hl (k := 3) rfl (by subst ex5; rfl) (by decide) rfl (fun ls hl => ?_)
          refine lv_goto (tgt := 10) hx hb dX9_keepStalls_83 (by decide) ?_
          cases hf
          exact ih (x5, stL1.2) _ _ _ G (lv_sub hl [1, 2, 3, 0] rfl) hoL1
        · replace hf := if_f hf c4
          refine lv_aload_n hx hb dX9_keepStalls_32 rfl (lv_at hl 0 rfl) ?_
          refine r_get X inw_X9 G 0 rfl rfl 5 (by decide) fl_X9_44 (v := .ref (aHW 5)) rfl dX9_keepStalls_33 ?_
          refine lv_aload_n hx hb dX9_keepStalls_36 rfl (lv_at hl 2 rfl) ?_
          refine lv_aload_n hx hb dX9_keepStalls_37 rfl (lv_at hl 0 rfl) ?_
          refine r_get X inw_X9 G 0 rfl rfl 4 (by decide) fl_X9_37 (v := .ref (aHW 4)) rfl dX9_keepStalls_38 ?_
          refine lv_iload_n hx hb dX9_keepStalls_41 rfl (lv_at hl 3 rfl) ?_
          obtain ⟨r6, hcr6, hf⟩ := bd_some hf
          refine p_R (st1 := [.int r6]) (run_V (rest := []) X (ctX6_blocker hZ (aHW 5) (aWD 1) (aHW 4) aTR aSC aVW hcr6) mk_X6_blocker ml_X9_275 ⟨(Nat.le_of_ble_eq_true rfl), (Nat.le_of_ble_eq_true rfl)⟩ G [19, 20, 8, 9, 10, 11, 12, 13, 14, 15, 16, 21, 22, 23, 24] rfl rfl 19 rfl rfl rfl hl.1 rfl (Nat.le_of_ble_eq_true rfl) dX9_keepStalls_42 ⟨Nat.zero_le _, Nat.zero_le _⟩) rfl ?_
          refine lv_istore (lv' := [(4, .int r6), (0, .ref ot), (1, .int v1), (2, .ref (aWD 1)), (3, .int (stL1.1))]) hx hb dX9_keepStalls_45 hl (by decide) rfl (fun ls hl => ?_)
          refine lv_aload_n hx hb dX9_keepStalls_47 rfl (lv_at hl 1 rfl) ?_
          refine r_get X inw_X9 G 0 rfl rfl 0 (by decide) fl_X9_10 (v := .ref (aHW 0)) rfl dX9_keepStalls_48 ?_
          refine r_get X inw_X8 G 1 rfl rfl 2 (by decide) fl_X9_103 (v := .ref (aWD 2)) rfl dX9_keepStalls_51 ?_
          refine lv_aload_n hx hb dX9_keepStalls_54 rfl (lv_at hl 3 rfl) ?_
          refine r_get X inw_X3 G 8 rfl rfl 0 (by decide) fl_X9_154 (v := .int (Sc_tick SC)) rfl dX9_keepStalls_55 ?_
          refine lv_iload_n hx hb dX9_keepStalls_58 rfl (lv_at hl 4 rfl) ?_
          refine lv_aload_n hx hb dX9_keepStalls_59 rfl (lv_at hl 1 rfl) ?_
          refine r_get X inw_X9 G 0 rfl rfl 4 (by decide) fl_X9_37 (v := .ref (aHW 4)) rfl dX9_keepStalls_60 ?_
          refine lv_iload_n hx hb dX9_keepStalls_63 rfl (lv_at hl 4 rfl) ?_
          obtain ⟨r7, hcr7, hf⟩ := bd_some hf
          refine p_R (st1 := [.int r7, .int (stL1.1), .int (Sc_tick SC), .ref (aWD 2)]) (run_V (rest := [.int (stL1.1), .int (Sc_tick SC), .ref (aWD 2)]) X (ctX7_stallKind hZ (aHW 4) aVW hcr7) mk_X7_stallKind ml_X9_288 ⟨(Nat.le_of_ble_eq_true rfl), (Nat.le_of_ble_eq_true rfl)⟩ G [21, 22, 23, 24] rfl rfl 21 rfl rfl rfl hl.1 rfl (Nat.le_of_ble_eq_true rfl) dX9_keepStalls_64 ⟨Nat.zero_le _, Nat.zero_le _⟩) rfl ?_
          refine lv_iload hx hb dX9_keepStalls_67 (lv_at hl 0 rfl) ?_
          refine lv_aload_n hx hb dX9_keepStalls_69 rfl (lv_at hl 1 rfl) ?_
          refine r_get X inw_X9 G 0 rfl rfl 4 (by decide) fl_X9_37 (v := .ref (aHW 4)) rfl dX9_keepStalls_70 ?_
          refine lv_iload_n hx hb dX9_keepStalls_73 rfl (lv_at hl 4 rfl) ?_
          obtain ⟨r8, hcr8, hf⟩ := bd_some hf
          refine p_R (st1 := [.int r8, .int r6, .int r7, .int (stL1.1), .int (Sc_tick SC), .ref (aWD 2)]) (run_V (rest := [.int r6, .int r7, .int (stL1.1), .int (Sc_tick SC), .ref (aWD 2)]) X (ctX7_neighbour hZ (aHW 4) aVW hcr8) mk_X7_neighbour ml_X9_279 ⟨(Nat.le_of_ble_eq_true rfl), (Nat.le_of_ble_eq_true rfl)⟩ G [21, 22, 23, 24] rfl rfl 21 rfl rfl rfl hl.1 rfl (Nat.le_of_ble_eq_true rfl) dX9_keepStalls_74 ⟨Nat.zero_le _, Nat.zero_le _⟩) rfl ?_
          obtain ⟨r9, hcr9, hf⟩ := bd_some hf
          refine p_N (st1 := []) (wr := kHw k ot aHW () ++ (kWd k (aHW 0) aWD (WD) ++ (kPl k (aWD 0) aPL (PL) ++ (kSc k (aWD 1) aSC (SC) ++ (kTr k (aHW 5) aTR (TR) ++ (kVw k (aHW 4) aVW (VW))))))) (ws' := kHw k ot aHW () ++ (kWd k (aHW 0) aWD (WD) ++ (kPl k (aWD 0) aPL (PL) ++ (kSc k (aWD 1) aSC (SC) ++ (kSk k (aWD 2) aSK (r9) ++ (kTr k (aHW 5) aTR (TR) ++ (kVw k (aHW 4) aVW (VW)))))))) (run_V (rest := []) X (ctX4_keep hZ (aWD 2) aSK hcr9) mk_X4_keep ml_X9_294 ⟨(Nat.le_of_ble_eq_true rfl), (Nat.le_of_ble_eq_true rfl)⟩ G [17, 18] rfl rfl 17 rfl rfl rfl hl.1 rfl (Nat.le_of_ble_eq_true rfl) dX9_keepStalls_77 ⟨Nat.zero_le _, Nat.zero_le _⟩) rfl G [17, 18] [0, 1, 2, 3, 4, 5, 6, 7, 8, 9, 10, 11, 12, 13, 14, 15, 16, 19, 20, 21, 22, 23, 24] 25 rfl rfl rfl rfl rfl (by decide) (by decide) rfl (fun H locs G => ?_)
          obtain ⟨x10, ex10, hf⟩ := nm_some hf
          refine lv_iinc (v := x10) (lv' := [(3, .int x10), (4, .int r6), (0, .ref ot), (1, .int v1), (2, .ref (aWD 1))]) hx hb dX9_keepStalls_80 hl (k := 4) rfl (by subst ex10; rfl) (by decide) rfl (fun ls hl => ?_)
          refine lv_goto (tgt := 10) hx hb dX9_keepStalls_83 (by decide) ?_
          cases hf
          exact ih (x10, r9) _ _ _ G (lv_sub hl [2, 3, 4, 0] rfl) hoL1
  exact LL1 nL1 ((0 : Int32), SK) _ _ _ G (lv_sub hl [2, 3, 1, 0] rfl) hitL1
theorem mk_X9_keepStalls : MV yX9_keepStalls cX9_keepStalls 5 none 1 := ⟨co_X9_keepStalls, in_X9, im_X9_keepStalls, se_X9_keepStalls, by decide +kernel, by decide +kernel⟩
noncomputable def FX9_passTick (WD : WdT) (PL : PlT) (SC : ScT) (SK : SkT) (TR : TrT) (SC_2 : ScT) (VW : VwT) (VW_2 : VwT) : Option (Int32 × ScT × SkT × TrT × ScT × VwT × VwT) :=
  (FX3_pass SC PL).bind fun r1 =>
  (FX9_markStalls WD PL VW_2 r1).bind fun r2 =>
  if r2.1 = 0 then (
    (FJ6_bitCount_0f7a4 r2.1).bind fun r4 =>
    some (r4, r2.2.2, SK, TR, SC_2, VW, r2.2.1)
  ) else (
    (FX6_weigh TR SC_2 VW PL r2.2.2 r2.2.1).bind fun r5 =>
    (FX9_keepStalls WD PL r2.2.2 SK r5.1 r2.2.1 r2.1).bind fun r6 =>
    (FJ6_bitCount_0f7a4 r2.1).bind fun r7 =>
    some (r7, r2.2.2, r6, r5.1, r5.2.1, r5.2.2, r2.2.1)
  )
set_option maxHeartbeats 4000000 in
set_option maxRecDepth 100000 in
theorem ctX9_passTick {l : Launch} {D : va_G} {k : Nat → ClassId} {Z : ZT} (hZ : ZOK Z) (ot : Nat) (aHW : Nat → Nat) (aWD : Nat → Nat) (aPL : Nat → Nat) (aSC : Nat → Nat) (aSK : Nat → Nat) (aTR : Nat → Nat) (aSC_2 : Nat → Nat) (aVW : Nat → Nat) (aVW_2 : Nat → Nat) {WD : WdT} {PL : PlT} {SC : ScT} {SK : SkT} {TR : TrT} {SC_2 : ScT} {VW : VwT} {VW_2 : VwT} {q : Int32 × ScT × SkT × TrT × ScT × VwT × VwT} (hf : FX9_passTick WD PL SC SK TR SC_2 VW VW_2 = some q) :
    CM l D k Z yX9_passTick cX9_passTick 2 (some .int) 5 116 [.ref ot] (some (.int q.1)) (kHw k ot aHW () ++ (kWd k (aHW 0) aWD (WD) ++ (kPl k (aWD 0) aPL (PL) ++ (kSc k (aWD 1) aSC (SC) ++ (kSk k (aWD 2) aSK (SK) ++ (kTr k (aHW 5) aTR (TR) ++ (kSc k (aTR 0) aSC_2 (SC_2) ++ (kVw k (aTR 1) aVW (VW) ++ (kVw k (aHW 4) aVW_2 (VW_2)))))))))) (kHw k ot aHW () ++ (kWd k (aHW 0) aWD (WD) ++ (kPl k (aWD 0) aPL (PL) ++ (kSc k (aWD 1) aSC (q.2.1) ++ (kSk k (aWD 2) aSK (q.2.2.1) ++ (kTr k (aHW 5) aTR (q.2.2.2.1) ++ (kSc k (aTR 0) aSC_2 (q.2.2.2.2.1) ++ (kVw k (aTR 1) aVW (q.2.2.2.2.2.1) ++ (kVw k (aHW 4) aVW_2 (q.2.2.2.2.2.2)))))))))) := by
  refine CM.start hZ (by decide) (Nat.le_of_ble_eq_true rfl) ?_
  intro p e s m below meth c ls X hl G
  have hx := X.1
  have hb := X.2.1
  have hl : lv_has ls 2 [(0, .ref ot)] := hl
  unfold FX9_passTick at hf
  refine lv_aload_n hx hb dX9_passTick_0 rfl (lv_at hl 0 rfl) ?_
  refine r_get X inw_X9 G 0 rfl rfl 0 (by decide) fl_X9_10 (v := .ref (aHW 0)) rfl dX9_passTick_1 ?_
  refine r_get X inw_X8 G 1 rfl rfl 1 (by decide) fl_X9_97 (v := .ref (aWD 1)) rfl dX9_passTick_4 ?_
  refine lv_aload_n hx hb dX9_passTick_7 rfl (lv_at hl 0 rfl) ?_
  refine r_get X inw_X9 G 0 rfl rfl 0 (by decide) fl_X9_10 (v := .ref (aHW 0)) rfl dX9_passTick_8 ?_
  refine r_get X inw_X8 G 1 rfl rfl 0 (by decide) fl_X9_81 (v := .ref (aWD 0)) rfl dX9_passTick_11 ?_
  obtain ⟨r1, hcr1, hf⟩ := bd_some hf
  refine p_N (st1 := []) (wr := kHw k ot aHW () ++ (kWd k (aHW 0) aWD (WD) ++ (kSk k (aWD 2) aSK (SK) ++ (kTr k (aHW 5) aTR (TR) ++ (kSc k (aTR 0) aSC_2 (SC_2) ++ (kVw k (aTR 1) aVW (VW) ++ (kVw k (aHW 4) aVW_2 (VW_2)))))))) (ws' := kHw k ot aHW () ++ (kWd k (aHW 0) aWD (WD) ++ (kPl k (aWD 0) aPL (PL) ++ (kSc k (aWD 1) aSC (r1) ++ (kSk k (aWD 2) aSK (SK) ++ (kTr k (aHW 5) aTR (TR) ++ (kSc k (aTR 0) aSC_2 (SC_2) ++ (kVw k (aTR 1) aVW (VW) ++ (kVw k (aHW 4) aVW_2 (VW_2)))))))))) (run_V (rest := []) X (ctX3_pass hZ (aWD 1) (aWD 0) aSC aPL hcr1) mk_X3_pass ml_X9_244 ⟨(Nat.le_of_ble_eq_true rfl), (Nat.le_of_ble_eq_true rfl)⟩ G [8, 9, 10, 11, 12, 13, 14, 15, 16, 2, 3, 4, 5, 6, 7] rfl rfl 8 rfl rfl rfl hl.1 rfl (Nat.le_of_ble_eq_true rfl) dX9_passTick_14 ⟨Nat.zero_le _, Nat.zero_le _⟩) rfl G [8, 9, 10, 11, 12, 13, 14, 15, 16, 2, 3, 4, 5, 6, 7] [0, 1, 17, 18, 19, 20, 21, 22, 23, 24, 25, 26, 27, 28, 29, 30, 31, 32, 33, 34, 35, 36, 37] 38 rfl rfl rfl rfl rfl (by decide) (by decide) rfl (fun H locs G => ?_)
  refine lv_aload_n hx hb dX9_passTick_17 rfl (lv_at hl 0 rfl) ?_
  refine lv_aload_n hx hb dX9_passTick_18 rfl (lv_at hl 0 rfl) ?_
  refine r_get X inw_X9 G 0 rfl rfl 0 (by decide) fl_X9_10 (v := .ref (aHW 0)) rfl dX9_passTick_19 ?_
  refine r_get X inw_X8 G 1 rfl rfl 1 (by decide) fl_X9_97 (v := .ref (aWD 1)) rfl dX9_passTick_22 ?_
  obtain ⟨r2, hcr2, hf⟩ := bd_some hf
  refine p_N (st1 := [.int (r2.1)]) (wr := kSk k (aWD 2) aSK (SK) ++ (kTr k (aHW 5) aTR (TR) ++ (kSc k (aTR 0) aSC_2 (SC_2) ++ (kVw k (aTR 1) aVW (VW))))) (ws' := kHw k ot aHW () ++ (kWd k (aHW 0) aWD (WD) ++ (kPl k (aWD 0) aPL (PL) ++ (kSc k (aWD 1) aSC (r2.2.2) ++ (kSk k (aWD 2) aSK (SK) ++ (kTr k (aHW 5) aTR (TR) ++ (kSc k (aTR 0) aSC_2 (SC_2) ++ (kVw k (aTR 1) aVW (VW) ++ (kVw k (aHW 4) aVW_2 (r2.2.1)))))))))) (run_V (rest := []) X (ctX9_markStalls hZ ot (aWD 1) aHW aWD aPL aVW_2 aSC hcr2) mk_X9_markStalls ml_X9_251 ⟨(Nat.le_of_ble_eq_true rfl), (Nat.le_of_ble_eq_true rfl)⟩ G [0, 1, 2, 3, 4, 5, 6, 7, 34, 35, 36, 37, 8, 9, 10, 11, 12, 13, 14, 15, 16] rfl rfl 0 rfl rfl rfl hl.1 rfl (Nat.le_of_ble_eq_true rfl) dX9_passTick_25 ⟨Nat.zero_le _, Nat.zero_le _⟩) rfl G [0, 1, 2, 3, 4, 5, 6, 7, 34, 35, 36, 37, 8, 9, 10, 11, 12, 13, 14, 15, 16] [17, 18, 19, 20, 21, 22, 23, 24, 25, 26, 27, 28, 29, 30, 31, 32, 33] 38 rfl rfl rfl rfl rfl (by decide) (by decide) rfl (fun H locs G => ?_)
  refine lv_istore_n (lv' := [(1, .int (r2.1)), (0, .ref ot)]) hx hb dX9_passTick_28 rfl hl (by decide) rfl (fun ls hl => ?_)
  refine lv_iload_n hx hb dX9_passTick_29 rfl (lv_at hl 0 rfl) ?_
  refine lv_if_eq (tgt := 63) hx hb dX9_passTick_30 (by decide) (fun c3 => ?_) (fun c3 => ?_)
  · replace hf := if_t hf c3
    refine lv_iload_n hx hb dX9_passTick_63 rfl (lv_at hl 0 rfl) ?_
    obtain ⟨r4, hcr4, hf⟩ := bd_some hf
    refine p_R (st1 := [.int r4]) (run_S (rest := []) X (ctJ6_bitCount_0f7a4 hZ hcr4) mk_J6_bitCount_0f7a4 ml_X9_255 ⟨(Nat.le_of_ble_eq_true rfl), (Nat.le_of_ble_eq_true rfl)⟩ G [] rfl rfl rfl hl.1 rfl (Nat.le_of_ble_eq_true rfl) dX9_passTick_64 ⟨Nat.zero_le _, Nat.zero_le _⟩) rfl ?_
    cases hf
    exact e_mi X G dX9_passTick_67
  · replace hf := if_f hf c3
    refine lv_aload_n hx hb dX9_passTick_33 rfl (lv_at hl 1 rfl) ?_
    refine r_get X inw_X9 G 0 rfl rfl 5 (by decide) fl_X9_44 (v := .ref (aHW 5)) rfl dX9_passTick_34 ?_
    refine lv_aload_n hx hb dX9_passTick_37 rfl (lv_at hl 1 rfl) ?_
    refine r_get X inw_X9 G 0 rfl rfl 0 (by decide) fl_X9_10 (v := .ref (aHW 0)) rfl dX9_passTick_38 ?_
    refine r_get X inw_X8 G 1 rfl rfl 0 (by decide) fl_X9_81 (v := .ref (aWD 0)) rfl dX9_passTick_41 ?_
    refine lv_aload_n hx hb dX9_passTick_44 rfl (lv_at hl 1 rfl) ?_
    refine r_get X inw_X9 G 0 rfl rfl 0 (by decide) fl_X9_10 (v := .ref (aHW 0)) rfl dX9_passTick_45 ?_
    refine r_get X inw_X8 G 1 rfl rfl 1 (by decide) fl_X9_97 (v := .ref (aWD 1)) rfl dX9_passTick_48 ?_
    refine lv_aload_n hx hb dX9_passTick_51 rfl (lv_at hl 1 rfl) ?_
    refine r_get X inw_X9 G 0 rfl rfl 4 (by decide) fl_X9_37 (v := .ref (aHW 4)) rfl dX9_passTick_52 ?_
    obtain ⟨r5, hcr5, hf⟩ := bd_some hf
    refine p_N (st1 := []) (wr := kHw k ot aHW () ++ (kWd k (aHW 0) aWD (WD) ++ (kSk k (aWD 2) aSK (SK)))) (ws' := kHw k ot aHW () ++ (kWd k (aHW 0) aWD (WD) ++ (kPl k (aWD 0) aPL (PL) ++ (kSc k (aWD 1) aSC (r2.2.2) ++ (kSk k (aWD 2) aSK (SK) ++ (kTr k (aHW 5) aTR (r5.1) ++ (kSc k (aTR 0) aSC_2 (r5.2.1) ++ (kVw k (aTR 1) aVW (r5.2.2) ++ (kVw k (aHW 4) aVW_2 (r2.2.1)))))))))) (run_V (rest := []) X (ctX6_weigh hZ (aHW 5) (aWD 0) (aWD 1) (aHW 4) aTR aSC_2 aVW aPL aSC aVW_2 hcr5) mk_X6_weigh ml_X9_234 ⟨(Nat.le_of_ble_eq_true rfl), (Nat.le_of_ble_eq_true rfl)⟩ G [19, 20, 21, 22, 23, 24, 25, 26, 27, 28, 29, 30, 31, 32, 33, 2, 3, 4, 5, 6, 7, 8, 9, 10, 11, 12, 13, 14, 15, 16, 34, 35, 36, 37] rfl rfl 19 rfl rfl rfl hl.1 rfl (Nat.le_of_ble_eq_true rfl) dX9_passTick_55 ⟨Nat.zero_le _, Nat.zero_le _⟩) rfl G [19, 20, 21, 22, 23, 24, 25, 26, 27, 28, 29, 30, 31, 32, 33, 2, 3, 4, 5, 6, 7, 8, 9, 10, 11, 12, 13, 14, 15, 16, 34, 35, 36, 37] [0, 1, 17, 18] 38 rfl rfl rfl rfl rfl (by decide) (by decide) rfl (fun H locs G => ?_)
    refine lv_aload_n hx hb dX9_passTick_58 rfl (lv_at hl 1 rfl) ?_
    refine lv_iload_n hx hb dX9_passTick_59 rfl (lv_at hl 0 rfl) ?_
    obtain ⟨r6, hcr6, hf⟩ := bd_some hf
    refine p_N (st1 := []) (wr := kSc k (aTR 0) aSC_2 (r5.2.1) ++ (kVw k (aTR 1) aVW (r5.2.2))) (ws' := kHw k ot aHW () ++ (kWd k (aHW 0) aWD (WD) ++ (kPl k (aWD 0) aPL (PL) ++ (kSc k (aWD 1) aSC (r2.2.2) ++ (kSk k (aWD 2) aSK (r6) ++ (kTr k (aHW 5) aTR (r5.1) ++ (kSc k (aTR 0) aSC_2 (r5.2.1) ++ (kVw k (aTR 1) aVW (r5.2.2) ++ (kVw k (aHW 4) aVW_2 (r2.2.1)))))))))) (run_V (rest := []) X (ctX9_keepStalls hZ ot aHW aWD aPL aSC aSK aTR aVW_2 hcr6) mk_X9_keepStalls ml_X9_282 ⟨(Nat.le_of_ble_eq_true rfl), (Nat.le_of_ble_eq_true rfl)⟩ G [0, 1, 2, 3, 4, 5, 6, 7, 8, 9, 10, 11, 12, 13, 14, 15, 16, 17, 18, 19, 20, 34, 35, 36, 37] rfl rfl 0 rfl rfl rfl hl.1 rfl (Nat.le_of_ble_eq_true rfl) dX9_passTick_60 ⟨Nat.zero_le _, Nat.zero_le _⟩) rfl G [0, 1, 2, 3, 4, 5, 6, 7, 8, 9, 10, 11, 12, 13, 14, 15, 16, 17, 18, 19, 20, 34, 35, 36, 37] [21, 22, 23, 24, 25, 26, 27, 28, 29, 30, 31, 32, 33] 38 rfl rfl rfl rfl rfl (by decide) (by decide) rfl (fun H locs G => ?_)
    refine lv_iload_n hx hb dX9_passTick_63 rfl (lv_at hl 0 rfl) ?_
    obtain ⟨r7, hcr7, hf⟩ := bd_some hf
    refine p_R (st1 := [.int r7]) (run_S (rest := []) X (ctJ6_bitCount_0f7a4 hZ hcr7) mk_J6_bitCount_0f7a4 ml_X9_255 ⟨(Nat.le_of_ble_eq_true rfl), (Nat.le_of_ble_eq_true rfl)⟩ G [] rfl rfl rfl hl.1 rfl (Nat.le_of_ble_eq_true rfl) dX9_passTick_64 ⟨Nat.zero_le _, Nat.zero_le _⟩) rfl ?_
    cases hf
    exact e_mi X G dX9_passTick_67
theorem mk_X9_passTick : MV yX9_passTick cX9_passTick 2 (some .int) 0 := ⟨co_X9_passTick, in_X9, im_X9_passTick, se_X9_passTick, by decide +kernel, by decide +kernel⟩
noncomputable def FX9_seen (WD : WdT) (PL : PlT) (SC : ScT) (TR : TrT) (SC_2 : ScT) (VW : VwT) (VW_2 : VwT) (v1 : Int32) (v2 : Int32) : Option (Int32 × TrT × ScT × VwT × VwT) :=
  (FX9_lookNow WD PL SC VW_2).bind fun r1 =>
  if v2 = (6 : Int32) then (
    (FX9_has (Vw_heldUp r1) v1).bind fun r3 =>
    if (bI r3) = 0 then (
      some ((0 : Int32), TR, SC_2, VW, r1)
    ) else (
      some ((1 : Int32), TR, SC_2, VW, r1)
    )
  ) else (
  if v2 = (7 : Int32) then (
    (FX9_has (Vw_hard r1) v1).bind fun r6 =>
    if (bI r6) = 0 then (
      some ((0 : Int32), TR, SC_2, VW, r1)
    ) else (
      some ((1 : Int32), TR, SC_2, VW, r1)
    )
  ) else (
  if v2 = (8 : Int32) then (
    (FX9_has (Vw_soft r1) v1).bind fun r9 =>
    if (bI r9) = 0 then (
      some ((0 : Int32), TR, SC_2, VW, r1)
    ) else (
      some ((1 : Int32), TR, SC_2, VW, r1)
    )
  ) else (
  if v2 = (9 : Int32) then (
    (FX9_has (Vw_slow r1) v1).bind fun r12 =>
    if (bI r12) = 0 then (
      some ((0 : Int32), TR, SC_2, VW, r1)
    ) else (
      some ((1 : Int32), TR, SC_2, VW, r1)
    )
  ) else (
  if v2 = (10 : Int32) then (
    (FX6_weigh TR SC_2 VW PL SC r1).bind fun r15 =>
    (FX6_blocker r15.1 SC r1 v1).bind fun r16 =>
    some (r16, r15.1, r15.2.1, r15.2.2, r1)
  ) else (
  if v2 = (11 : Int32) then (
    (FX7_neighbour r1 v1).bind fun r18 =>
    some (r18, TR, SC_2, VW, r1)
  ) else (
    some ((-1 : Int32), TR, SC_2, VW, r1)
  ))))))
set_option maxHeartbeats 4000000 in
set_option maxRecDepth 100000 in
theorem ctX9_seen {l : Launch} {D : va_G} {k : Nat → ClassId} {Z : ZT} (hZ : ZOK Z) (ot : Nat) (aHW : Nat → Nat) (aWD : Nat → Nat) (aPL : Nat → Nat) (aSC : Nat → Nat) (aTR : Nat → Nat) (aSC_2 : Nat → Nat) (aVW : Nat → Nat) (aVW_2 : Nat → Nat) {WD : WdT} {PL : PlT} {SC : ScT} {TR : TrT} {SC_2 : ScT} {VW : VwT} {VW_2 : VwT} {v1 : Int32} {v2 : Int32} {q : Int32 × TrT × ScT × VwT × VwT} (hf : FX9_seen WD PL SC TR SC_2 VW VW_2 v1 v2 = some q) :
    CM l D k Z yX9_seen cX9_seen 3 (some .int) 5 116 [.ref ot, .int v1, .int v2] (some (.int q.1)) (kHw k ot aHW () ++ (kWd k (aHW 0) aWD (WD) ++ (kPl k (aWD 0) aPL (PL) ++ (kSc k (aWD 1) aSC (SC) ++ (kTr k (aHW 5) aTR (TR) ++ (kSc k (aTR 0) aSC_2 (SC_2) ++ (kVw k (aTR 1) aVW (VW) ++ (kVw k (aHW 4) aVW_2 (VW_2))))))))) (kHw k ot aHW () ++ (kWd k (aHW 0) aWD (WD) ++ (kPl k (aWD 0) aPL (PL) ++ (kSc k (aWD 1) aSC (SC) ++ (kTr k (aHW 5) aTR (q.2.1) ++ (kSc k (aTR 0) aSC_2 (q.2.2.1) ++ (kVw k (aTR 1) aVW (q.2.2.2.1) ++ (kVw k (aHW 4) aVW_2 (q.2.2.2.2))))))))) := by
  refine CM.start hZ (by decide) (Nat.le_of_ble_eq_true rfl) ?_
  intro p e s m below meth c ls X hl G
  have hx := X.1
  have hb := X.2.1
  have hl : lv_has ls 3 [(0, .ref ot), (1, .int v1), (2, .int v2)] := hl
  unfold FX9_seen at hf
  refine lv_aload_n hx hb dX9_seen_0 rfl (lv_at hl 0 rfl) ?_
  obtain ⟨r1, hcr1, hf⟩ := bd_some hf
  refine p_N (st1 := []) (wr := kTr k (aHW 5) aTR (TR) ++ (kSc k (aTR 0) aSC_2 (SC_2) ++ (kVw k (aTR 1) aVW (VW)))) (ws' := kHw k ot aHW () ++ (kWd k (aHW 0) aWD (WD) ++ (kPl k (aWD 0) aPL (PL) ++ (kSc k (aWD 1) aSC (SC) ++ (kTr k (aHW 5) aTR (TR) ++ (kSc k (aTR 0) aSC_2 (SC_2) ++ (kVw k (aTR 1) aVW (VW) ++ (kVw k (aHW 4) aVW_2 (r1))))))))) (run_V (rest := []) X (ctX9_lookNow hZ ot aHW aWD aPL aSC aVW_2 hcr1) mk_X9_lookNow ml_X9_128 ⟨(Nat.le_of_ble_eq_true rfl), (Nat.le_of_ble_eq_true rfl)⟩ G [0, 1, 2, 3, 4, 5, 6, 7, 8, 9, 10, 11, 12, 13, 14, 15, 16, 32, 33, 34, 35] rfl rfl 0 rfl rfl rfl hl.1 rfl (Nat.le_of_ble_eq_true rfl) dX9_seen_1 ⟨Nat.zero_le _, Nat.zero_le _⟩) rfl G [0, 1, 2, 3, 4, 5, 6, 7, 8, 9, 10, 11, 12, 13, 14, 15, 16, 32, 33, 34, 35] [17, 18, 19, 20, 21, 22, 23, 24, 25, 26, 27, 28, 29, 30, 31] 36 rfl rfl rfl rfl rfl (by decide) (by decide) rfl (fun H locs G => ?_)
  refine lv_iload_n hx hb dX9_seen_4 rfl (lv_at hl 2 rfl) ?_
  by_cases c2 : v2 = (6 : Int32)
  · replace hf := if_t hf c2
    refine r_tsw X (tgt := 44) dX9_seen_5 (by rw [c2]; decide +kernel) (by rw [c2]; decide +kernel) ?_
    refine lv_aload_n hx hb dX9_seen_44 rfl (lv_at hl 0 rfl) ?_
    refine r_get X inw_X9 G 0 rfl rfl 4 (by decide) fl_X9_37 (v := .ref (aHW 4)) rfl dX9_seen_45 ?_
    refine r_get X inw_X7 G 32 rfl rfl 2 (by decide) fl_X9_131 (v := .int (Vw_heldUp r1)) rfl dX9_seen_48 ?_
    refine lv_iload_n hx hb dX9_seen_51 rfl (lv_at hl 1 rfl) ?_
    obtain ⟨r3, hcr3, hf⟩ := bd_some hf
    refine p_R (st1 := [.int (bI r3)]) (run_S (rest := []) X (ctX9_has hZ hcr3) mk_X9_has ml_X9_134 ⟨(Nat.le_of_ble_eq_true rfl), (Nat.le_of_ble_eq_true rfl)⟩ G [] rfl rfl rfl hl.1 rfl (Nat.le_of_ble_eq_true rfl) dX9_seen_52 ⟨Nat.zero_le _, Nat.zero_le _⟩) rfl ?_
    refine lv_if_eq (tgt := 62) hx hb dX9_seen_55 (by decide) (fun c4 => ?_) (fun c4 => ?_)
    · replace hf := if_t hf c4
      refine lv_iconst (v := 0) hx hb dX9_seen_62 (by decide) ?_
      cases hf
      exact e_mi X G dX9_seen_63
    · replace hf := if_f hf c4
      refine lv_iconst (v := 1) hx hb dX9_seen_58 (by decide) ?_
      refine lv_goto (tgt := 63) hx hb dX9_seen_59 (by decide) ?_
      cases hf
      exact e_mi X G dX9_seen_63
  replace hf := if_f hf c2
  by_cases c5 : v2 = (7 : Int32)
  · replace hf := if_t hf c5
    refine r_tsw X (tgt := 64) dX9_seen_5 (by rw [c5]; decide +kernel) (by rw [c5]; decide +kernel) ?_
    refine lv_aload_n hx hb dX9_seen_64 rfl (lv_at hl 0 rfl) ?_
    refine r_get X inw_X9 G 0 rfl rfl 4 (by decide) fl_X9_37 (v := .ref (aHW 4)) rfl dX9_seen_65 ?_
    refine r_get X inw_X7 G 32 rfl rfl 4 (by decide) fl_X9_266 (v := .int (Vw_hard r1)) rfl dX9_seen_68 ?_
    refine lv_iload_n hx hb dX9_seen_71 rfl (lv_at hl 1 rfl) ?_
    obtain ⟨r6, hcr6, hf⟩ := bd_some hf
    refine p_R (st1 := [.int (bI r6)]) (run_S (rest := []) X (ctX9_has hZ hcr6) mk_X9_has ml_X9_134 ⟨(Nat.le_of_ble_eq_true rfl), (Nat.le_of_ble_eq_true rfl)⟩ G [] rfl rfl rfl hl.1 rfl (Nat.le_of_ble_eq_true rfl) dX9_seen_72 ⟨Nat.zero_le _, Nat.zero_le _⟩) rfl ?_
    refine lv_if_eq (tgt := 82) hx hb dX9_seen_75 (by decide) (fun c7 => ?_) (fun c7 => ?_)
    · replace hf := if_t hf c7
      refine lv_iconst (v := 0) hx hb dX9_seen_82 (by decide) ?_
      cases hf
      exact e_mi X G dX9_seen_83
    · replace hf := if_f hf c7
      refine lv_iconst (v := 1) hx hb dX9_seen_78 (by decide) ?_
      refine lv_goto (tgt := 83) hx hb dX9_seen_79 (by decide) ?_
      cases hf
      exact e_mi X G dX9_seen_83
  replace hf := if_f hf c5
  by_cases c8 : v2 = (8 : Int32)
  · replace hf := if_t hf c8
    refine r_tsw X (tgt := 84) dX9_seen_5 (by rw [c8]; decide +kernel) (by rw [c8]; decide +kernel) ?_
    refine lv_aload_n hx hb dX9_seen_84 rfl (lv_at hl 0 rfl) ?_
    refine r_get X inw_X9 G 0 rfl rfl 4 (by decide) fl_X9_37 (v := .ref (aHW 4)) rfl dX9_seen_85 ?_
    refine r_get X inw_X7 G 32 rfl rfl 5 (by decide) fl_X9_269 (v := .int (Vw_soft r1)) rfl dX9_seen_88 ?_
    refine lv_iload_n hx hb dX9_seen_91 rfl (lv_at hl 1 rfl) ?_
    obtain ⟨r9, hcr9, hf⟩ := bd_some hf
    refine p_R (st1 := [.int (bI r9)]) (run_S (rest := []) X (ctX9_has hZ hcr9) mk_X9_has ml_X9_134 ⟨(Nat.le_of_ble_eq_true rfl), (Nat.le_of_ble_eq_true rfl)⟩ G [] rfl rfl rfl hl.1 rfl (Nat.le_of_ble_eq_true rfl) dX9_seen_92 ⟨Nat.zero_le _, Nat.zero_le _⟩) rfl ?_
    refine lv_if_eq (tgt := 102) hx hb dX9_seen_95 (by decide) (fun c10 => ?_) (fun c10 => ?_)
    · replace hf := if_t hf c10
      refine lv_iconst (v := 0) hx hb dX9_seen_102 (by decide) ?_
      cases hf
      exact e_mi X G dX9_seen_103
    · replace hf := if_f hf c10
      refine lv_iconst (v := 1) hx hb dX9_seen_98 (by decide) ?_
      refine lv_goto (tgt := 103) hx hb dX9_seen_99 (by decide) ?_
      cases hf
      exact e_mi X G dX9_seen_103
  replace hf := if_f hf c8
  by_cases c11 : v2 = (9 : Int32)
  · replace hf := if_t hf c11
    refine r_tsw X (tgt := 104) dX9_seen_5 (by rw [c11]; decide +kernel) (by rw [c11]; decide +kernel) ?_
    refine lv_aload_n hx hb dX9_seen_104 rfl (lv_at hl 0 rfl) ?_
    refine r_get X inw_X9 G 0 rfl rfl 4 (by decide) fl_X9_37 (v := .ref (aHW 4)) rfl dX9_seen_105 ?_
    refine r_get X inw_X7 G 32 rfl rfl 6 (by decide) fl_X9_272 (v := .int (Vw_slow r1)) rfl dX9_seen_108 ?_
    refine lv_iload_n hx hb dX9_seen_111 rfl (lv_at hl 1 rfl) ?_
    obtain ⟨r12, hcr12, hf⟩ := bd_some hf
    refine p_R (st1 := [.int (bI r12)]) (run_S (rest := []) X (ctX9_has hZ hcr12) mk_X9_has ml_X9_134 ⟨(Nat.le_of_ble_eq_true rfl), (Nat.le_of_ble_eq_true rfl)⟩ G [] rfl rfl rfl hl.1 rfl (Nat.le_of_ble_eq_true rfl) dX9_seen_112 ⟨Nat.zero_le _, Nat.zero_le _⟩) rfl ?_
    refine lv_if_eq (tgt := 122) hx hb dX9_seen_115 (by decide) (fun c13 => ?_) (fun c13 => ?_)
    · replace hf := if_t hf c13
      refine lv_iconst (v := 0) hx hb dX9_seen_122 (by decide) ?_
      cases hf
      exact e_mi X G dX9_seen_123
    · replace hf := if_f hf c13
      refine lv_iconst (v := 1) hx hb dX9_seen_118 (by decide) ?_
      refine lv_goto (tgt := 123) hx hb dX9_seen_119 (by decide) ?_
      cases hf
      exact e_mi X G dX9_seen_123
  replace hf := if_f hf c11
  by_cases c14 : v2 = (10 : Int32)
  · replace hf := if_t hf c14
    refine r_tsw X (tgt := 124) dX9_seen_5 (by rw [c14]; decide +kernel) (by rw [c14]; decide +kernel) ?_
    refine lv_aload_n hx hb dX9_seen_124 rfl (lv_at hl 0 rfl) ?_
    refine r_get X inw_X9 G 0 rfl rfl 5 (by decide) fl_X9_44 (v := .ref (aHW 5)) rfl dX9_seen_125 ?_
    refine lv_aload_n hx hb dX9_seen_128 rfl (lv_at hl 0 rfl) ?_
    refine r_get X inw_X9 G 0 rfl rfl 0 (by decide) fl_X9_10 (v := .ref (aHW 0)) rfl dX9_seen_129 ?_
    refine r_get X inw_X8 G 1 rfl rfl 0 (by decide) fl_X9_81 (v := .ref (aWD 0)) rfl dX9_seen_132 ?_
    refine lv_aload_n hx hb dX9_seen_135 rfl (lv_at hl 0 rfl) ?_
    refine r_get X inw_X9 G 0 rfl rfl 0 (by decide) fl_X9_10 (v := .ref (aHW 0)) rfl dX9_seen_136 ?_
    refine r_get X inw_X8 G 1 rfl rfl 1 (by decide) fl_X9_97 (v := .ref (aWD 1)) rfl dX9_seen_139 ?_
    refine lv_aload_n hx hb dX9_seen_142 rfl (lv_at hl 0 rfl) ?_
    refine r_get X inw_X9 G 0 rfl rfl 4 (by decide) fl_X9_37 (v := .ref (aHW 4)) rfl dX9_seen_143 ?_
    obtain ⟨r15, hcr15, hf⟩ := bd_some hf
    refine p_N (st1 := []) (wr := kHw k ot aHW () ++ (kWd k (aHW 0) aWD (WD))) (ws' := kHw k ot aHW () ++ (kWd k (aHW 0) aWD (WD) ++ (kPl k (aWD 0) aPL (PL) ++ (kSc k (aWD 1) aSC (SC) ++ (kTr k (aHW 5) aTR (r15.1) ++ (kSc k (aTR 0) aSC_2 (r15.2.1) ++ (kVw k (aTR 1) aVW (r15.2.2) ++ (kVw k (aHW 4) aVW_2 (r1))))))))) (run_V (rest := []) X (ctX6_weigh hZ (aHW 5) (aWD 0) (aWD 1) (aHW 4) aTR aSC_2 aVW aPL aSC aVW_2 hcr15) mk_X6_weigh ml_X9_234 ⟨(Nat.le_of_ble_eq_true rfl), (Nat.le_of_ble_eq_true rfl)⟩ G [17, 18, 19, 20, 21, 22, 23, 24, 25, 26, 27, 28, 29, 30, 31, 2, 3, 4, 5, 6, 7, 8, 9, 10, 11, 12, 13, 14, 15, 16, 32, 33, 34, 35] rfl rfl 17 rfl rfl rfl hl.1 rfl (Nat.le_of_ble_eq_true rfl) dX9_seen_146 ⟨Nat.zero_le _, Nat.zero_le _⟩) rfl G [17, 18, 19, 20, 21, 22, 23, 24, 25, 26, 27, 28, 29, 30, 31, 2, 3, 4, 5, 6, 7, 8, 9, 10, 11, 12, 13, 14, 15, 16, 32, 33, 34, 35] [0, 1] 36 rfl rfl rfl rfl rfl (by decide) (by decide) rfl (fun H locs G => ?_)
    refine lv_aload_n hx hb dX9_seen_149 rfl (lv_at hl 0 rfl) ?_
    refine r_get X inw_X9 G 0 rfl rfl 5 (by decide) fl_X9_44 (v := .ref (aHW 5)) rfl dX9_seen_150 ?_
    refine lv_aload_n hx hb dX9_seen_153 rfl (lv_at hl 0 rfl) ?_
    refine r_get X inw_X9 G 0 rfl rfl 0 (by decide) fl_X9_10 (v := .ref (aHW 0)) rfl dX9_seen_154 ?_
    refine r_get X inw_X8 G 1 rfl rfl 1 (by decide) fl_X9_97 (v := .ref (aWD 1)) rfl dX9_seen_157 ?_
    refine lv_aload_n hx hb dX9_seen_160 rfl (lv_at hl 0 rfl) ?_
    refine r_get X inw_X9 G 0 rfl rfl 4 (by decide) fl_X9_37 (v := .ref (aHW 4)) rfl dX9_seen_161 ?_
    refine lv_iload_n hx hb dX9_seen_164 rfl (lv_at hl 1 rfl) ?_
    obtain ⟨r16, hcr16, hf⟩ := bd_some hf
    refine p_R (st1 := [.int r16]) (run_V (rest := []) X (ctX6_blocker hZ (aHW 5) (aWD 1) (aHW 4) aTR aSC aVW_2 hcr16) mk_X6_blocker ml_X9_275 ⟨(Nat.le_of_ble_eq_true rfl), (Nat.le_of_ble_eq_true rfl)⟩ G [17, 18, 8, 9, 10, 11, 12, 13, 14, 15, 16, 32, 33, 34, 35] rfl rfl 17 rfl rfl rfl hl.1 rfl (Nat.le_of_ble_eq_true rfl) dX9_seen_165 ⟨Nat.zero_le _, Nat.zero_le _⟩) rfl ?_
    cases hf
    exact e_mi X G dX9_seen_168
  replace hf := if_f hf c14
  by_cases c17 : v2 = (11 : Int32)
  · replace hf := if_t hf c17
    refine r_tsw X (tgt := 169) dX9_seen_5 (by rw [c17]; decide +kernel) (by rw [c17]; decide +kernel) ?_
    refine lv_aload_n hx hb dX9_seen_169 rfl (lv_at hl 0 rfl) ?_
    refine r_get X inw_X9 G 0 rfl rfl 4 (by decide) fl_X9_37 (v := .ref (aHW 4)) rfl dX9_seen_170 ?_
    refine lv_iload_n hx hb dX9_seen_173 rfl (lv_at hl 1 rfl) ?_
    obtain ⟨r18, hcr18, hf⟩ := bd_some hf
    refine p_R (st1 := [.int r18]) (run_V (rest := []) X (ctX7_neighbour hZ (aHW 4) aVW_2 hcr18) mk_X7_neighbour ml_X9_279 ⟨(Nat.le_of_ble_eq_true rfl), (Nat.le_of_ble_eq_true rfl)⟩ G [32, 33, 34, 35] rfl rfl 32 rfl rfl rfl hl.1 rfl (Nat.le_of_ble_eq_true rfl) dX9_seen_174 ⟨Nat.zero_le _, Nat.zero_le _⟩) rfl ?_
    cases hf
    exact e_mi X G dX9_seen_177
  replace hf := if_f hf c17
  have hd := tsw_d (x := v2) (lo' := 6) (hi' := 11) (dflt := 173) (offs := #[39, 59, 79, 99, 119, 164]) [(6 : Int32), (7 : Int32), (8 : Int32), (9 : Int32), (10 : Int32), (11 : Int32)] (by
      intro k hk
      simp only [List.mem_cons, List.not_mem_nil, or_false] at hk
      rcases hk with rfl | rfl | rfl | rfl | rfl | rfl
      · exact c2
      · exact c5
      · exact c8
      · exact c11
      · exact c14
      · exact c17
      ) 5 (by decide) (by decide +kernel)
  refine r_tsw X (tgt := 178) dX9_seen_5 (by rw [hd.1]; rfl) hd.2 ?_
  refine lv_iconst (v := -1) hx hb dX9_seen_178 (by decide) ?_
  cases hf
  exact e_mi X G dX9_seen_179
theorem mk_X9_seen : MV yX9_seen cX9_seen 3 (some .int) 2 := ⟨co_X9_seen, in_X9, im_X9_seen, se_X9_seen, by decide +kernel, by decide +kernel⟩
noncomputable def FX9_count (HI : HiT) (WD : WdT) (PL : PlT) (SC : ScT) (SK : SkT) (TP : TpT) (VW : VwT) (v1 : Int32) : Option (Int32 × VwT) :=
  if v1 = (0 : Int32) then (
    some (Pl_workers PL, VW)
  ) else (
  if v1 = (2 : Int32) then (
    some (Sc_tick SC, VW)
  ) else (
  if v1 = (3 : Int32) then (
    some (Sc_window SC, VW)
  ) else (
  if v1 = (4 : Int32) then (
    some (Sc_grace SC, VW)
  ) else (
  if v1 = (10 : Int32) then (
    some (Sk_kept SK, VW)
  ) else (
  if v1 = (11 : Int32) then (
    some (Sk_total SK, VW)
  ) else (
  if v1 = (12 : Int32) then (
    some (Hi_many HI, VW)
  ) else (
  if v1 = (13 : Int32) then (
    some (Tp_length TP, VW)
  ) else (
    (FX9_lookNow WD PL SC VW).bind fun r9 =>
    (FX7_tally r9 v1).bind fun r10 =>
    some (r10, r9)
  ))))))))
set_option maxHeartbeats 4000000 in
set_option maxRecDepth 100000 in
theorem ctX9_count {l : Launch} {D : va_G} {k : Nat → ClassId} {Z : ZT} (hZ : ZOK Z) (ot : Nat) (aHW : Nat → Nat) (aHI : Nat → Nat) (aWD : Nat → Nat) (aPL : Nat → Nat) (aSC : Nat → Nat) (aSK : Nat → Nat) (aTP : Nat → Nat) (aVW : Nat → Nat) {HI : HiT} {WD : WdT} {PL : PlT} {SC : ScT} {SK : SkT} {TP : TpT} {VW : VwT} {v1 : Int32} {q : Int32 × VwT} (hf : FX9_count HI WD PL SC SK TP VW v1 = some q) :
    CM l D k Z yX9_count cX9_count 2 (some .int) 5 112 [.ref ot, .int v1] (some (.int q.1)) (kHw k ot aHW () ++ (kHi k (aHW 2) aHI (HI) ++ (kWd k (aHW 0) aWD (WD) ++ (kPl k (aWD 0) aPL (PL) ++ (kSc k (aWD 1) aSC (SC) ++ (kSk k (aWD 2) aSK (SK) ++ (kTp k (aWD 3) aTP (TP) ++ (kVw k (aHW 4) aVW (VW))))))))) (kHw k ot aHW () ++ (kHi k (aHW 2) aHI (HI) ++ (kWd k (aHW 0) aWD (WD) ++ (kPl k (aWD 0) aPL (PL) ++ (kSc k (aWD 1) aSC (SC) ++ (kSk k (aWD 2) aSK (SK) ++ (kTp k (aWD 3) aTP (TP) ++ (kVw k (aHW 4) aVW (q.2))))))))) := by
  refine CM.start hZ (by decide) (Nat.le_of_ble_eq_true rfl) ?_
  intro p e s m below meth c ls X hl G
  have hx := X.1
  have hb := X.2.1
  have hl : lv_has ls 2 [(0, .ref ot), (1, .int v1)] := hl
  unfold FX9_count at hf
  refine lv_iload_n hx hb dX9_count_0 rfl (lv_at hl 1 rfl) ?_
  by_cases c1 : v1 = (0 : Int32)
  · replace hf := if_t hf c1
    refine r_tsw X (tgt := 72) dX9_count_1 (by rw [c1]; decide +kernel) (by rw [c1]; decide +kernel) ?_
    refine lv_aload_n hx hb dX9_count_72 rfl (lv_at hl 0 rfl) ?_
    refine r_get X inw_X9 G 0 rfl rfl 0 (by decide) fl_X9_10 (v := .ref (aHW 0)) rfl dX9_count_73 ?_
    refine r_get X inw_X8 G 4 rfl rfl 0 (by decide) fl_X9_81 (v := .ref (aWD 0)) rfl dX9_count_76 ?_
    refine r_get X inw_X1 G 5 rfl rfl 0 (by decide) fl_X9_113 (v := .int (Pl_workers PL)) rfl dX9_count_79 ?_
    cases hf
    exact e_mi X G dX9_count_82
  replace hf := if_f hf c1
  by_cases c2 : v1 = (2 : Int32)
  · replace hf := if_t hf c2
    refine r_tsw X (tgt := 83) dX9_count_1 (by rw [c2]; decide +kernel) (by rw [c2]; decide +kernel) ?_
    refine lv_aload_n hx hb dX9_count_83 rfl (lv_at hl 0 rfl) ?_
    refine r_get X inw_X9 G 0 rfl rfl 0 (by decide) fl_X9_10 (v := .ref (aHW 0)) rfl dX9_count_84 ?_
    refine r_get X inw_X8 G 4 rfl rfl 1 (by decide) fl_X9_97 (v := .ref (aWD 1)) rfl dX9_count_87 ?_
    refine r_get X inw_X3 G 11 rfl rfl 0 (by decide) fl_X9_154 (v := .int (Sc_tick SC)) rfl dX9_count_90 ?_
    cases hf
    exact e_mi X G dX9_count_93
  replace hf := if_f hf c2
  by_cases c3 : v1 = (3 : Int32)
  · replace hf := if_t hf c3
    refine r_tsw X (tgt := 94) dX9_count_1 (by rw [c3]; decide +kernel) (by rw [c3]; decide +kernel) ?_
    refine lv_aload_n hx hb dX9_count_94 rfl (lv_at hl 0 rfl) ?_
    refine r_get X inw_X9 G 0 rfl rfl 0 (by decide) fl_X9_10 (v := .ref (aHW 0)) rfl dX9_count_95 ?_
    refine r_get X inw_X8 G 4 rfl rfl 1 (by decide) fl_X9_97 (v := .ref (aWD 1)) rfl dX9_count_98 ?_
    refine r_get X inw_X3 G 11 rfl rfl 1 (by decide) fl_X9_145 (v := .int (Sc_window SC)) rfl dX9_count_101 ?_
    cases hf
    exact e_mi X G dX9_count_104
  replace hf := if_f hf c3
  by_cases c4 : v1 = (4 : Int32)
  · replace hf := if_t hf c4
    refine r_tsw X (tgt := 105) dX9_count_1 (by rw [c4]; decide +kernel) (by rw [c4]; decide +kernel) ?_
    refine lv_aload_n hx hb dX9_count_105 rfl (lv_at hl 0 rfl) ?_
    refine r_get X inw_X9 G 0 rfl rfl 0 (by decide) fl_X9_10 (v := .ref (aHW 0)) rfl dX9_count_106 ?_
    refine r_get X inw_X8 G 4 rfl rfl 1 (by decide) fl_X9_97 (v := .ref (aWD 1)) rfl dX9_count_109 ?_
    refine r_get X inw_X3 G 11 rfl rfl 2 (by decide) fl_X9_142 (v := .int (Sc_grace SC)) rfl dX9_count_112 ?_
    cases hf
    exact e_mi X G dX9_count_115
  replace hf := if_f hf c4
  by_cases c5 : v1 = (10 : Int32)
  · replace hf := if_t hf c5
    refine r_tsw X (tgt := 116) dX9_count_1 (by rw [c5]; decide +kernel) (by rw [c5]; decide +kernel) ?_
    refine lv_aload_n hx hb dX9_count_116 rfl (lv_at hl 0 rfl) ?_
    refine r_get X inw_X9 G 0 rfl rfl 0 (by decide) fl_X9_10 (v := .ref (aHW 0)) rfl dX9_count_117 ?_
    refine r_get X inw_X8 G 4 rfl rfl 2 (by decide) fl_X9_103 (v := .ref (aWD 2)) rfl dX9_count_120 ?_
    refine r_get X inw_X4 G 20 rfl rfl 2 (by decide) fl_X9_157 (v := .int (Sk_kept SK)) rfl dX9_count_123 ?_
    cases hf
    exact e_mi X G dX9_count_126
  replace hf := if_f hf c5
  by_cases c6 : v1 = (11 : Int32)
  · replace hf := if_t hf c6
    refine r_tsw X (tgt := 127) dX9_count_1 (by rw [c6]; decide +kernel) (by rw [c6]; decide +kernel) ?_
    refine lv_aload_n hx hb dX9_count_127 rfl (lv_at hl 0 rfl) ?_
    refine r_get X inw_X9 G 0 rfl rfl 0 (by decide) fl_X9_10 (v := .ref (aHW 0)) rfl dX9_count_128 ?_
    refine r_get X inw_X8 G 4 rfl rfl 2 (by decide) fl_X9_103 (v := .ref (aWD 2)) rfl dX9_count_131 ?_
    refine r_get X inw_X4 G 20 rfl rfl 3 (by decide) fl_X9_160 (v := .int (Sk_total SK)) rfl dX9_count_134 ?_
    cases hf
    exact e_mi X G dX9_count_137
  replace hf := if_f hf c6
  by_cases c7 : v1 = (12 : Int32)
  · replace hf := if_t hf c7
    refine r_tsw X (tgt := 138) dX9_count_1 (by rw [c7]; decide +kernel) (by rw [c7]; decide +kernel) ?_
    refine lv_aload_n hx hb dX9_count_138 rfl (lv_at hl 0 rfl) ?_
    refine r_get X inw_X9 G 0 rfl rfl 2 (by decide) fl_X9_23 (v := .ref (aHW 2)) rfl dX9_count_139 ?_
    refine r_get X inw_X0 G 1 rfl rfl 3 (by decide) fl_X9_148 (v := .int (Hi_many HI)) rfl dX9_count_142 ?_
    cases hf
    exact e_mi X G dX9_count_145
  replace hf := if_f hf c7
  by_cases c8 : v1 = (13 : Int32)
  · replace hf := if_t hf c8
    refine r_tsw X (tgt := 146) dX9_count_1 (by rw [c8]; decide +kernel) (by rw [c8]; decide +kernel) ?_
    refine lv_aload_n hx hb dX9_count_146 rfl (lv_at hl 0 rfl) ?_
    refine r_get X inw_X9 G 0 rfl rfl 0 (by decide) fl_X9_10 (v := .ref (aHW 0)) rfl dX9_count_147 ?_
    refine r_get X inw_X8 G 4 rfl rfl 3 (by decide) fl_X9_55 (v := .ref (aWD 3)) rfl dX9_count_150 ?_
    refine r_get X inw_X5 G 22 rfl rfl 1 (by decide) fl_X9_59 (v := .int (Tp_length TP)) rfl dX9_count_153 ?_
    cases hf
    exact e_mi X G dX9_count_156
  replace hf := if_f hf c8
  have hd := tsw_d (x := v1) (lo' := 0) (hi' := 13) (dflt := 156) (offs := #[71, 156, 82, 93, 104, 156, 156, 156, 156, 156, 115, 126, 137, 145]) [(0 : Int32), (2 : Int32), (3 : Int32), (4 : Int32), (10 : Int32), (11 : Int32), (12 : Int32), (13 : Int32)] (by
      intro k hk
      simp only [List.mem_cons, List.not_mem_nil, or_false] at hk
      rcases hk with rfl | rfl | rfl | rfl | rfl | rfl | rfl | rfl
      · exact c1
      · exact c2
      · exact c3
      · exact c4
      · exact c5
      · exact c6
      · exact c7
      · exact c8
      ) 13 (by decide) (by decide +kernel)
  refine r_tsw X (tgt := 157) dX9_count_1 (by rw [hd.1]; rfl) hd.2 ?_
  refine lv_aload_n hx hb dX9_count_157 rfl (lv_at hl 0 rfl) ?_
  obtain ⟨r9, hcr9, hf⟩ := bd_some hf
  refine p_N (st1 := []) (wr := kHi k (aHW 2) aHI (HI) ++ (kSk k (aWD 2) aSK (SK) ++ (kTp k (aWD 3) aTP (TP)))) (ws' := kHw k ot aHW () ++ (kHi k (aHW 2) aHI (HI) ++ (kWd k (aHW 0) aWD (WD) ++ (kPl k (aWD 0) aPL (PL) ++ (kSc k (aWD 1) aSC (SC) ++ (kSk k (aWD 2) aSK (SK) ++ (kTp k (aWD 3) aTP (TP) ++ (kVw k (aHW 4) aVW (r9))))))))) (run_V (rest := []) X (ctX9_lookNow hZ ot aHW aWD aPL aSC aVW hcr9) mk_X9_lookNow ml_X9_128 ⟨(Nat.le_of_ble_eq_true rfl), (Nat.le_of_ble_eq_true rfl)⟩ G [0, 4, 5, 6, 7, 8, 9, 10, 11, 12, 13, 14, 15, 16, 17, 18, 19, 24, 25, 26, 27] rfl rfl 0 rfl rfl rfl hl.1 rfl (Nat.le_of_ble_eq_true rfl) dX9_count_158 ⟨Nat.zero_le _, Nat.zero_le _⟩) rfl G [0, 4, 5, 6, 7, 8, 9, 10, 11, 12, 13, 14, 15, 16, 17, 18, 19, 24, 25, 26, 27] [1, 2, 3, 20, 21, 22, 23] 28 rfl rfl rfl rfl rfl (by decide) (by decide) rfl (fun H locs G => ?_)
  refine lv_aload_n hx hb dX9_count_161 rfl (lv_at hl 0 rfl) ?_
  refine r_get X inw_X9 G 0 rfl rfl 4 (by decide) fl_X9_37 (v := .ref (aHW 4)) rfl dX9_count_162 ?_
  refine lv_iload_n hx hb dX9_count_165 rfl (lv_at hl 1 rfl) ?_
  obtain ⟨r10, hcr10, hf⟩ := bd_some hf
  refine p_R (st1 := [.int r10]) (run_V (rest := []) X (ctX7_tally hZ (aHW 4) aVW hcr10) mk_X7_tally ml_X9_163 ⟨(Nat.le_of_ble_eq_true rfl), (Nat.le_of_ble_eq_true rfl)⟩ G [24, 25, 26, 27] rfl rfl 24 rfl rfl rfl hl.1 rfl (Nat.le_of_ble_eq_true rfl) dX9_count_166 ⟨Nat.zero_le _, Nat.zero_le _⟩) rfl ?_
  cases hf
  exact e_mi X G dX9_count_169
theorem mk_X9_count : MV yX9_count cX9_count 2 (some .int) 1 := ⟨co_X9_count, in_X9, im_X9_count, se_X9_count, by decide +kernel, by decide +kernel⟩
noncomputable def FX9_worker (WD : WdT) (PL : PlT) (SC : ScT) (TR : TrT) (SC_2 : ScT) (VW : VwT) (VW_2 : VwT) (v1 : Int32) (v2 : Int32) : Option (Int32 × TrT × ScT × VwT × VwT) :=
  (FX9_isWorker WD PL v1).bind fun r1 =>
  if (bI r1) = 0 then (
    some ((-1 : Int32), TR, SC_2, VW, VW_2)
  ) else (
    ix v1 8 <|
    nm (Sc_place SC (Int32.toNatClampNeg v1)) fun x4 =>
    if v2 = (0 : Int32) then (
      some (x4, TR, SC_2, VW, VW_2)
    ) else (
    if v2 = (1 : Int32) then (
      (FX1_kindAt PL v1 x4).bind fun r7 =>
      some (r7, TR, SC_2, VW, VW_2)
    ) else (
    if v2 = (2 : Int32) then (
      (FX1_numberAt PL v1 x4).bind fun r9 =>
      some (r9, TR, SC_2, VW, VW_2)
    ) else (
    if v2 = (3 : Int32) then (
      if x4 = (-1 : Int32) then (
        some ((-1 : Int32), TR, SC_2, VW, VW_2)
      ) else (
        ix v1 8 <|
        some (Sc_ticked SC (Int32.toNatClampNeg v1), TR, SC_2, VW, VW_2)
      )
    ) else (
    if v2 = (4 : Int32) then (
      (FX3_quiet SC v1).bind fun r14 =>
      some (r14, TR, SC_2, VW, VW_2)
    ) else (
    if v2 = (5 : Int32) then (
      ix v1 8 <|
      some (Sc_steps SC (Int32.toNatClampNeg v1), TR, SC_2, VW, VW_2)
    ) else (
    if v2 = (12 : Int32) then (
      (FX3_locksOf SC v1).bind fun r18 =>
      some (r18, TR, SC_2, VW, VW_2)
    ) else (
    if v2 = (13 : Int32) then (
      ix v1 8 <|
      some (Pl_lengths PL (Int32.toNatClampNeg v1), TR, SC_2, VW, VW_2)
    ) else (
      (FX9_seen WD PL SC TR SC_2 VW VW_2 v1 v2).bind fun r21 =>
      some (r21.1, r21.2.1, r21.2.2.1, r21.2.2.2.1, r21.2.2.2.2)
    ))))))))
  )
set_option maxHeartbeats 4000000 in
set_option maxRecDepth 100000 in
theorem ctX9_worker {l : Launch} {D : va_G} {k : Nat → ClassId} {Z : ZT} (hZ : ZOK Z) (ot : Nat) (aHW : Nat → Nat) (aWD : Nat → Nat) (aPL : Nat → Nat) (aSC : Nat → Nat) (aTR : Nat → Nat) (aSC_2 : Nat → Nat) (aVW : Nat → Nat) (aVW_2 : Nat → Nat) {WD : WdT} {PL : PlT} {SC : ScT} {TR : TrT} {SC_2 : ScT} {VW : VwT} {VW_2 : VwT} {v1 : Int32} {v2 : Int32} {q : Int32 × TrT × ScT × VwT × VwT} (hf : FX9_worker WD PL SC TR SC_2 VW VW_2 v1 v2 = some q) :
    CM l D k Z yX9_worker cX9_worker 6 (some .int) 6 138 [.ref ot, .int v1, .int v2] (some (.int q.1)) (kHw k ot aHW () ++ (kWd k (aHW 0) aWD (WD) ++ (kPl k (aWD 0) aPL (PL) ++ (kSc k (aWD 1) aSC (SC) ++ (kTr k (aHW 5) aTR (TR) ++ (kSc k (aTR 0) aSC_2 (SC_2) ++ (kVw k (aTR 1) aVW (VW) ++ (kVw k (aHW 4) aVW_2 (VW_2))))))))) (kHw k ot aHW () ++ (kWd k (aHW 0) aWD (WD) ++ (kPl k (aWD 0) aPL (PL) ++ (kSc k (aWD 1) aSC (SC) ++ (kTr k (aHW 5) aTR (q.2.1) ++ (kSc k (aTR 0) aSC_2 (q.2.2.1) ++ (kVw k (aTR 1) aVW (q.2.2.2.1) ++ (kVw k (aHW 4) aVW_2 (q.2.2.2.2))))))))) := by
  refine CM.start hZ (by decide) (Nat.le_of_ble_eq_true rfl) ?_
  intro p e s m below meth c ls X hl G
  have hx := X.1
  have hb := X.2.1
  have hl : lv_has ls 6 [(0, .ref ot), (1, .int v1), (2, .int v2)] := hl
  unfold FX9_worker at hf
  refine lv_aload_n hx hb dX9_worker_0 rfl (lv_at hl 0 rfl) ?_
  refine lv_iload_n hx hb dX9_worker_1 rfl (lv_at hl 1 rfl) ?_
  obtain ⟨r1, hcr1, hf⟩ := bd_some hf
  refine p_R (st1 := [.int (bI r1)]) (run_V (rest := []) X (ctX9_isWorker hZ ot aHW aWD aPL hcr1) mk_X9_isWorker ml_X9_167 ⟨(Nat.le_of_ble_eq_true rfl), (Nat.le_of_ble_eq_true rfl)⟩ G [0, 1, 2, 3, 4, 5, 6, 7] rfl rfl 0 rfl rfl rfl hl.1 rfl (Nat.le_of_ble_eq_true rfl) dX9_worker_2 ⟨Nat.zero_le _, Nat.zero_le _⟩) rfl ?_
  refine lv_if_ne (tgt := 10) hx hb dX9_worker_5 (by decide) (fun c2 => ?_) (fun c2 => ?_)
  · replace hf := if_f hf c2
    refine lv_aload_n hx hb dX9_worker_10 rfl (lv_at hl 0 rfl) ?_
    refine r_get X inw_X9 G 0 rfl rfl 0 (by decide) fl_X9_10 (v := .ref (aHW 0)) rfl dX9_worker_11 ?_
    refine r_get X inw_X8 G 1 rfl rfl 0 (by decide) fl_X9_81 (v := .ref (aWD 0)) rfl dX9_worker_14 ?_
    refine lv_astore_n (lv' := [(3, .ref (aWD 0)), (0, .ref ot), (1, .int v1), (2, .int v2)]) hx hb dX9_worker_17 rfl hl (by decide) rfl (fun ls hl => ?_)
    refine lv_aload_n hx hb dX9_worker_18 rfl (lv_at hl 1 rfl) ?_
    refine r_get X inw_X9 G 0 rfl rfl 0 (by decide) fl_X9_10 (v := .ref (aHW 0)) rfl dX9_worker_19 ?_
    refine r_get X inw_X8 G 1 rfl rfl 1 (by decide) fl_X9_97 (v := .ref (aWD 1)) rfl dX9_worker_22 ?_
    refine lv_astore (lv' := [(4, .ref (aWD 1)), (3, .ref (aWD 0)), (0, .ref ot), (1, .int v1), (2, .int v2)]) hx hb dX9_worker_25 hl (by decide) rfl (fun ls hl => ?_)
    refine lv_aload hx hb dX9_worker_27 (lv_at hl 0 rfl) ?_
    refine r_get X inw_X3 G 8 rfl rfl 3 (by decide) fl_X9_171 (v := .ref (aSC 0)) rfl dX9_worker_29 ?_
    refine lv_iload_n hx hb dX9_worker_32 rfl (lv_at hl 3 rfl) ?_
    obtain ⟨h3, hf⟩ := ix_some hf
    refine r_iald X G 9 rfl h3 dX9_worker_33 ?_
    obtain ⟨x4, ex4, hf⟩ := nm_some hf
    refine r_top (congrArg Value.int ex4) ?_
    refine lv_istore (lv' := [(5, .int x4), (4, .ref (aWD 1)), (3, .ref (aWD 0)), (0, .ref ot), (1, .int v1), (2, .int v2)]) hx hb dX9_worker_34 hl (by decide) rfl (fun ls hl => ?_)
    refine lv_iload_n hx hb dX9_worker_36 rfl (lv_at hl 5 rfl) ?_
    by_cases c5 : v2 = (0 : Int32)
    · replace hf := if_t hf c5
      refine r_tsw X (tgt := 108) dX9_worker_37 (by rw [c5]; decide +kernel) (by rw [c5]; decide +kernel) ?_
      refine lv_iload hx hb dX9_worker_108 (lv_at hl 0 rfl) ?_
      cases hf
      exact e_mi X G dX9_worker_110
    replace hf := if_f hf c5
    by_cases c6 : v2 = (1 : Int32)
    · replace hf := if_t hf c6
      refine r_tsw X (tgt := 111) dX9_worker_37 (by rw [c6]; decide +kernel) (by rw [c6]; decide +kernel) ?_
      refine lv_aload_n hx hb dX9_worker_111 rfl (lv_at hl 2 rfl) ?_
      refine lv_iload_n hx hb dX9_worker_112 rfl (lv_at hl 4 rfl) ?_
      refine lv_iload hx hb dX9_worker_113 (lv_at hl 0 rfl) ?_
      obtain ⟨r7, hcr7, hf⟩ := bd_some hf
      refine p_R (st1 := [.int r7]) (run_V (rest := []) X (ctX1_kindAt hZ (aWD 0) aPL hcr7) mk_X1_kindAt ml_X9_175 ⟨(Nat.le_of_ble_eq_true rfl), (Nat.le_of_ble_eq_true rfl)⟩ G [2, 3, 4, 5, 6, 7] rfl rfl 2 rfl rfl rfl hl.1 rfl (Nat.le_of_ble_eq_true rfl) dX9_worker_115 ⟨Nat.zero_le _, Nat.zero_le _⟩) rfl ?_
      cases hf
      exact e_mi X G dX9_worker_118
    replace hf := if_f hf c6
    by_cases c8 : v2 = (2 : Int32)
    · replace hf := if_t hf c8
      refine r_tsw X (tgt := 119) dX9_worker_37 (by rw [c8]; decide +kernel) (by rw [c8]; decide +kernel) ?_
      refine lv_aload_n hx hb dX9_worker_119 rfl (lv_at hl 2 rfl) ?_
      refine lv_iload_n hx hb dX9_worker_120 rfl (lv_at hl 4 rfl) ?_
      refine lv_iload hx hb dX9_worker_121 (lv_at hl 0 rfl) ?_
      obtain ⟨r9, hcr9, hf⟩ := bd_some hf
      refine p_R (st1 := [.int r9]) (run_V (rest := []) X (ctX1_numberAt hZ (aWD 0) aPL hcr9) mk_X1_numberAt ml_X9_179 ⟨(Nat.le_of_ble_eq_true rfl), (Nat.le_of_ble_eq_true rfl)⟩ G [2, 3, 4, 5, 6, 7] rfl rfl 2 rfl rfl rfl hl.1 rfl (Nat.le_of_ble_eq_true rfl) dX9_worker_123 ⟨Nat.zero_le _, Nat.zero_le _⟩) rfl ?_
      cases hf
      exact e_mi X G dX9_worker_126
    replace hf := if_f hf c8
    by_cases c10 : v2 = (3 : Int32)
    · replace hf := if_t hf c10
      refine r_tsw X (tgt := 127) dX9_worker_37 (by rw [c10]; decide +kernel) (by rw [c10]; decide +kernel) ?_
      refine lv_iload hx hb dX9_worker_127 (lv_at hl 0 rfl) ?_
      refine lv_iconst (v := -1) hx hb dX9_worker_129 (by decide) ?_
      refine lv_icmp_ne (tgt := 137) hx hb dX9_worker_130 (by decide) (fun c11 => ?_) (fun c11 => ?_)
      · replace hf := if_f hf c11
        refine lv_aload hx hb dX9_worker_137 (lv_at hl 1 rfl) ?_
        refine r_get X inw_X3 G 8 rfl rfl 4 (by decide) fl_X9_182 (v := .ref (aSC 1)) rfl dX9_worker_139 ?_
        refine lv_iload_n hx hb dX9_worker_142 rfl (lv_at hl 4 rfl) ?_
        obtain ⟨h12, hf⟩ := ix_some hf
        refine r_iald X G 10 rfl h12 dX9_worker_143 ?_
        cases hf
        exact e_mi X G dX9_worker_144
      · replace hf := if_t hf c11
        refine lv_iconst (v := -1) hx hb dX9_worker_133 (by decide) ?_
        refine lv_goto (tgt := 144) hx hb dX9_worker_134 (by decide) ?_
        cases hf
        exact e_mi X G dX9_worker_144
    replace hf := if_f hf c10
    by_cases c13 : v2 = (4 : Int32)
    · replace hf := if_t hf c13
      refine r_tsw X (tgt := 145) dX9_worker_37 (by rw [c13]; decide +kernel) (by rw [c13]; decide +kernel) ?_
      refine lv_aload hx hb dX9_worker_145 (lv_at hl 1 rfl) ?_
      refine lv_iload_n hx hb dX9_worker_147 rfl (lv_at hl 4 rfl) ?_
      obtain ⟨r14, hcr14, hf⟩ := bd_some hf
      refine p_R (st1 := [.int r14]) (run_V (rest := []) X (ctX3_quiet hZ (aWD 1) aSC hcr14) mk_X3_quiet ml_X9_185 ⟨(Nat.le_of_ble_eq_true rfl), (Nat.le_of_ble_eq_true rfl)⟩ G [8, 9, 10, 11, 12, 13, 14, 15, 16] rfl rfl 8 rfl rfl rfl hl.1 rfl (Nat.le_of_ble_eq_true rfl) dX9_worker_148 ⟨Nat.zero_le _, Nat.zero_le _⟩) rfl ?_
      cases hf
      exact e_mi X G dX9_worker_151
    replace hf := if_f hf c13
    by_cases c15 : v2 = (5 : Int32)
    · replace hf := if_t hf c15
      refine r_tsw X (tgt := 152) dX9_worker_37 (by rw [c15]; decide +kernel) (by rw [c15]; decide +kernel) ?_
      refine lv_aload hx hb dX9_worker_152 (lv_at hl 1 rfl) ?_
      refine r_get X inw_X3 G 8 rfl rfl 6 (by decide) fl_X9_188 (v := .ref (aSC 3)) rfl dX9_worker_154 ?_
      refine lv_iload_n hx hb dX9_worker_157 rfl (lv_at hl 4 rfl) ?_
      obtain ⟨h16, hf⟩ := ix_some hf
      refine r_iald X G 12 rfl h16 dX9_worker_158 ?_
      cases hf
      exact e_mi X G dX9_worker_159
    replace hf := if_f hf c15
    by_cases c17 : v2 = (12 : Int32)
    · replace hf := if_t hf c17
      refine r_tsw X (tgt := 160) dX9_worker_37 (by rw [c17]; decide +kernel) (by rw [c17]; decide +kernel) ?_
      refine lv_aload hx hb dX9_worker_160 (lv_at hl 1 rfl) ?_
      refine lv_iload_n hx hb dX9_worker_162 rfl (lv_at hl 4 rfl) ?_
      obtain ⟨r18, hcr18, hf⟩ := bd_some hf
      refine p_R (st1 := [.int r18]) (run_V (rest := []) X (ctX3_locksOf hZ (aWD 1) aSC hcr18) mk_X3_locksOf ml_X9_191 ⟨(Nat.le_of_ble_eq_true rfl), (Nat.le_of_ble_eq_true rfl)⟩ G [8, 9, 10, 11, 12, 13, 14, 15, 16] rfl rfl 8 rfl rfl rfl hl.1 rfl (Nat.le_of_ble_eq_true rfl) dX9_worker_163 ⟨Nat.zero_le _, Nat.zero_le _⟩) rfl ?_
      cases hf
      exact e_mi X G dX9_worker_166
    replace hf := if_f hf c17
    by_cases c19 : v2 = (13 : Int32)
    · replace hf := if_t hf c19
      refine r_tsw X (tgt := 167) dX9_worker_37 (by rw [c19]; decide +kernel) (by rw [c19]; decide +kernel) ?_
      refine lv_aload_n hx hb dX9_worker_167 rfl (lv_at hl 2 rfl) ?_
      refine r_get X inw_X1 G 2 rfl rfl 3 (by decide) fl_X9_194 (v := .ref (aPL 0)) rfl dX9_worker_168 ?_
      refine lv_iload_n hx hb dX9_worker_171 rfl (lv_at hl 4 rfl) ?_
      obtain ⟨h20, hf⟩ := ix_some hf
      refine r_iald X G 3 rfl h20 dX9_worker_172 ?_
      cases hf
      exact e_mi X G dX9_worker_173
    replace hf := if_f hf c19
    have hd := tsw_d (x := v2) (lo' := 0) (hi' := 13) (dflt := 137) (offs := #[71, 74, 82, 90, 108, 115, 137, 137, 137, 137, 137, 137, 123, 130]) [(0 : Int32), (1 : Int32), (2 : Int32), (3 : Int32), (4 : Int32), (5 : Int32), (12 : Int32), (13 : Int32)] (by
        intro k hk
        simp only [List.mem_cons, List.not_mem_nil, or_false] at hk
        rcases hk with rfl | rfl | rfl | rfl | rfl | rfl | rfl | rfl
        · exact c5
        · exact c6
        · exact c8
        · exact c10
        · exact c13
        · exact c15
        · exact c17
        · exact c19
        ) 13 (by decide) (by decide +kernel)
    refine r_tsw X (tgt := 174) dX9_worker_37 (by rw [hd.1]; rfl) hd.2 ?_
    refine lv_aload_n hx hb dX9_worker_174 rfl (lv_at hl 3 rfl) ?_
    refine lv_iload_n hx hb dX9_worker_175 rfl (lv_at hl 4 rfl) ?_
    refine lv_iload_n hx hb dX9_worker_176 rfl (lv_at hl 5 rfl) ?_
    obtain ⟨r21, hcr21, hf⟩ := bd_some hf
    refine p_N (st1 := [.int (r21.1)]) (wr := []) (ws' := kHw k ot aHW () ++ (kWd k (aHW 0) aWD (WD) ++ (kPl k (aWD 0) aPL (PL) ++ (kSc k (aWD 1) aSC (SC) ++ (kTr k (aHW 5) aTR (r21.2.1) ++ (kSc k (aTR 0) aSC_2 (r21.2.2.1) ++ (kVw k (aTR 1) aVW (r21.2.2.2.1) ++ (kVw k (aHW 4) aVW_2 (r21.2.2.2.2))))))))) (run_V (rest := []) X (ctX9_seen hZ ot aHW aWD aPL aSC aTR aSC_2 aVW aVW_2 hcr21) mk_X9_seen ml_X9_197 ⟨(Nat.le_of_ble_eq_true rfl), (Nat.le_of_ble_eq_true rfl)⟩ G [0, 1, 2, 3, 4, 5, 6, 7, 8, 9, 10, 11, 12, 13, 14, 15, 16, 17, 18, 19, 20, 21, 22, 23, 24, 25, 26, 27, 28, 29, 30, 31, 32, 33, 34, 35] rfl rfl 0 rfl rfl rfl hl.1 rfl (Nat.le_of_ble_eq_true rfl) dX9_worker_177 ⟨Nat.zero_le _, Nat.zero_le _⟩) rfl G [0, 1, 2, 3, 4, 5, 6, 7, 8, 9, 10, 11, 12, 13, 14, 15, 16, 17, 18, 19, 20, 21, 22, 23, 24, 25, 26, 27, 28, 29, 30, 31, 32, 33, 34, 35] [] 36 rfl rfl rfl rfl rfl (by decide) (by decide) rfl (fun H locs G => ?_)
    cases hf
    exact e_mi X G dX9_worker_180
  · replace hf := if_t hf c2
    refine lv_iconst (v := -1) hx hb dX9_worker_8 (by decide) ?_
    cases hf
    exact e_mi X G dX9_worker_9
theorem mk_X9_worker : MV yX9_worker cX9_worker 6 (some .int) 2 := ⟨co_X9_worker, in_X9, im_X9_worker, se_X9_worker, by decide +kernel, by decide +kernel⟩
noncomputable def FX9_step (WD : WdT) (PL : PlT) (v1 : Int32) (v2 : Int32) (v3 : Int32) : Option (Int32) :=
  if v3 = 0 then (
    (FX1_kindAt PL v1 v2).bind fun r2 =>
    some r2
  ) else (
    (FX1_numberAt PL v1 v2).bind fun r3 =>
    some r3
  )
set_option maxHeartbeats 4000000 in
set_option maxRecDepth 100000 in
theorem ctX9_step {l : Launch} {D : va_G} {k : Nat → ClassId} {Z : ZT} (hZ : ZOK Z) (ot : Nat) (aHW : Nat → Nat) (aWD : Nat → Nat) (aPL : Nat → Nat) {WD : WdT} {PL : PlT} {v1 : Int32} {v2 : Int32} {v3 : Int32} {q : Int32} (hf : FX9_step WD PL v1 v2 v3 = some q) :
    CR l D k Z yX9_step cX9_step 4 (some .int) 2 44 [.ref ot, .int v1, .int v2, .int v3] (some (.int q)) (kHw k ot aHW () ++ (kWd k (aHW 0) aWD (WD) ++ (kPl k (aWD 0) aPL (PL)))) := by
  refine CR.start hZ (by decide) (Nat.le_of_ble_eq_true rfl) ?_
  intro p e s m below meth c ls X hl G
  have hx := X.1
  have hb := X.2.1
  have hl : lv_has ls 4 [(0, .ref ot), (1, .int v1), (2, .int v2), (3, .int v3)] := hl
  unfold FX9_step at hf
  refine lv_iload_n hx hb dX9_step_0 rfl (lv_at hl 3 rfl) ?_
  refine lv_if_eq (tgt := 19) hx hb dX9_step_1 (by decide) (fun c1 => ?_) (fun c1 => ?_)
  · replace hf := if_t hf c1
    refine lv_aload_n hx hb dX9_step_19 rfl (lv_at hl 0 rfl) ?_
    refine r_get X inw_X9 G 0 rfl rfl 0 (by decide) fl_X9_10 (v := .ref (aHW 0)) rfl dX9_step_20 ?_
    refine r_get X inw_X8 G 1 rfl rfl 0 (by decide) fl_X9_81 (v := .ref (aWD 0)) rfl dX9_step_23 ?_
    refine lv_iload_n hx hb dX9_step_26 rfl (lv_at hl 1 rfl) ?_
    refine lv_iload_n hx hb dX9_step_27 rfl (lv_at hl 2 rfl) ?_
    obtain ⟨r2, hcr2, hf⟩ := bd_some hf
    refine p_R (st1 := [.int r2]) (run_V (rest := []) X (ctX1_kindAt hZ (aWD 0) aPL hcr2) mk_X1_kindAt ml_X9_175 ⟨(Nat.le_of_ble_eq_true rfl), (Nat.le_of_ble_eq_true rfl)⟩ G [2, 3, 4, 5, 6, 7] rfl rfl 2 rfl rfl rfl hl.1 rfl (Nat.le_of_ble_eq_true rfl) dX9_step_28 ⟨Nat.zero_le _, Nat.zero_le _⟩) rfl ?_
    cases hf
    exact e_ri X dX9_step_31
  · replace hf := if_f hf c1
    refine lv_aload_n hx hb dX9_step_4 rfl (lv_at hl 0 rfl) ?_
    refine r_get X inw_X9 G 0 rfl rfl 0 (by decide) fl_X9_10 (v := .ref (aHW 0)) rfl dX9_step_5 ?_
    refine r_get X inw_X8 G 1 rfl rfl 0 (by decide) fl_X9_81 (v := .ref (aWD 0)) rfl dX9_step_8 ?_
    refine lv_iload_n hx hb dX9_step_11 rfl (lv_at hl 1 rfl) ?_
    refine lv_iload_n hx hb dX9_step_12 rfl (lv_at hl 2 rfl) ?_
    obtain ⟨r3, hcr3, hf⟩ := bd_some hf
    refine p_R (st1 := [.int r3]) (run_V (rest := []) X (ctX1_numberAt hZ (aWD 0) aPL hcr3) mk_X1_numberAt ml_X9_179 ⟨(Nat.le_of_ble_eq_true rfl), (Nat.le_of_ble_eq_true rfl)⟩ G [2, 3, 4, 5, 6, 7] rfl rfl 2 rfl rfl rfl hl.1 rfl (Nat.le_of_ble_eq_true rfl) dX9_step_13 ⟨Nat.zero_le _, Nat.zero_le _⟩) rfl ?_
    refine lv_goto (tgt := 31) hx hb dX9_step_16 (by decide) ?_
    cases hf
    exact e_ri X dX9_step_31
theorem mk_X9_step : MV yX9_step cX9_step 4 (some .int) 3 := ⟨co_X9_step, in_X9, im_X9_step, se_X9_step, by decide +kernel, by decide +kernel⟩
noncomputable def FX9_holder (WD : WdT) (SC : ScT) (v1 : Int32) : Option (Int32) :=
  (FX9_at 6 (Sc_holders SC) v1).bind fun r1 =>
  some r1
set_option maxHeartbeats 4000000 in
set_option maxRecDepth 100000 in
theorem ctX9_holder {l : Launch} {D : va_G} {k : Nat → ClassId} {Z : ZT} (hZ : ZOK Z) (ot : Nat) (aHW : Nat → Nat) (aWD : Nat → Nat) (aSC : Nat → Nat) {WD : WdT} {SC : ScT} {v1 : Int32} {q : Int32} (hf : FX9_holder WD SC v1 = some q) :
    CR l D k Z yX9_holder cX9_holder 2 (some .int) 1 21 [.ref ot, .int v1] (some (.int q)) (kHw k ot aHW () ++ (kWd k (aHW 0) aWD (WD) ++ (kSc k (aWD 1) aSC (SC)))) := by
  refine CR.start hZ (by decide) (Nat.le_of_ble_eq_true rfl) ?_
  intro p e s m below meth c ls X hl G
  have hx := X.1
  have hb := X.2.1
  have hl : lv_has ls 2 [(0, .ref ot), (1, .int v1)] := hl
  unfold FX9_holder at hf
  refine lv_aload_n hx hb dX9_holder_0 rfl (lv_at hl 0 rfl) ?_
  refine r_get X inw_X9 G 0 rfl rfl 0 (by decide) fl_X9_10 (v := .ref (aHW 0)) rfl dX9_holder_1 ?_
  refine r_get X inw_X8 G 1 rfl rfl 1 (by decide) fl_X9_97 (v := .ref (aWD 1)) rfl dX9_holder_4 ?_
  refine r_get X inw_X3 G 2 rfl rfl 8 (by decide) fl_X9_200 (v := .ref (aSC 5)) rfl dX9_holder_7 ?_
  refine lv_iload_n hx hb dX9_holder_10 rfl (lv_at hl 1 rfl) ?_
  obtain ⟨r1, hcr1, hf⟩ := bd_some hf
  refine p_R (st1 := [.int r1]) (run_S (rest := []) X (ctX9_at hZ (aSC 5) hcr1) mk_X9_at ml_X9_203 ⟨(Nat.le_of_ble_eq_true rfl), (Nat.le_of_ble_eq_true rfl)⟩ G [8] rfl rfl rfl hl.1 rfl (Nat.le_of_ble_eq_true rfl) dX9_holder_11 ⟨Nat.zero_le _, Nat.zero_le _⟩) rfl ?_
  cases hf
  exact e_ri X dX9_holder_14
theorem mk_X9_holder : MV yX9_holder cX9_holder 2 (some .int) 1 := ⟨co_X9_holder, in_X9, im_X9_holder, se_X9_holder, by decide +kernel, by decide +kernel⟩
noncomputable def FX9_pipe (WD : WdT) (PL : PlT) (SC : ScT) (v1 : Int32) (v2 : Int32) : Option (Int32) :=
  if v2 = 0 then (
    (FX9_at 4 (Sc_lies SC) v1).bind fun r2 =>
    some r2
  ) else (
    (FX9_at 4 (Pl_rooms PL) v1).bind fun r3 =>
    some r3
  )
set_option maxHeartbeats 4000000 in
set_option maxRecDepth 100000 in
theorem ctX9_pipe {l : Launch} {D : va_G} {k : Nat → ClassId} {Z : ZT} (hZ : ZOK Z) (ot : Nat) (aHW : Nat → Nat) (aWD : Nat → Nat) (aPL : Nat → Nat) (aSC : Nat → Nat) {WD : WdT} {PL : PlT} {SC : ScT} {v1 : Int32} {v2 : Int32} {q : Int32} (hf : FX9_pipe WD PL SC v1 v2 = some q) :
    CR l D k Z yX9_pipe cX9_pipe 3 (some .int) 1 21 [.ref ot, .int v1, .int v2] (some (.int q)) (kHw k ot aHW () ++ (kWd k (aHW 0) aWD (WD) ++ (kPl k (aWD 0) aPL (PL) ++ (kSc k (aWD 1) aSC (SC))))) := by
  refine CR.start hZ (by decide) (Nat.le_of_ble_eq_true rfl) ?_
  intro p e s m below meth c ls X hl G
  have hx := X.1
  have hb := X.2.1
  have hl : lv_has ls 3 [(0, .ref ot), (1, .int v1), (2, .int v2)] := hl
  unfold FX9_pipe at hf
  refine lv_iload_n hx hb dX9_pipe_0 rfl (lv_at hl 2 rfl) ?_
  refine lv_if_eq (tgt := 17) hx hb dX9_pipe_1 (by decide) (fun c1 => ?_) (fun c1 => ?_)
  · replace hf := if_t hf c1
    refine lv_aload_n hx hb dX9_pipe_17 rfl (lv_at hl 0 rfl) ?_
    refine r_get X inw_X9 G 0 rfl rfl 0 (by decide) fl_X9_10 (v := .ref (aHW 0)) rfl dX9_pipe_18 ?_
    refine r_get X inw_X8 G 1 rfl rfl 1 (by decide) fl_X9_97 (v := .ref (aWD 1)) rfl dX9_pipe_21 ?_
    refine r_get X inw_X3 G 8 rfl rfl 9 (by decide) fl_X9_210 (v := .ref (aSC 6)) rfl dX9_pipe_24 ?_
    refine lv_iload_n hx hb dX9_pipe_27 rfl (lv_at hl 1 rfl) ?_
    obtain ⟨r2, hcr2, hf⟩ := bd_some hf
    refine p_R (st1 := [.int r2]) (run_S (rest := []) X (ctX9_at hZ (aSC 6) hcr2) mk_X9_at ml_X9_203 ⟨(Nat.le_of_ble_eq_true rfl), (Nat.le_of_ble_eq_true rfl)⟩ G [15] rfl rfl rfl hl.1 rfl (Nat.le_of_ble_eq_true rfl) dX9_pipe_28 ⟨Nat.zero_le _, Nat.zero_le _⟩) rfl ?_
    cases hf
    exact e_ri X dX9_pipe_31
  · replace hf := if_f hf c1
    refine lv_aload_n hx hb dX9_pipe_4 rfl (lv_at hl 0 rfl) ?_
    refine r_get X inw_X9 G 0 rfl rfl 0 (by decide) fl_X9_10 (v := .ref (aHW 0)) rfl dX9_pipe_5 ?_
    refine r_get X inw_X8 G 1 rfl rfl 0 (by decide) fl_X9_81 (v := .ref (aWD 0)) rfl dX9_pipe_8 ?_
    refine r_get X inw_X1 G 2 rfl rfl 7 (by decide) fl_X9_207 (v := .ref (aPL 4)) rfl dX9_pipe_11 ?_
    refine lv_goto (tgt := 27) hx hb dX9_pipe_14 (by decide) ?_
    refine lv_iload_n hx hb dX9_pipe_27 rfl (lv_at hl 1 rfl) ?_
    obtain ⟨r3, hcr3, hf⟩ := bd_some hf
    refine p_R (st1 := [.int r3]) (run_S (rest := []) X (ctX9_at hZ (aPL 4) hcr3) mk_X9_at ml_X9_203 ⟨(Nat.le_of_ble_eq_true rfl), (Nat.le_of_ble_eq_true rfl)⟩ G [7] rfl rfl rfl hl.1 rfl (Nat.le_of_ble_eq_true rfl) dX9_pipe_28 ⟨Nat.zero_le _, Nat.zero_le _⟩) rfl ?_
    cases hf
    exact e_ri X dX9_pipe_31
theorem mk_X9_pipe : MV yX9_pipe cX9_pipe 3 (some .int) 2 := ⟨co_X9_pipe, in_X9, im_X9_pipe, se_X9_pipe, by decide +kernel, by decide +kernel⟩
noncomputable def FX9_messages (WD : WdT) (PL : PlT) (SC : ScT) (v1 : Int32) (v2 : Int32) : Option (Int32) :=
  (FX9_isWorker WD PL v1).bind fun r1 =>
  if (bI r1) = 0 then (
    some (-1 : Int32)
  ) else (
    (FX9_isWorker WD PL v2).bind fun r3 =>
    if (bI r3) = 0 then (
      some (-1 : Int32)
    ) else (
      nm ((v1 * (8 : Int32)) + v2) fun x5 =>
      ix x5 64 <|
      some (Sc_mail SC (Int32.toNatClampNeg x5))
    )
  )
set_option maxHeartbeats 4000000 in
set_option maxRecDepth 100000 in
theorem ctX9_messages {l : Launch} {D : va_G} {k : Nat → ClassId} {Z : ZT} (hZ : ZOK Z) (ot : Nat) (aHW : Nat → Nat) (aWD : Nat → Nat) (aPL : Nat → Nat) (aSC : Nat → Nat) {WD : WdT} {PL : PlT} {SC : ScT} {v1 : Int32} {v2 : Int32} {q : Int32} (hf : FX9_messages WD PL SC v1 v2 = some q) :
    CR l D k Z yX9_messages cX9_messages 3 (some .int) 1 21 [.ref ot, .int v1, .int v2] (some (.int q)) (kHw k ot aHW () ++ (kWd k (aHW 0) aWD (WD) ++ (kPl k (aWD 0) aPL (PL) ++ (kSc k (aWD 1) aSC (SC))))) := by
  refine CR.start hZ (by decide) (Nat.le_of_ble_eq_true rfl) ?_
  intro p e s m below meth c ls X hl G
  have hx := X.1
  have hb := X.2.1
  have hl : lv_has ls 3 [(0, .ref ot), (1, .int v1), (2, .int v2)] := hl
  unfold FX9_messages at hf
  refine lv_aload_n hx hb dX9_messages_0 rfl (lv_at hl 0 rfl) ?_
  refine lv_iload_n hx hb dX9_messages_1 rfl (lv_at hl 1 rfl) ?_
  obtain ⟨r1, hcr1, hf⟩ := bd_some hf
  refine p_R (st1 := [.int (bI r1)]) (run_V (rest := []) X (ctX9_isWorker hZ ot aHW aWD aPL hcr1) mk_X9_isWorker ml_X9_167 ⟨(Nat.le_of_ble_eq_true rfl), (Nat.le_of_ble_eq_true rfl)⟩ G [0, 1, 2, 3, 4, 5, 6, 7] rfl rfl 0 rfl rfl rfl hl.1 rfl (Nat.le_of_ble_eq_true rfl) dX9_messages_2 ⟨Nat.zero_le _, Nat.zero_le _⟩) rfl ?_
  refine lv_if_eq (tgt := 16) hx hb dX9_messages_5 (by decide) (fun c2 => ?_) (fun c2 => ?_)
  · replace hf := if_t hf c2
    refine lv_iconst (v := -1) hx hb dX9_messages_16 (by decide) ?_
    cases hf
    exact e_ri X dX9_messages_17
  · replace hf := if_f hf c2
    refine lv_aload_n hx hb dX9_messages_8 rfl (lv_at hl 0 rfl) ?_
    refine lv_iload_n hx hb dX9_messages_9 rfl (lv_at hl 2 rfl) ?_
    obtain ⟨r3, hcr3, hf⟩ := bd_some hf
    refine p_R (st1 := [.int (bI r3)]) (run_V (rest := []) X (ctX9_isWorker hZ ot aHW aWD aPL hcr3) mk_X9_isWorker ml_X9_167 ⟨(Nat.le_of_ble_eq_true rfl), (Nat.le_of_ble_eq_true rfl)⟩ G [0, 1, 2, 3, 4, 5, 6, 7] rfl rfl 0 rfl rfl rfl hl.1 rfl (Nat.le_of_ble_eq_true rfl) dX9_messages_10 ⟨Nat.zero_le _, Nat.zero_le _⟩) rfl ?_
    refine lv_if_ne (tgt := 18) hx hb dX9_messages_13 (by decide) (fun c4 => ?_) (fun c4 => ?_)
    · replace hf := if_f hf c4
      refine lv_aload_n hx hb dX9_messages_18 rfl (lv_at hl 0 rfl) ?_
      refine r_get X inw_X9 G 0 rfl rfl 0 (by decide) fl_X9_10 (v := .ref (aHW 0)) rfl dX9_messages_19 ?_
      refine r_get X inw_X8 G 1 rfl rfl 1 (by decide) fl_X9_97 (v := .ref (aWD 1)) rfl dX9_messages_22 ?_
      refine r_get X inw_X3 G 8 rfl rfl 10 (by decide) fl_X9_213 (v := .ref (aSC 7)) rfl dX9_messages_25 ?_
      refine lv_iload_n hx hb dX9_messages_28 rfl (lv_at hl 1 rfl) ?_
      refine lv_bipush (v := 8) hx hb dX9_messages_29 (by decide) ?_
      refine lv_imul hx hb dX9_messages_31 ?_
      refine lv_iload_n hx hb dX9_messages_32 rfl (lv_at hl 2 rfl) ?_
      refine lv_iadd hx hb dX9_messages_33 ?_
      obtain ⟨x5, ex5, hf⟩ := nm_some hf
      refine r_top (congrArg Value.int ex5) ?_
      obtain ⟨h6, hf⟩ := ix_some hf
      refine r_iald X G 16 rfl h6 dX9_messages_34 ?_
      cases hf
      exact e_ri X dX9_messages_35
    · replace hf := if_t hf c4
      refine lv_iconst (v := -1) hx hb dX9_messages_16 (by decide) ?_
      cases hf
      exact e_ri X dX9_messages_17
theorem mk_X9_messages : MV yX9_messages cX9_messages 3 (some .int) 2 := ⟨co_X9_messages, in_X9, im_X9_messages, se_X9_messages, by decide +kernel, by decide +kernel⟩
noncomputable def FX9_waits (WD : WdT) (PL : PlT) (SC : ScT) (VW : VwT) (v1 : Int32) : Option (Int32 × VwT) :=
  (FX9_isWorker WD PL v1).bind fun r1 =>
  if (bI r1) = 0 then (
    some ((-1 : Int32), VW)
  ) else (
    (FX9_lookNow WD PL SC VW).bind fun r3 =>
    ix v1 8 <|
    some (Vw_waitsFor r3 (Int32.toNatClampNeg v1), r3)
  )
set_option maxHeartbeats 4000000 in
set_option maxRecDepth 100000 in
theorem ctX9_waits {l : Launch} {D : va_G} {k : Nat → ClassId} {Z : ZT} (hZ : ZOK Z) (ot : Nat) (aHW : Nat → Nat) (aWD : Nat → Nat) (aPL : Nat → Nat) (aSC : Nat → Nat) (aVW : Nat → Nat) {WD : WdT} {PL : PlT} {SC : ScT} {VW : VwT} {v1 : Int32} {q : Int32 × VwT} (hf : FX9_waits WD PL SC VW v1 = some q) :
    CM l D k Z yX9_waits cX9_waits 2 (some .int) 5 112 [.ref ot, .int v1] (some (.int q.1)) (kHw k ot aHW () ++ (kWd k (aHW 0) aWD (WD) ++ (kPl k (aWD 0) aPL (PL) ++ (kSc k (aWD 1) aSC (SC) ++ (kVw k (aHW 4) aVW (VW)))))) (kHw k ot aHW () ++ (kWd k (aHW 0) aWD (WD) ++ (kPl k (aWD 0) aPL (PL) ++ (kSc k (aWD 1) aSC (SC) ++ (kVw k (aHW 4) aVW (q.2)))))) := by
  refine CM.start hZ (by decide) (Nat.le_of_ble_eq_true rfl) ?_
  intro p e s m below meth c ls X hl G
  have hx := X.1
  have hb := X.2.1
  have hl : lv_has ls 2 [(0, .ref ot), (1, .int v1)] := hl
  unfold FX9_waits at hf
  refine lv_aload_n hx hb dX9_waits_0 rfl (lv_at hl 0 rfl) ?_
  refine lv_iload_n hx hb dX9_waits_1 rfl (lv_at hl 1 rfl) ?_
  obtain ⟨r1, hcr1, hf⟩ := bd_some hf
  refine p_R (st1 := [.int (bI r1)]) (run_V (rest := []) X (ctX9_isWorker hZ ot aHW aWD aPL hcr1) mk_X9_isWorker ml_X9_167 ⟨(Nat.le_of_ble_eq_true rfl), (Nat.le_of_ble_eq_true rfl)⟩ G [0, 1, 2, 3, 4, 5, 6, 7] rfl rfl 0 rfl rfl rfl hl.1 rfl (Nat.le_of_ble_eq_true rfl) dX9_waits_2 ⟨Nat.zero_le _, Nat.zero_le _⟩) rfl ?_
  refine lv_if_ne (tgt := 10) hx hb dX9_waits_5 (by decide) (fun c2 => ?_) (fun c2 => ?_)
  · replace hf := if_f hf c2
    refine lv_aload_n hx hb dX9_waits_10 rfl (lv_at hl 0 rfl) ?_
    obtain ⟨r3, hcr3, hf⟩ := bd_some hf
    refine p_N (st1 := []) (wr := []) (ws' := kHw k ot aHW () ++ (kWd k (aHW 0) aWD (WD) ++ (kPl k (aWD 0) aPL (PL) ++ (kSc k (aWD 1) aSC (SC) ++ (kVw k (aHW 4) aVW (r3)))))) (run_V (rest := []) X (ctX9_lookNow hZ ot aHW aWD aPL aSC aVW hcr3) mk_X9_lookNow ml_X9_128 ⟨(Nat.le_of_ble_eq_true rfl), (Nat.le_of_ble_eq_true rfl)⟩ G [0, 1, 2, 3, 4, 5, 6, 7, 8, 9, 10, 11, 12, 13, 14, 15, 16, 17, 18, 19, 20] rfl rfl 0 rfl rfl rfl hl.1 rfl (Nat.le_of_ble_eq_true rfl) dX9_waits_11 ⟨Nat.zero_le _, Nat.zero_le _⟩) rfl G [0, 1, 2, 3, 4, 5, 6, 7, 8, 9, 10, 11, 12, 13, 14, 15, 16, 17, 18, 19, 20] [] 21 rfl rfl rfl rfl rfl (by decide) (by decide) rfl (fun H locs G => ?_)
    refine lv_aload_n hx hb dX9_waits_14 rfl (lv_at hl 0 rfl) ?_
    refine r_get X inw_X9 G 0 rfl rfl 4 (by decide) fl_X9_37 (v := .ref (aHW 4)) rfl dX9_waits_15 ?_
    refine r_get X inw_X7 G 17 rfl rfl 9 (by decide) fl_X9_216 (v := .ref (aVW 1)) rfl dX9_waits_18 ?_
    refine lv_iload_n hx hb dX9_waits_21 rfl (lv_at hl 1 rfl) ?_
    obtain ⟨h4, hf⟩ := ix_some hf
    refine r_iald X G 19 rfl h4 dX9_waits_22 ?_
    cases hf
    exact e_mi X G dX9_waits_23
  · replace hf := if_t hf c2
    refine lv_iconst (v := -1) hx hb dX9_waits_8 (by decide) ?_
    cases hf
    exact e_mi X G dX9_waits_9
theorem mk_X9_waits : MV yX9_waits cX9_waits 2 (some .int) 1 := ⟨co_X9_waits, in_X9, im_X9_waits, se_X9_waits, by decide +kernel, by decide +kernel⟩
noncomputable def FX9_way (WD : WdT) (PL : PlT) (SC : ScT) (VW : VwT) (v1 : Int32) (v2 : Int32) : Option (Int32 × VwT) :=
  (FX9_lookNow WD PL SC VW).bind fun r1 =>
  (FX9_has (Vw_heldUp r1) v1).bind fun r2 =>
  if (bI r2) = 0 then (
    some ((-1 : Int32), r1)
  ) else (
    (FX7_walk r1 v1).bind fun r4 =>
    if v2 = (-1 : Int32) then (
      some (Vw_pathLength r4, r4)
    ) else (
      if (Vw_pathLength r4) ≤ v2 then (
        some ((-1 : Int32), r4)
      ) else (
        (FX9_at 8 (Vw_path r4) v2).bind fun r7 =>
        some (r7, r4)
      )
    )
  )
set_option maxHeartbeats 4000000 in
set_option maxRecDepth 100000 in
theorem ctX9_way {l : Launch} {D : va_G} {k : Nat → ClassId} {Z : ZT} (hZ : ZOK Z) (ot : Nat) (aHW : Nat → Nat) (aWD : Nat → Nat) (aPL : Nat → Nat) (aSC : Nat → Nat) (aVW : Nat → Nat) {WD : WdT} {PL : PlT} {SC : ScT} {VW : VwT} {v1 : Int32} {v2 : Int32} {q : Int32 × VwT} (hf : FX9_way WD PL SC VW v1 v2 = some q) :
    CM l D k Z yX9_way cX9_way 3 (some .int) 5 112 [.ref ot, .int v1, .int v2] (some (.int q.1)) (kHw k ot aHW () ++ (kWd k (aHW 0) aWD (WD) ++ (kPl k (aWD 0) aPL (PL) ++ (kSc k (aWD 1) aSC (SC) ++ (kVw k (aHW 4) aVW (VW)))))) (kHw k ot aHW () ++ (kWd k (aHW 0) aWD (WD) ++ (kPl k (aWD 0) aPL (PL) ++ (kSc k (aWD 1) aSC (SC) ++ (kVw k (aHW 4) aVW (q.2)))))) := by
  refine CM.start hZ (by decide) (Nat.le_of_ble_eq_true rfl) ?_
  intro p e s m below meth c ls X hl G
  have hx := X.1
  have hb := X.2.1
  have hl : lv_has ls 3 [(0, .ref ot), (1, .int v1), (2, .int v2)] := hl
  unfold FX9_way at hf
  refine lv_aload_n hx hb dX9_way_0 rfl (lv_at hl 0 rfl) ?_
  obtain ⟨r1, hcr1, hf⟩ := bd_some hf
  refine p_N (st1 := []) (wr := []) (ws' := kHw k ot aHW () ++ (kWd k (aHW 0) aWD (WD) ++ (kPl k (aWD 0) aPL (PL) ++ (kSc k (aWD 1) aSC (SC) ++ (kVw k (aHW 4) aVW (r1)))))) (run_V (rest := []) X (ctX9_lookNow hZ ot aHW aWD aPL aSC aVW hcr1) mk_X9_lookNow ml_X9_128 ⟨(Nat.le_of_ble_eq_true rfl), (Nat.le_of_ble_eq_true rfl)⟩ G [0, 1, 2, 3, 4, 5, 6, 7, 8, 9, 10, 11, 12, 13, 14, 15, 16, 17, 18, 19, 20] rfl rfl 0 rfl rfl rfl hl.1 rfl (Nat.le_of_ble_eq_true rfl) dX9_way_1 ⟨Nat.zero_le _, Nat.zero_le _⟩) rfl G [0, 1, 2, 3, 4, 5, 6, 7, 8, 9, 10, 11, 12, 13, 14, 15, 16, 17, 18, 19, 20] [] 21 rfl rfl rfl rfl rfl (by decide) (by decide) rfl (fun H locs G => ?_)
  refine lv_aload_n hx hb dX9_way_4 rfl (lv_at hl 0 rfl) ?_
  refine r_get X inw_X9 G 0 rfl rfl 4 (by decide) fl_X9_37 (v := .ref (aHW 4)) rfl dX9_way_5 ?_
  refine r_get X inw_X7 G 17 rfl rfl 2 (by decide) fl_X9_131 (v := .int (Vw_heldUp r1)) rfl dX9_way_8 ?_
  refine lv_iload_n hx hb dX9_way_11 rfl (lv_at hl 1 rfl) ?_
  obtain ⟨r2, hcr2, hf⟩ := bd_some hf
  refine p_R (st1 := [.int (bI r2)]) (run_S (rest := []) X (ctX9_has hZ hcr2) mk_X9_has ml_X9_134 ⟨(Nat.le_of_ble_eq_true rfl), (Nat.le_of_ble_eq_true rfl)⟩ G [] rfl rfl rfl hl.1 rfl (Nat.le_of_ble_eq_true rfl) dX9_way_12 ⟨Nat.zero_le _, Nat.zero_le _⟩) rfl ?_
  refine lv_if_ne (tgt := 20) hx hb dX9_way_15 (by decide) (fun c3 => ?_) (fun c3 => ?_)
  · replace hf := if_f hf c3
    refine lv_aload_n hx hb dX9_way_20 rfl (lv_at hl 0 rfl) ?_
    refine r_get X inw_X9 G 0 rfl rfl 4 (by decide) fl_X9_37 (v := .ref (aHW 4)) rfl dX9_way_21 ?_
    refine lv_iload_n hx hb dX9_way_24 rfl (lv_at hl 1 rfl) ?_
    obtain ⟨r4, hcr4, hf⟩ := bd_some hf
    refine p_N (st1 := []) (wr := kHw k ot aHW () ++ (kWd k (aHW 0) aWD (WD) ++ (kPl k (aWD 0) aPL (PL) ++ (kSc k (aWD 1) aSC (SC))))) (ws' := kHw k ot aHW () ++ (kWd k (aHW 0) aWD (WD) ++ (kPl k (aWD 0) aPL (PL) ++ (kSc k (aWD 1) aSC (SC) ++ (kVw k (aHW 4) aVW (r4)))))) (run_V (rest := []) X (ctX7_walk hZ (aHW 4) aVW hcr4) mk_X7_walk ml_X9_219 ⟨(Nat.le_of_ble_eq_true rfl), (Nat.le_of_ble_eq_true rfl)⟩ G [17, 18, 19, 20] rfl rfl 17 rfl rfl rfl hl.1 rfl (Nat.le_of_ble_eq_true rfl) dX9_way_25 ⟨Nat.zero_le _, Nat.zero_le _⟩) rfl G [17, 18, 19, 20] [0, 1, 2, 3, 4, 5, 6, 7, 8, 9, 10, 11, 12, 13, 14, 15, 16] 21 rfl rfl rfl rfl rfl (by decide) (by decide) rfl (fun H locs G => ?_)
    refine lv_iload_n hx hb dX9_way_28 rfl (lv_at hl 2 rfl) ?_
    refine lv_iconst (v := -1) hx hb dX9_way_29 (by decide) ?_
    refine lv_icmp_ne (tgt := 41) hx hb dX9_way_30 (by decide) (fun c5 => ?_) (fun c5 => ?_)
    · replace hf := if_f hf c5
      refine lv_iload_n hx hb dX9_way_41 rfl (lv_at hl 2 rfl) ?_
      refine lv_aload_n hx hb dX9_way_42 rfl (lv_at hl 0 rfl) ?_
      refine r_get X inw_X9 G 0 rfl rfl 4 (by decide) fl_X9_37 (v := .ref (aHW 4)) rfl dX9_way_43 ?_
      refine r_get X inw_X7 G 17 rfl rfl 11 (by decide) fl_X9_222 (v := .int (Vw_pathLength r4)) rfl dX9_way_46 ?_
      refine lv_icmp_ge (tgt := 66) hx hb dX9_way_49 (by decide) (fun c6 => ?_) (fun c6 => ?_)
      · replace hf := if_t hf c6
        refine lv_iconst (v := -1) hx hb dX9_way_66 (by decide) ?_
        cases hf
        exact e_mi X G dX9_way_67
      · replace hf := if_f hf c6
        refine lv_aload_n hx hb dX9_way_52 rfl (lv_at hl 0 rfl) ?_
        refine r_get X inw_X9 G 0 rfl rfl 4 (by decide) fl_X9_37 (v := .ref (aHW 4)) rfl dX9_way_53 ?_
        refine r_get X inw_X7 G 17 rfl rfl 10 (by decide) fl_X9_225 (v := .ref (aVW 2)) rfl dX9_way_56 ?_
        refine lv_iload_n hx hb dX9_way_59 rfl (lv_at hl 2 rfl) ?_
        obtain ⟨r7, hcr7, hf⟩ := bd_some hf
        refine p_R (st1 := [.int r7]) (run_S (rest := []) X (ctX9_at hZ (aVW 2) hcr7) mk_X9_at ml_X9_203 ⟨(Nat.le_of_ble_eq_true rfl), (Nat.le_of_ble_eq_true rfl)⟩ G [20] rfl rfl rfl hl.1 rfl (Nat.le_of_ble_eq_true rfl) dX9_way_60 ⟨Nat.zero_le _, Nat.zero_le _⟩) rfl ?_
        refine lv_goto (tgt := 67) hx hb dX9_way_63 (by decide) ?_
        cases hf
        exact e_mi X G dX9_way_67
    · replace hf := if_t hf c5
      refine lv_aload_n hx hb dX9_way_33 rfl (lv_at hl 0 rfl) ?_
      refine r_get X inw_X9 G 0 rfl rfl 4 (by decide) fl_X9_37 (v := .ref (aHW 4)) rfl dX9_way_34 ?_
      refine r_get X inw_X7 G 17 rfl rfl 11 (by decide) fl_X9_222 (v := .int (Vw_pathLength r4)) rfl dX9_way_37 ?_
      cases hf
      exact e_mi X G dX9_way_40
  · replace hf := if_t hf c3
    refine lv_iconst (v := -1) hx hb dX9_way_18 (by decide) ?_
    cases hf
    exact e_mi X G dX9_way_19
theorem mk_X9_way : MV yX9_way cX9_way 3 (some .int) 2 := ⟨co_X9_way, in_X9, im_X9_way, se_X9_way, by decide +kernel, by decide +kernel⟩
noncomputable def FX9_ring (WD : WdT) (PL : PlT) (SC : ScT) (VW : VwT) (v1 : Int32) : Option (Int32 × VwT) :=
  (FX9_lookNow WD PL SC VW).bind fun r1 =>
  (FX9_has (Vw_heldUp r1) v1).bind fun r2 =>
  if (bI r2) = 0 then (
    some ((-1 : Int32), r1)
  ) else (
    (FX7_walk r1 v1).bind fun r4 =>
    some (Vw_ringLength r4, r4)
  )
set_option maxHeartbeats 4000000 in
set_option maxRecDepth 100000 in
theorem ctX9_ring {l : Launch} {D : va_G} {k : Nat → ClassId} {Z : ZT} (hZ : ZOK Z) (ot : Nat) (aHW : Nat → Nat) (aWD : Nat → Nat) (aPL : Nat → Nat) (aSC : Nat → Nat) (aVW : Nat → Nat) {WD : WdT} {PL : PlT} {SC : ScT} {VW : VwT} {v1 : Int32} {q : Int32 × VwT} (hf : FX9_ring WD PL SC VW v1 = some q) :
    CM l D k Z yX9_ring cX9_ring 2 (some .int) 5 112 [.ref ot, .int v1] (some (.int q.1)) (kHw k ot aHW () ++ (kWd k (aHW 0) aWD (WD) ++ (kPl k (aWD 0) aPL (PL) ++ (kSc k (aWD 1) aSC (SC) ++ (kVw k (aHW 4) aVW (VW)))))) (kHw k ot aHW () ++ (kWd k (aHW 0) aWD (WD) ++ (kPl k (aWD 0) aPL (PL) ++ (kSc k (aWD 1) aSC (SC) ++ (kVw k (aHW 4) aVW (q.2)))))) := by
  refine CM.start hZ (by decide) (Nat.le_of_ble_eq_true rfl) ?_
  intro p e s m below meth c ls X hl G
  have hx := X.1
  have hb := X.2.1
  have hl : lv_has ls 2 [(0, .ref ot), (1, .int v1)] := hl
  unfold FX9_ring at hf
  refine lv_aload_n hx hb dX9_ring_0 rfl (lv_at hl 0 rfl) ?_
  obtain ⟨r1, hcr1, hf⟩ := bd_some hf
  refine p_N (st1 := []) (wr := []) (ws' := kHw k ot aHW () ++ (kWd k (aHW 0) aWD (WD) ++ (kPl k (aWD 0) aPL (PL) ++ (kSc k (aWD 1) aSC (SC) ++ (kVw k (aHW 4) aVW (r1)))))) (run_V (rest := []) X (ctX9_lookNow hZ ot aHW aWD aPL aSC aVW hcr1) mk_X9_lookNow ml_X9_128 ⟨(Nat.le_of_ble_eq_true rfl), (Nat.le_of_ble_eq_true rfl)⟩ G [0, 1, 2, 3, 4, 5, 6, 7, 8, 9, 10, 11, 12, 13, 14, 15, 16, 17, 18, 19, 20] rfl rfl 0 rfl rfl rfl hl.1 rfl (Nat.le_of_ble_eq_true rfl) dX9_ring_1 ⟨Nat.zero_le _, Nat.zero_le _⟩) rfl G [0, 1, 2, 3, 4, 5, 6, 7, 8, 9, 10, 11, 12, 13, 14, 15, 16, 17, 18, 19, 20] [] 21 rfl rfl rfl rfl rfl (by decide) (by decide) rfl (fun H locs G => ?_)
  refine lv_aload_n hx hb dX9_ring_4 rfl (lv_at hl 0 rfl) ?_
  refine r_get X inw_X9 G 0 rfl rfl 4 (by decide) fl_X9_37 (v := .ref (aHW 4)) rfl dX9_ring_5 ?_
  refine r_get X inw_X7 G 17 rfl rfl 2 (by decide) fl_X9_131 (v := .int (Vw_heldUp r1)) rfl dX9_ring_8 ?_
  refine lv_iload_n hx hb dX9_ring_11 rfl (lv_at hl 1 rfl) ?_
  obtain ⟨r2, hcr2, hf⟩ := bd_some hf
  refine p_R (st1 := [.int (bI r2)]) (run_S (rest := []) X (ctX9_has hZ hcr2) mk_X9_has ml_X9_134 ⟨(Nat.le_of_ble_eq_true rfl), (Nat.le_of_ble_eq_true rfl)⟩ G [] rfl rfl rfl hl.1 rfl (Nat.le_of_ble_eq_true rfl) dX9_ring_12 ⟨Nat.zero_le _, Nat.zero_le _⟩) rfl ?_
  refine lv_if_ne (tgt := 20) hx hb dX9_ring_15 (by decide) (fun c3 => ?_) (fun c3 => ?_)
  · replace hf := if_f hf c3
    refine lv_aload_n hx hb dX9_ring_20 rfl (lv_at hl 0 rfl) ?_
    refine r_get X inw_X9 G 0 rfl rfl 4 (by decide) fl_X9_37 (v := .ref (aHW 4)) rfl dX9_ring_21 ?_
    refine lv_iload_n hx hb dX9_ring_24 rfl (lv_at hl 1 rfl) ?_
    obtain ⟨r4, hcr4, hf⟩ := bd_some hf
    refine p_N (st1 := []) (wr := kHw k ot aHW () ++ (kWd k (aHW 0) aWD (WD) ++ (kPl k (aWD 0) aPL (PL) ++ (kSc k (aWD 1) aSC (SC))))) (ws' := kHw k ot aHW () ++ (kWd k (aHW 0) aWD (WD) ++ (kPl k (aWD 0) aPL (PL) ++ (kSc k (aWD 1) aSC (SC) ++ (kVw k (aHW 4) aVW (r4)))))) (run_V (rest := []) X (ctX7_walk hZ (aHW 4) aVW hcr4) mk_X7_walk ml_X9_219 ⟨(Nat.le_of_ble_eq_true rfl), (Nat.le_of_ble_eq_true rfl)⟩ G [17, 18, 19, 20] rfl rfl 17 rfl rfl rfl hl.1 rfl (Nat.le_of_ble_eq_true rfl) dX9_ring_25 ⟨Nat.zero_le _, Nat.zero_le _⟩) rfl G [17, 18, 19, 20] [0, 1, 2, 3, 4, 5, 6, 7, 8, 9, 10, 11, 12, 13, 14, 15, 16] 21 rfl rfl rfl rfl rfl (by decide) (by decide) rfl (fun H locs G => ?_)
    refine lv_aload_n hx hb dX9_ring_28 rfl (lv_at hl 0 rfl) ?_
    refine r_get X inw_X9 G 0 rfl rfl 4 (by decide) fl_X9_37 (v := .ref (aHW 4)) rfl dX9_ring_29 ?_
    refine r_get X inw_X7 G 17 rfl rfl 12 (by decide) fl_X9_228 (v := .int (Vw_ringLength r4)) rfl dX9_ring_32 ?_
    cases hf
    exact e_mi X G dX9_ring_35
  · replace hf := if_t hf c3
    refine lv_iconst (v := -1) hx hb dX9_ring_18 (by decide) ?_
    cases hf
    exact e_mi X G dX9_ring_19
theorem mk_X9_ring : MV yX9_ring cX9_ring 2 (some .int) 1 := ⟨co_X9_ring, in_X9, im_X9_ring, se_X9_ring, by decide +kernel, by decide +kernel⟩
noncomputable def FX9_stall (WD : WdT) (SK : SkT) (v1 : Int32) (v2 : Int32) : Option (Int32) :=
  (FX4_part SK v1 v2).bind fun r1 =>
  some r1
set_option maxHeartbeats 4000000 in
set_option maxRecDepth 100000 in
theorem ctX9_stall {l : Launch} {D : va_G} {k : Nat → ClassId} {Z : ZT} (hZ : ZOK Z) (ot : Nat) (aHW : Nat → Nat) (aWD : Nat → Nat) (aSK : Nat → Nat) {WD : WdT} {SK : SkT} {v1 : Int32} {v2 : Int32} {q : Int32} (hf : FX9_stall WD SK v1 v2 = some q) :
    CR l D k Z yX9_stall cX9_stall 3 (some .int) 2 43 [.ref ot, .int v1, .int v2] (some (.int q)) (kHw k ot aHW () ++ (kWd k (aHW 0) aWD (WD) ++ (kSk k (aWD 2) aSK (SK)))) := by
  refine CR.start hZ (by decide) (Nat.le_of_ble_eq_true rfl) ?_
  intro p e s m below meth c ls X hl G
  have hx := X.1
  have hb := X.2.1
  have hl : lv_has ls 3 [(0, .ref ot), (1, .int v1), (2, .int v2)] := hl
  unfold FX9_stall at hf
  refine lv_aload_n hx hb dX9_stall_0 rfl (lv_at hl 0 rfl) ?_
  refine r_get X inw_X9 G 0 rfl rfl 0 (by decide) fl_X9_10 (v := .ref (aHW 0)) rfl dX9_stall_1 ?_
  refine r_get X inw_X8 G 1 rfl rfl 2 (by decide) fl_X9_103 (v := .ref (aWD 2)) rfl dX9_stall_4 ?_
  refine lv_iload_n hx hb dX9_stall_7 rfl (lv_at hl 1 rfl) ?_
  refine lv_iload_n hx hb dX9_stall_8 rfl (lv_at hl 2 rfl) ?_
  obtain ⟨r1, hcr1, hf⟩ := bd_some hf
  refine p_R (st1 := [.int r1]) (run_V (rest := []) X (ctX4_part hZ (aWD 2) aSK hcr1) mk_X4_part ml_X9_231 ⟨(Nat.le_of_ble_eq_true rfl), (Nat.le_of_ble_eq_true rfl)⟩ G [2, 3] rfl rfl 2 rfl rfl rfl hl.1 rfl (Nat.le_of_ble_eq_true rfl) dX9_stall_9 ⟨Nat.zero_le _, Nat.zero_le _⟩) rfl ?_
  cases hf
  exact e_ri X dX9_stall_12
theorem mk_X9_stall : MV yX9_stall cX9_stall 3 (some .int) 2 := ⟨co_X9_stall, in_X9, im_X9_stall, se_X9_stall, by decide +kernel, by decide +kernel⟩
noncomputable def FX9_freed (WD : WdT) (PL : PlT) (SC : ScT) (TR : TrT) (SC_2 : ScT) (VW : VwT) (VW_2 : VwT) (v1 : Int32) : Option (Int32 × TrT × ScT × VwT × VwT) :=
  (FX9_lookNow WD PL SC VW_2).bind fun r1 =>
  (FX9_has (Vw_heldUp r1) v1).bind fun r2 =>
  if (bI r2) = 0 then (
    some ((-1 : Int32), TR, SC_2, VW, r1)
  ) else (
    (FX6_weigh TR SC_2 VW PL SC r1).bind fun r4 =>
    ix v1 8 <|
    some (Tr_frees r4.1 (Int32.toNatClampNeg v1), r4.1, r4.2.1, r4.2.2, r1)
  )
set_option maxHeartbeats 4000000 in
set_option maxRecDepth 100000 in
theorem ctX9_freed {l : Launch} {D : va_G} {k : Nat → ClassId} {Z : ZT} (hZ : ZOK Z) (ot : Nat) (aHW : Nat → Nat) (aWD : Nat → Nat) (aPL : Nat → Nat) (aSC : Nat → Nat) (aTR : Nat → Nat) (aSC_2 : Nat → Nat) (aVW : Nat → Nat) (aVW_2 : Nat → Nat) {WD : WdT} {PL : PlT} {SC : ScT} {TR : TrT} {SC_2 : ScT} {VW : VwT} {VW_2 : VwT} {v1 : Int32} {q : Int32 × TrT × ScT × VwT × VwT} (hf : FX9_freed WD PL SC TR SC_2 VW VW_2 v1 = some q) :
    CM l D k Z yX9_freed cX9_freed 2 (some .int) 5 116 [.ref ot, .int v1] (some (.int q.1)) (kHw k ot aHW () ++ (kWd k (aHW 0) aWD (WD) ++ (kPl k (aWD 0) aPL (PL) ++ (kSc k (aWD 1) aSC (SC) ++ (kTr k (aHW 5) aTR (TR) ++ (kSc k (aTR 0) aSC_2 (SC_2) ++ (kVw k (aTR 1) aVW (VW) ++ (kVw k (aHW 4) aVW_2 (VW_2))))))))) (kHw k ot aHW () ++ (kWd k (aHW 0) aWD (WD) ++ (kPl k (aWD 0) aPL (PL) ++ (kSc k (aWD 1) aSC (SC) ++ (kTr k (aHW 5) aTR (q.2.1) ++ (kSc k (aTR 0) aSC_2 (q.2.2.1) ++ (kVw k (aTR 1) aVW (q.2.2.2.1) ++ (kVw k (aHW 4) aVW_2 (q.2.2.2.2))))))))) := by
  refine CM.start hZ (by decide) (Nat.le_of_ble_eq_true rfl) ?_
  intro p e s m below meth c ls X hl G
  have hx := X.1
  have hb := X.2.1
  have hl : lv_has ls 2 [(0, .ref ot), (1, .int v1)] := hl
  unfold FX9_freed at hf
  refine lv_aload_n hx hb dX9_freed_0 rfl (lv_at hl 0 rfl) ?_
  obtain ⟨r1, hcr1, hf⟩ := bd_some hf
  refine p_N (st1 := []) (wr := kTr k (aHW 5) aTR (TR) ++ (kSc k (aTR 0) aSC_2 (SC_2) ++ (kVw k (aTR 1) aVW (VW)))) (ws' := kHw k ot aHW () ++ (kWd k (aHW 0) aWD (WD) ++ (kPl k (aWD 0) aPL (PL) ++ (kSc k (aWD 1) aSC (SC) ++ (kTr k (aHW 5) aTR (TR) ++ (kSc k (aTR 0) aSC_2 (SC_2) ++ (kVw k (aTR 1) aVW (VW) ++ (kVw k (aHW 4) aVW_2 (r1))))))))) (run_V (rest := []) X (ctX9_lookNow hZ ot aHW aWD aPL aSC aVW_2 hcr1) mk_X9_lookNow ml_X9_128 ⟨(Nat.le_of_ble_eq_true rfl), (Nat.le_of_ble_eq_true rfl)⟩ G [0, 1, 2, 3, 4, 5, 6, 7, 8, 9, 10, 11, 12, 13, 14, 15, 16, 32, 33, 34, 35] rfl rfl 0 rfl rfl rfl hl.1 rfl (Nat.le_of_ble_eq_true rfl) dX9_freed_1 ⟨Nat.zero_le _, Nat.zero_le _⟩) rfl G [0, 1, 2, 3, 4, 5, 6, 7, 8, 9, 10, 11, 12, 13, 14, 15, 16, 32, 33, 34, 35] [17, 18, 19, 20, 21, 22, 23, 24, 25, 26, 27, 28, 29, 30, 31] 36 rfl rfl rfl rfl rfl (by decide) (by decide) rfl (fun H locs G => ?_)
  refine lv_aload_n hx hb dX9_freed_4 rfl (lv_at hl 0 rfl) ?_
  refine r_get X inw_X9 G 0 rfl rfl 4 (by decide) fl_X9_37 (v := .ref (aHW 4)) rfl dX9_freed_5 ?_
  refine r_get X inw_X7 G 32 rfl rfl 2 (by decide) fl_X9_131 (v := .int (Vw_heldUp r1)) rfl dX9_freed_8 ?_
  refine lv_iload_n hx hb dX9_freed_11 rfl (lv_at hl 1 rfl) ?_
  obtain ⟨r2, hcr2, hf⟩ := bd_some hf
  refine p_R (st1 := [.int (bI r2)]) (run_S (rest := []) X (ctX9_has hZ hcr2) mk_X9_has ml_X9_134 ⟨(Nat.le_of_ble_eq_true rfl), (Nat.le_of_ble_eq_true rfl)⟩ G [] rfl rfl rfl hl.1 rfl (Nat.le_of_ble_eq_true rfl) dX9_freed_12 ⟨Nat.zero_le _, Nat.zero_le _⟩) rfl ?_
  refine lv_if_ne (tgt := 20) hx hb dX9_freed_15 (by decide) (fun c3 => ?_) (fun c3 => ?_)
  · replace hf := if_f hf c3
    refine lv_aload_n hx hb dX9_freed_20 rfl (lv_at hl 0 rfl) ?_
    refine r_get X inw_X9 G 0 rfl rfl 5 (by decide) fl_X9_44 (v := .ref (aHW 5)) rfl dX9_freed_21 ?_
    refine lv_aload_n hx hb dX9_freed_24 rfl (lv_at hl 0 rfl) ?_
    refine r_get X inw_X9 G 0 rfl rfl 0 (by decide) fl_X9_10 (v := .ref (aHW 0)) rfl dX9_freed_25 ?_
    refine r_get X inw_X8 G 1 rfl rfl 0 (by decide) fl_X9_81 (v := .ref (aWD 0)) rfl dX9_freed_28 ?_
    refine lv_aload_n hx hb dX9_freed_31 rfl (lv_at hl 0 rfl) ?_
    refine r_get X inw_X9 G 0 rfl rfl 0 (by decide) fl_X9_10 (v := .ref (aHW 0)) rfl dX9_freed_32 ?_
    refine r_get X inw_X8 G 1 rfl rfl 1 (by decide) fl_X9_97 (v := .ref (aWD 1)) rfl dX9_freed_35 ?_
    refine lv_aload_n hx hb dX9_freed_38 rfl (lv_at hl 0 rfl) ?_
    refine r_get X inw_X9 G 0 rfl rfl 4 (by decide) fl_X9_37 (v := .ref (aHW 4)) rfl dX9_freed_39 ?_
    obtain ⟨r4, hcr4, hf⟩ := bd_some hf
    refine p_N (st1 := []) (wr := kHw k ot aHW () ++ (kWd k (aHW 0) aWD (WD))) (ws' := kHw k ot aHW () ++ (kWd k (aHW 0) aWD (WD) ++ (kPl k (aWD 0) aPL (PL) ++ (kSc k (aWD 1) aSC (SC) ++ (kTr k (aHW 5) aTR (r4.1) ++ (kSc k (aTR 0) aSC_2 (r4.2.1) ++ (kVw k (aTR 1) aVW (r4.2.2) ++ (kVw k (aHW 4) aVW_2 (r1))))))))) (run_V (rest := []) X (ctX6_weigh hZ (aHW 5) (aWD 0) (aWD 1) (aHW 4) aTR aSC_2 aVW aPL aSC aVW_2 hcr4) mk_X6_weigh ml_X9_234 ⟨(Nat.le_of_ble_eq_true rfl), (Nat.le_of_ble_eq_true rfl)⟩ G [17, 18, 19, 20, 21, 22, 23, 24, 25, 26, 27, 28, 29, 30, 31, 2, 3, 4, 5, 6, 7, 8, 9, 10, 11, 12, 13, 14, 15, 16, 32, 33, 34, 35] rfl rfl 17 rfl rfl rfl hl.1 rfl (Nat.le_of_ble_eq_true rfl) dX9_freed_42 ⟨Nat.zero_le _, Nat.zero_le _⟩) rfl G [17, 18, 19, 20, 21, 22, 23, 24, 25, 26, 27, 28, 29, 30, 31, 2, 3, 4, 5, 6, 7, 8, 9, 10, 11, 12, 13, 14, 15, 16, 32, 33, 34, 35] [0, 1] 36 rfl rfl rfl rfl rfl (by decide) (by decide) rfl (fun H locs G => ?_)
    refine lv_aload_n hx hb dX9_freed_45 rfl (lv_at hl 0 rfl) ?_
    refine r_get X inw_X9 G 0 rfl rfl 5 (by decide) fl_X9_44 (v := .ref (aHW 5)) rfl dX9_freed_46 ?_
    refine r_get X inw_X6 G 17 rfl rfl 2 (by decide) fl_X9_238 (v := .ref (aTR 2)) rfl dX9_freed_49 ?_
    refine lv_iload_n hx hb dX9_freed_52 rfl (lv_at hl 1 rfl) ?_
    obtain ⟨h5, hf⟩ := ix_some hf
    refine r_iald X G 18 rfl h5 dX9_freed_53 ?_
    cases hf
    exact e_mi X G dX9_freed_54
  · replace hf := if_t hf c3
    refine lv_iconst (v := -1) hx hb dX9_freed_18 (by decide) ?_
    cases hf
    exact e_mi X G dX9_freed_19
theorem mk_X9_freed : MV yX9_freed cX9_freed 2 (some .int) 1 := ⟨co_X9_freed, in_X9, im_X9_freed, se_X9_freed, by decide +kernel, by decide +kernel⟩
noncomputable def FX9_later_56 (PL : PlT) (v1 : Int32) : (Int32 × ScT) → Option ((Int32 × ScT) ⊕ (ScT)) := fun stL6 =>
  if v1 ≤ stL6.1 then (
    some (.inr stL6.2)
  ) else (
    (FX3_pass stL6.2 PL).bind fun r8 =>
    nm (stL6.1 + 1) fun x9 =>
    some (.inl (x9, r8))
  )
noncomputable def FX9_later_j21 (SC : ScT) (PL : PlT) (SC_2 : ScT) (VW : VwT) (v1 : Int32) (v2 : Int32) (vJ1 : Int32) : Option (Int32 × ScT × VwT) :=
  if v1 < 0 then (
    some ((-1 : Int32), SC, VW)
  ) else (
    if (200 : Int32) < v1 then (
      some ((-1 : Int32), SC, VW)
    ) else (
      if vJ1 = 0 then (
        some ((-1 : Int32), SC, VW)
      ) else (
        (FX3_take SC SC_2).bind fun r5 =>
        (itr (FX9_later_56 PL v1) ((0 : Int32), r5)).bind fun uL6 =>
        (FX7_look VW PL uL6).bind fun r10 =>
        (FX7_tally r10 v2).bind fun r11 =>
        some (r11, uL6, r10)
      )
    )
  )
noncomputable def FX9_later (SC : ScT) (WD : WdT) (PL : PlT) (SC_2 : ScT) (VW : VwT) (v1 : Int32) (v2 : Int32) : Option (Int32 × ScT × VwT) :=
  if v2 = (1 : Int32) then (
    FX9_later_j21 SC PL SC_2 VW v1 v2 (1 : Int32)
  ) else (
    if v2 < (5 : Int32) then (
      FX9_later_j21 SC PL SC_2 VW v1 v2 (0 : Int32)
    ) else (
      if (9 : Int32) < v2 then (
        FX9_later_j21 SC PL SC_2 VW v1 v2 (0 : Int32)
      ) else (
        FX9_later_j21 SC PL SC_2 VW v1 v2 (1 : Int32)
      )
    )
  )
set_option maxHeartbeats 4000000 in
set_option maxRecDepth 100000 in
theorem ctX9_later {l : Launch} {D : va_G} {k : Nat → ClassId} {Z : ZT} (hZ : ZOK Z) (ot : Nat) (aHW : Nat → Nat) (aSC : Nat → Nat) (aWD : Nat → Nat) (aPL : Nat → Nat) (aSC_2 : Nat → Nat) (aVW : Nat → Nat) {SC : ScT} {WD : WdT} {PL : PlT} {SC_2 : ScT} {VW : VwT} {v1 : Int32} {v2 : Int32} {q : Int32 × ScT × VwT} (hf : FX9_later SC WD PL SC_2 VW v1 v2 = some q) :
    CM l D k Z yX9_later cX9_later 5 (some .int) 5 114 [.ref ot, .int v1, .int v2] (some (.int q.1)) (kHw k ot aHW () ++ (kSc k (aHW 6) aSC (SC) ++ (kWd k (aHW 0) aWD (WD) ++ (kPl k (aWD 0) aPL (PL) ++ (kSc k (aWD 1) aSC_2 (SC_2) ++ (kVw k (aHW 4) aVW (VW))))))) (kHw k ot aHW () ++ (kSc k (aHW 6) aSC (q.2.1) ++ (kWd k (aHW 0) aWD (WD) ++ (kPl k (aWD 0) aPL (PL) ++ (kSc k (aWD 1) aSC_2 (SC_2) ++ (kVw k (aHW 4) aVW (q.2.2))))))) := by
  refine CM.start hZ (by decide) (Nat.le_of_ble_eq_true rfl) ?_
  intro p e s m below meth c ls X hl G
  have hx := X.1
  have hb := X.2.1
  have hl : lv_has ls 5 [(0, .ref ot), (1, .int v1), (2, .int v2)] := hl
  unfold FX9_later at hf
  refine lv_iload_n hx hb dX9_later_0 rfl (lv_at hl 2 rfl) ?_
  refine lv_iconst (v := 1) hx hb dX9_later_1 (by decide) ?_
  have JJ1 : ∀ (vJ1 : Int32) (H : Heap) (locs : List Loc) (ls : Array Slot), Wo D (wA (kHw k ot aHW () ++ (kSc k (aHW 6) aSC (SC) ++ (kWd k (aHW 0) aWD (WD) ++ (kPl k (aWD 0) aPL (PL) ++ (kSc k (aWD 1) aSC_2 (SC_2) ++ (kVw k (aHW 4) aVW (VW)))))))) s.heap (kHw k ot aHW () ++ (kSc k (aHW 6) aSC (SC) ++ (kWd k (aHW 0) aWD (WD) ++ (kPl k (aWD 0) aPL (PL) ++ (kSc k (aWD 1) aSC_2 (SC_2) ++ (kVw k (aHW 4) aVW (VW))))))) H locs → lv_has ls 5 [(0, .ref ot), (1, .int v1), (2, .int v2)] → FX9_later_j21 SC PL SC_2 VW v1 v2 vJ1 = some q → W p l e (rmz 5 114) s m [.ref ot, .int v1, .int v2].toArray below meth c H locs 0 0 (MQ below (Qm D (some (.int q.1)) (kHw k ot aHW () ++ (kSc k (aHW 6) aSC (SC) ++ (kWd k (aHW 0) aWD (WD) ++ (kPl k (aWD 0) aPL (PL) ++ (kSc k (aWD 1) aSC_2 (SC_2) ++ (kVw k (aHW 4) aVW (VW))))))) (kHw k ot aHW () ++ (kSc k (aHW 6) aSC (q.2.1) ++ (kWd k (aHW 0) aWD (WD) ++ (kPl k (aWD 0) aPL (PL) ++ (kSc k (aWD 1) aSC_2 (SC_2) ++ (kVw k (aHW 4) aVW (q.2.2)))))))) [.ref ot, .int v1, .int v2].toArray s 0 0 (wA (kHw k ot aHW () ++ (kSc k (aHW 6) aSC (SC) ++ (kWd k (aHW 0) aWD (WD) ++ (kPl k (aWD 0) aPL (PL) ++ (kSc k (aWD 1) aSC_2 (SC_2) ++ (kVw k (aHW 4) aVW (VW))))))))) (F0 m 21 ls [.int vJ1]) := by
    intro vJ1 H locs ls G hl hf
    unfold FX9_later_j21 at hf
    refine lv_istore_n (lv' := [(3, .int vJ1), (0, .ref ot), (1, .int v1), (2, .int v2)]) hx hb dX9_later_21 rfl hl (by decide) rfl (fun ls hl => ?_)
    refine lv_iload_n hx hb dX9_later_22 rfl (lv_at hl 2 rfl) ?_
    refine lv_if_lt (tgt := 37) hx hb dX9_later_23 (by decide) (fun c2 => ?_) (fun c2 => ?_)
    · replace hf := if_t hf c2
      refine lv_iconst (v := -1) hx hb dX9_later_37 (by decide) ?_
      cases hf
      exact e_mi X G dX9_later_38
    · replace hf := if_f hf c2
      refine lv_iload_n hx hb dX9_later_26 rfl (lv_at hl 2 rfl) ?_
      refine lv_sipush (v := 200) hx hb dX9_later_27 (by decide) ?_
      refine lv_icmp_gt (tgt := 37) hx hb dX9_later_30 (by decide) (fun c3 => ?_) (fun c3 => ?_)
      · replace hf := if_t hf c3
        refine lv_iconst (v := -1) hx hb dX9_later_37 (by decide) ?_
        cases hf
        exact e_mi X G dX9_later_38
      · replace hf := if_f hf c3
        refine lv_iload_n hx hb dX9_later_33 rfl (lv_at hl 0 rfl) ?_
        refine lv_if_ne (tgt := 39) hx hb dX9_later_34 (by decide) (fun c4 => ?_) (fun c4 => ?_)
        · replace hf := if_f hf c4
          refine lv_aload_n hx hb dX9_later_39 rfl (lv_at hl 1 rfl) ?_
          refine r_get X inw_X9 G 0 rfl rfl 6 (by decide) fl_X9_51 (v := .ref (aHW 6)) rfl dX9_later_40 ?_
          refine lv_aload_n hx hb dX9_later_43 rfl (lv_at hl 1 rfl) ?_
          refine r_get X inw_X9 G 0 rfl rfl 0 (by decide) fl_X9_10 (v := .ref (aHW 0)) rfl dX9_later_44 ?_
          refine r_get X inw_X8 G 10 rfl rfl 1 (by decide) fl_X9_97 (v := .ref (aWD 1)) rfl dX9_later_47 ?_
          obtain ⟨r5, hcr5, hf⟩ := bd_some hf
          refine p_N (st1 := []) (wr := kHw k ot aHW () ++ (kWd k (aHW 0) aWD (WD) ++ (kPl k (aWD 0) aPL (PL) ++ (kVw k (aHW 4) aVW (VW))))) (ws' := kHw k ot aHW () ++ (kSc k (aHW 6) aSC (r5) ++ (kWd k (aHW 0) aWD (WD) ++ (kPl k (aWD 0) aPL (PL) ++ (kSc k (aWD 1) aSC_2 (SC_2) ++ (kVw k (aHW 4) aVW (VW))))))) (run_V (rest := []) X (ctX3_take hZ (aHW 6) (aWD 1) aSC aSC_2 hcr5) mk_X3_take ml_X9_241 ⟨(Nat.le_of_ble_eq_true rfl), (Nat.le_of_ble_eq_true rfl)⟩ G [1, 2, 3, 4, 5, 6, 7, 8, 9, 17, 18, 19, 20, 21, 22, 23, 24, 25] rfl rfl 1 rfl rfl rfl hl.1 rfl (Nat.le_of_ble_eq_true rfl) dX9_later_50 ⟨Nat.zero_le _, Nat.zero_le _⟩) rfl G [1, 2, 3, 4, 5, 6, 7, 8, 9, 17, 18, 19, 20, 21, 22, 23, 24, 25] [0, 10, 11, 12, 13, 14, 15, 16, 26, 27, 28, 29] 30 rfl rfl rfl rfl rfl (by decide) (by decide) rfl (fun H locs G => ?_)
          refine lv_iconst (v := 0) hx hb dX9_later_53 (by decide) ?_
          refine lv_istore (lv' := [(4, .int (0 : Int32)), (3, .int vJ1), (0, .ref ot), (1, .int v1), (2, .int v2)]) hx hb dX9_later_54 hl (by decide) rfl (fun ls hl => ?_)
          obtain ⟨exL6, hitL6, hfL6⟩ := bd_some hf
          obtain ⟨nL6, hitL6⟩ := itr_ex hitL6
          have KL6_0 : ∀ (u : ScT) (H : Heap) (locs : List Loc) (ls : Array Slot), exL6 = u → Wo D (wA (kHw k ot aHW () ++ (kSc k (aHW 6) aSC (SC) ++ (kWd k (aHW 0) aWD (WD) ++ (kPl k (aWD 0) aPL (PL) ++ (kSc k (aWD 1) aSC_2 (SC_2) ++ (kVw k (aHW 4) aVW (VW)))))))) s.heap (kHw k ot aHW () ++ (kSc k (aHW 6) aSC (u) ++ (kWd k (aHW 0) aWD (WD) ++ (kPl k (aWD 0) aPL (PL) ++ (kSc k (aWD 1) aSC_2 (SC_2) ++ (kVw k (aHW 4) aVW (VW))))))) H locs → lv_has ls 5 [(0, .ref ot), (2, .int v2)] → W p l e (rmz 5 114) s m [.ref ot, .int v1, .int v2].toArray below meth c H locs 0 0 (MQ below (Qm D (some (.int q.1)) (kHw k ot aHW () ++ (kSc k (aHW 6) aSC (SC) ++ (kWd k (aHW 0) aWD (WD) ++ (kPl k (aWD 0) aPL (PL) ++ (kSc k (aWD 1) aSC_2 (SC_2) ++ (kVw k (aHW 4) aVW (VW))))))) (kHw k ot aHW () ++ (kSc k (aHW 6) aSC (q.2.1) ++ (kWd k (aHW 0) aWD (WD) ++ (kPl k (aWD 0) aPL (PL) ++ (kSc k (aWD 1) aSC_2 (SC_2) ++ (kVw k (aHW 4) aVW (q.2.2)))))))) [.ref ot, .int v1, .int v2].toArray s 0 0 (wA (kHw k ot aHW () ++ (kSc k (aHW 6) aSC (SC) ++ (kWd k (aHW 0) aWD (WD) ++ (kPl k (aWD 0) aPL (PL) ++ (kSc k (aWD 1) aSC_2 (SC_2) ++ (kVw k (aHW 4) aVW (VW))))))))) (F0 m 82 ls []) := by
            intro uL6 H locs ls hex G hl
            rw [hex] at hfL6
            have hf := hfL6
            refine lv_aload_n hx hb dX9_later_82 rfl (lv_at hl 0 rfl) ?_
            refine r_get X inw_X9 G 0 rfl rfl 4 (by decide) fl_X9_37 (v := .ref (aHW 4)) rfl dX9_later_83 ?_
            refine lv_aload_n hx hb dX9_later_86 rfl (lv_at hl 0 rfl) ?_
            refine r_get X inw_X9 G 0 rfl rfl 0 (by decide) fl_X9_10 (v := .ref (aHW 0)) rfl dX9_later_87 ?_
            refine r_get X inw_X8 G 10 rfl rfl 0 (by decide) fl_X9_81 (v := .ref (aWD 0)) rfl dX9_later_90 ?_
            refine lv_aload_n hx hb dX9_later_93 rfl (lv_at hl 0 rfl) ?_
            refine r_get X inw_X9 G 0 rfl rfl 6 (by decide) fl_X9_51 (v := .ref (aHW 6)) rfl dX9_later_94 ?_
            obtain ⟨r10, hcr10, hf⟩ := bd_some hf
            refine p_N (st1 := []) (wr := kHw k ot aHW () ++ (kWd k (aHW 0) aWD (WD) ++ (kSc k (aWD 1) aSC_2 (SC_2)))) (ws' := kHw k ot aHW () ++ (kSc k (aHW 6) aSC (uL6) ++ (kWd k (aHW 0) aWD (WD) ++ (kPl k (aWD 0) aPL (PL) ++ (kSc k (aWD 1) aSC_2 (SC_2) ++ (kVw k (aHW 4) aVW (r10))))))) (run_V (rest := []) X (ctX7_look hZ (aHW 4) (aWD 0) (aHW 6) aVW aPL aSC hcr10) mk_X7_look ml_X9_247 ⟨(Nat.le_of_ble_eq_true rfl), (Nat.le_of_ble_eq_true rfl)⟩ G [26, 27, 28, 29, 11, 12, 13, 14, 15, 16, 1, 2, 3, 4, 5, 6, 7, 8, 9] rfl rfl 26 rfl rfl rfl hl.1 rfl (Nat.le_of_ble_eq_true rfl) dX9_later_97 ⟨Nat.zero_le _, Nat.zero_le _⟩) rfl G [26, 27, 28, 29, 11, 12, 13, 14, 15, 16, 1, 2, 3, 4, 5, 6, 7, 8, 9] [0, 10, 17, 18, 19, 20, 21, 22, 23, 24, 25] 30 rfl rfl rfl rfl rfl (by decide) (by decide) rfl (fun H locs G => ?_)
            refine lv_aload_n hx hb dX9_later_100 rfl (lv_at hl 0 rfl) ?_
            refine r_get X inw_X9 G 0 rfl rfl 4 (by decide) fl_X9_37 (v := .ref (aHW 4)) rfl dX9_later_101 ?_
            refine lv_iload_n hx hb dX9_later_104 rfl (lv_at hl 1 rfl) ?_
            obtain ⟨r11, hcr11, hf⟩ := bd_some hf
            refine p_R (st1 := [.int r11]) (run_V (rest := []) X (ctX7_tally hZ (aHW 4) aVW hcr11) mk_X7_tally ml_X9_163 ⟨(Nat.le_of_ble_eq_true rfl), (Nat.le_of_ble_eq_true rfl)⟩ G [26, 27, 28, 29] rfl rfl 26 rfl rfl rfl hl.1 rfl (Nat.le_of_ble_eq_true rfl) dX9_later_105 ⟨Nat.zero_le _, Nat.zero_le _⟩) rfl ?_
            cases hf
            exact e_mi X G dX9_later_108
          have LL6 : ∀ (n : Nat) (stL6 : Int32 × ScT) (H : Heap) (locs : List Loc) (ls : Array Slot), Wo D (wA (kHw k ot aHW () ++ (kSc k (aHW 6) aSC (SC) ++ (kWd k (aHW 0) aWD (WD) ++ (kPl k (aWD 0) aPL (PL) ++ (kSc k (aWD 1) aSC_2 (SC_2) ++ (kVw k (aHW 4) aVW (VW)))))))) s.heap (kHw k ot aHW () ++ (kSc k (aHW 6) aSC (stL6.2) ++ (kWd k (aHW 0) aWD (WD) ++ (kPl k (aWD 0) aPL (PL) ++ (kSc k (aWD 1) aSC_2 (SC_2) ++ (kVw k (aHW 4) aVW (VW))))))) H locs → lv_has ls 5 [(0, .ref ot), (1, .int v1), (2, .int v2), (4, .int (stL6.1))] → it (FX9_later_56 PL v1) n stL6 = some exL6 → W p l e (rmz 5 114) s m [.ref ot, .int v1, .int v2].toArray below meth c H locs 0 0 (MQ below (Qm D (some (.int q.1)) (kHw k ot aHW () ++ (kSc k (aHW 6) aSC (SC) ++ (kWd k (aHW 0) aWD (WD) ++ (kPl k (aWD 0) aPL (PL) ++ (kSc k (aWD 1) aSC_2 (SC_2) ++ (kVw k (aHW 4) aVW (VW))))))) (kHw k ot aHW () ++ (kSc k (aHW 6) aSC (q.2.1) ++ (kWd k (aHW 0) aWD (WD) ++ (kPl k (aWD 0) aPL (PL) ++ (kSc k (aWD 1) aSC_2 (SC_2) ++ (kVw k (aHW 4) aVW (q.2.2)))))))) [.ref ot, .int v1, .int v2].toArray s 0 0 (wA (kHw k ot aHW () ++ (kSc k (aHW 6) aSC (SC) ++ (kWd k (aHW 0) aWD (WD) ++ (kPl k (aWD 0) aPL (PL) ++ (kSc k (aWD 1) aSC_2 (SC_2) ++ (kVw k (aHW 4) aVW (VW))))))))) (F0 m 56 ls []) := by
            intro n
            induction n with
            | zero =>
              intro stL6 H locs ls G hl hit
              exact (it_zero hit).elim
            | succ n ih =>
              intro stL6 H locs ls G hl hit
              obtain ⟨oL6, hf, hoL6⟩ := it_bd hit
              unfold FX9_later_56 at hf
              refine lv_iload hx hb dX9_later_56 (lv_at hl 3 rfl) ?_
              refine lv_iload_n hx hb dX9_later_58 rfl (lv_at hl 1 rfl) ?_
              refine lv_icmp_ge (tgt := 82) hx hb dX9_later_59 (by decide) (fun c7 => ?_) (fun c7 => ?_)
              · replace hf := if_t hf c7
                cases hf
                exact KL6_0 stL6.2 _ _ _ (it_out hoL6) G (lv_sub hl [0, 2] rfl)
              · replace hf := if_f hf c7
                refine lv_aload_n hx hb dX9_later_62 rfl (lv_at hl 0 rfl) ?_
                refine r_get X inw_X9 G 0 rfl rfl 6 (by decide) fl_X9_51 (v := .ref (aHW 6)) rfl dX9_later_63 ?_
                refine lv_aload_n hx hb dX9_later_66 rfl (lv_at hl 0 rfl) ?_
                refine r_get X inw_X9 G 0 rfl rfl 0 (by decide) fl_X9_10 (v := .ref (aHW 0)) rfl dX9_later_67 ?_
                refine r_get X inw_X8 G 10 rfl rfl 0 (by decide) fl_X9_81 (v := .ref (aWD 0)) rfl dX9_later_70 ?_
                obtain ⟨r8, hcr8, hf⟩ := bd_some hf
                refine p_N (st1 := []) (wr := kHw k ot aHW () ++ (kWd k (aHW 0) aWD (WD) ++ (kSc k (aWD 1) aSC_2 (SC_2) ++ (kVw k (aHW 4) aVW (VW))))) (ws' := kHw k ot aHW () ++ (kSc k (aHW 6) aSC (r8) ++ (kWd k (aHW 0) aWD (WD) ++ (kPl k (aWD 0) aPL (PL) ++ (kSc k (aWD 1) aSC_2 (SC_2) ++ (kVw k (aHW 4) aVW (VW))))))) (run_V (rest := []) X (ctX3_pass hZ (aHW 6) (aWD 0) aSC aPL hcr8) mk_X3_pass ml_X9_244 ⟨(Nat.le_of_ble_eq_true rfl), (Nat.le_of_ble_eq_true rfl)⟩ G [1, 2, 3, 4, 5, 6, 7, 8, 9, 11, 12, 13, 14, 15, 16] rfl rfl 1 rfl rfl rfl hl.1 rfl (Nat.le_of_ble_eq_true rfl) dX9_later_73 ⟨Nat.zero_le _, Nat.zero_le _⟩) rfl G [1, 2, 3, 4, 5, 6, 7, 8, 9, 11, 12, 13, 14, 15, 16] [0, 10, 17, 18, 19, 20, 21, 22, 23, 24, 25, 26, 27, 28, 29] 30 rfl rfl rfl rfl rfl (by decide) (by decide) rfl (fun H locs G => ?_)
                obtain ⟨x9, ex9, hf⟩ := nm_some hf
                refine lv_iinc (v := x9) (lv' := [(4, .int x9), (0, .ref ot), (1, .int v1), (2, .int v2)]) hx hb dX9_later_76 hl (k := 3) rfl (by subst ex9; rfl) (by decide) rfl (fun ls hl => ?_)
                refine lv_goto (tgt := 56) hx hb dX9_later_79 (by decide) ?_
                cases hf
                exact ih (x9, r8) _ _ _ G (lv_sub hl [1, 2, 3, 0] rfl) hoL6
          exact LL6 nL6 ((0 : Int32), r5) _ _ _ G (lv_sub hl [2, 3, 4, 0] rfl) hitL6
        · replace hf := if_t hf c4
          refine lv_iconst (v := -1) hx hb dX9_later_37 (by decide) ?_
          cases hf
          exact e_mi X G dX9_later_38
  refine lv_icmp_eq (tgt := 16) hx hb dX9_later_2 (by decide) (fun c12 => ?_) (fun c12 => ?_)
  · replace hf := if_t hf c12
    refine lv_iconst (v := 1) hx hb dX9_later_16 (by decide) ?_
    refine lv_goto (tgt := 21) hx hb dX9_later_17 (by decide) ?_
    exact JJ1 (1 : Int32) _ _ _ G (lv_sub hl [0, 1, 2] rfl) hf
  · replace hf := if_f hf c12
    refine lv_iload_n hx hb dX9_later_5 rfl (lv_at hl 2 rfl) ?_
    refine lv_iconst (v := 5) hx hb dX9_later_6 (by decide) ?_
    refine lv_icmp_lt (tgt := 20) hx hb dX9_later_7 (by decide) (fun c13 => ?_) (fun c13 => ?_)
    · replace hf := if_t hf c13
      refine lv_iconst (v := 0) hx hb dX9_later_20 (by decide) ?_
      exact JJ1 (0 : Int32) _ _ _ G (lv_sub hl [0, 1, 2] rfl) hf
    · replace hf := if_f hf c13
      refine lv_iload_n hx hb dX9_later_10 rfl (lv_at hl 2 rfl) ?_
      refine lv_bipush (v := 9) hx hb dX9_later_11 (by decide) ?_
      refine lv_icmp_gt (tgt := 20) hx hb dX9_later_13 (by decide) (fun c14 => ?_) (fun c14 => ?_)
      · replace hf := if_t hf c14
        refine lv_iconst (v := 0) hx hb dX9_later_20 (by decide) ?_
        exact JJ1 (0 : Int32) _ _ _ G (lv_sub hl [0, 1, 2] rfl) hf
      · replace hf := if_f hf c14
        refine lv_iconst (v := 1) hx hb dX9_later_16 (by decide) ?_
        refine lv_goto (tgt := 21) hx hb dX9_later_17 (by decide) ?_
        exact JJ1 (1 : Int32) _ _ _ G (lv_sub hl [0, 1, 2] rfl) hf
theorem mk_X9_later : MV yX9_later cX9_later 5 (some .int) 2 := ⟨co_X9_later, in_X9, im_X9_later, se_X9_later, by decide +kernel, by decide +kernel⟩
noncomputable def FX9_ends_26 (PL : PlT) (v1 : Int32) : (Int32 × ScT) → Option ((Int32 × ScT) ⊕ ((ScT) ⊕ (Int32 × ScT))) := fun stL4 =>
  if (200 : Int32) < stL4.1 then (
    some (.inr (.inl stL4.2))
  ) else (
    ix v1 8 <|
    if (Sc_place stL4.2 (Int32.toNatClampNeg v1)) = (-1 : Int32) then (
      some (.inr (.inr ((stL4.1, stL4.2))))
    ) else (
      (FX3_pass stL4.2 PL).bind fun r8 =>
      nm (stL4.1 + 1) fun x9 =>
      some (.inl (x9, r8))
    )
  )
noncomputable def FX9_ends (SC : ScT) (WD : WdT) (PL : PlT) (SC_2 : ScT) (v1 : Int32) : Option (Int32 × ScT) :=
  (FX9_isWorker WD PL v1).bind fun r1 =>
  if (bI r1) = 0 then (
    some ((-1 : Int32), SC)
  ) else (
    (FX3_take SC SC_2).bind fun r3 =>
    (itr (FX9_ends_26 PL v1) ((0 : Int32), r3)).bind fun exL4 =>
    Sum.elim (fun uL4 =>
      some ((-1 : Int32), uL4)
    )
    (fun uL4 =>
      some (uL4.1, uL4.2)
    ) exL4
  )
set_option maxHeartbeats 4000000 in
set_option maxRecDepth 100000 in
theorem ctX9_ends {l : Launch} {D : va_G} {k : Nat → ClassId} {Z : ZT} (hZ : ZOK Z) (ot : Nat) (aHW : Nat → Nat) (aSC : Nat → Nat) (aWD : Nat → Nat) (aPL : Nat → Nat) (aSC_2 : Nat → Nat) {SC : ScT} {WD : WdT} {PL : PlT} {SC_2 : ScT} {v1 : Int32} {q : Int32 × ScT} (hf : FX9_ends SC WD PL SC_2 v1 = some q) :
    CM l D k Z yX9_ends cX9_ends 3 (some .int) 5 114 [.ref ot, .int v1] (some (.int q.1)) (kHw k ot aHW () ++ (kSc k (aHW 6) aSC (SC) ++ (kWd k (aHW 0) aWD (WD) ++ (kPl k (aWD 0) aPL (PL) ++ (kSc k (aWD 1) aSC_2 (SC_2)))))) (kHw k ot aHW () ++ (kSc k (aHW 6) aSC (q.2) ++ (kWd k (aHW 0) aWD (WD) ++ (kPl k (aWD 0) aPL (PL) ++ (kSc k (aWD 1) aSC_2 (SC_2)))))) := by
  refine CM.start hZ (by decide) (Nat.le_of_ble_eq_true rfl) ?_
  intro p e s m below meth c ls X hl G
  have hx := X.1
  have hb := X.2.1
  have hl : lv_has ls 3 [(0, .ref ot), (1, .int v1)] := hl
  unfold FX9_ends at hf
  refine lv_aload_n hx hb dX9_ends_0 rfl (lv_at hl 0 rfl) ?_
  refine lv_iload_n hx hb dX9_ends_1 rfl (lv_at hl 1 rfl) ?_
  obtain ⟨r1, hcr1, hf⟩ := bd_some hf
  refine p_R (st1 := [.int (bI r1)]) (run_V (rest := []) X (ctX9_isWorker hZ ot aHW aWD aPL hcr1) mk_X9_isWorker ml_X9_167 ⟨(Nat.le_of_ble_eq_true rfl), (Nat.le_of_ble_eq_true rfl)⟩ G [0, 10, 11, 12, 13, 14, 15, 16] rfl rfl 0 rfl rfl rfl hl.1 rfl (Nat.le_of_ble_eq_true rfl) dX9_ends_2 ⟨Nat.zero_le _, Nat.zero_le _⟩) rfl ?_
  refine lv_if_ne (tgt := 10) hx hb dX9_ends_5 (by decide) (fun c2 => ?_) (fun c2 => ?_)
  · replace hf := if_f hf c2
    refine lv_aload_n hx hb dX9_ends_10 rfl (lv_at hl 0 rfl) ?_
    refine r_get X inw_X9 G 0 rfl rfl 6 (by decide) fl_X9_51 (v := .ref (aHW 6)) rfl dX9_ends_11 ?_
    refine lv_aload_n hx hb dX9_ends_14 rfl (lv_at hl 0 rfl) ?_
    refine r_get X inw_X9 G 0 rfl rfl 0 (by decide) fl_X9_10 (v := .ref (aHW 0)) rfl dX9_ends_15 ?_
    refine r_get X inw_X8 G 10 rfl rfl 1 (by decide) fl_X9_97 (v := .ref (aWD 1)) rfl dX9_ends_18 ?_
    obtain ⟨r3, hcr3, hf⟩ := bd_some hf
    refine p_N (st1 := []) (wr := kHw k ot aHW () ++ (kWd k (aHW 0) aWD (WD) ++ (kPl k (aWD 0) aPL (PL)))) (ws' := kHw k ot aHW () ++ (kSc k (aHW 6) aSC (r3) ++ (kWd k (aHW 0) aWD (WD) ++ (kPl k (aWD 0) aPL (PL) ++ (kSc k (aWD 1) aSC_2 (SC_2)))))) (run_V (rest := []) X (ctX3_take hZ (aHW 6) (aWD 1) aSC aSC_2 hcr3) mk_X3_take ml_X9_241 ⟨(Nat.le_of_ble_eq_true rfl), (Nat.le_of_ble_eq_true rfl)⟩ G [1, 2, 3, 4, 5, 6, 7, 8, 9, 17, 18, 19, 20, 21, 22, 23, 24, 25] rfl rfl 1 rfl rfl rfl hl.1 rfl (Nat.le_of_ble_eq_true rfl) dX9_ends_21 ⟨Nat.zero_le _, Nat.zero_le _⟩) rfl G [1, 2, 3, 4, 5, 6, 7, 8, 9, 17, 18, 19, 20, 21, 22, 23, 24, 25] [0, 10, 11, 12, 13, 14, 15, 16] 26 rfl rfl rfl rfl rfl (by decide) (by decide) rfl (fun H locs G => ?_)
    refine lv_iconst (v := 0) hx hb dX9_ends_24 (by decide) ?_
    refine lv_istore_n (lv' := [(2, .int (0 : Int32)), (0, .ref ot), (1, .int v1)]) hx hb dX9_ends_25 rfl hl (by decide) rfl (fun ls hl => ?_)
    obtain ⟨exL4, hitL4, hfL4⟩ := bd_some hf
    obtain ⟨nL4, hitL4⟩ := itr_ex hitL4
    have KL4_0 : ∀ (u : ScT) (H : Heap) (locs : List Loc) (ls : Array Slot), exL4 = Sum.inl u → Wo D (wA (kHw k ot aHW () ++ (kSc k (aHW 6) aSC (SC) ++ (kWd k (aHW 0) aWD (WD) ++ (kPl k (aWD 0) aPL (PL) ++ (kSc k (aWD 1) aSC_2 (SC_2))))))) s.heap (kHw k ot aHW () ++ (kSc k (aHW 6) aSC (u) ++ (kWd k (aHW 0) aWD (WD) ++ (kPl k (aWD 0) aPL (PL) ++ (kSc k (aWD 1) aSC_2 (SC_2)))))) H locs → lv_has ls 3 [] → W p l e (rmz 5 114) s m [.ref ot, .int v1].toArray below meth c H locs 0 0 (MQ below (Qm D (some (.int q.1)) (kHw k ot aHW () ++ (kSc k (aHW 6) aSC (SC) ++ (kWd k (aHW 0) aWD (WD) ++ (kPl k (aWD 0) aPL (PL) ++ (kSc k (aWD 1) aSC_2 (SC_2)))))) (kHw k ot aHW () ++ (kSc k (aHW 6) aSC (q.2) ++ (kWd k (aHW 0) aWD (WD) ++ (kPl k (aWD 0) aPL (PL) ++ (kSc k (aWD 1) aSC_2 (SC_2))))))) [.ref ot, .int v1].toArray s 0 0 (wA (kHw k ot aHW () ++ (kSc k (aHW 6) aSC (SC) ++ (kWd k (aHW 0) aWD (WD) ++ (kPl k (aWD 0) aPL (PL) ++ (kSc k (aWD 1) aSC_2 (SC_2)))))))) (F0 m 68 ls []) := by
      intro uL4 H locs ls hex G hl
      rw [hex] at hfL4
      have hf := hfL4
      replace hf := sl_l hf
      refine lv_iconst (v := -1) hx hb dX9_ends_68 (by decide) ?_
      cases hf
      exact e_mi X G dX9_ends_69
    have KL4_1 : ∀ (u : Int32 × ScT) (H : Heap) (locs : List Loc) (ls : Array Slot), exL4 = Sum.inr (u) → Wo D (wA (kHw k ot aHW () ++ (kSc k (aHW 6) aSC (SC) ++ (kWd k (aHW 0) aWD (WD) ++ (kPl k (aWD 0) aPL (PL) ++ (kSc k (aWD 1) aSC_2 (SC_2))))))) s.heap (kHw k ot aHW () ++ (kSc k (aHW 6) aSC (u.2) ++ (kWd k (aHW 0) aWD (WD) ++ (kPl k (aWD 0) aPL (PL) ++ (kSc k (aWD 1) aSC_2 (SC_2)))))) H locs → lv_has ls 3 [(2, .int (u.1))] → W p l e (rmz 5 114) s m [.ref ot, .int v1].toArray below meth c H locs 0 0 (MQ below (Qm D (some (.int q.1)) (kHw k ot aHW () ++ (kSc k (aHW 6) aSC (SC) ++ (kWd k (aHW 0) aWD (WD) ++ (kPl k (aWD 0) aPL (PL) ++ (kSc k (aWD 1) aSC_2 (SC_2)))))) (kHw k ot aHW () ++ (kSc k (aHW 6) aSC (q.2) ++ (kWd k (aHW 0) aWD (WD) ++ (kPl k (aWD 0) aPL (PL) ++ (kSc k (aWD 1) aSC_2 (SC_2))))))) [.ref ot, .int v1].toArray s 0 0 (wA (kHw k ot aHW () ++ (kSc k (aHW 6) aSC (SC) ++ (kWd k (aHW 0) aWD (WD) ++ (kPl k (aWD 0) aPL (PL) ++ (kSc k (aWD 1) aSC_2 (SC_2)))))))) (F0 m 46 ls []) := by
      intro uL4 H locs ls hex G hl
      rw [hex] at hfL4
      have hf := hfL4
      replace hf := sl_r hf
      refine lv_iload_n hx hb dX9_ends_46 rfl (lv_at hl 0 rfl) ?_
      cases hf
      exact e_mi X G dX9_ends_47
    have LL4 : ∀ (n : Nat) (stL4 : Int32 × ScT) (H : Heap) (locs : List Loc) (ls : Array Slot), Wo D (wA (kHw k ot aHW () ++ (kSc k (aHW 6) aSC (SC) ++ (kWd k (aHW 0) aWD (WD) ++ (kPl k (aWD 0) aPL (PL) ++ (kSc k (aWD 1) aSC_2 (SC_2))))))) s.heap (kHw k ot aHW () ++ (kSc k (aHW 6) aSC (stL4.2) ++ (kWd k (aHW 0) aWD (WD) ++ (kPl k (aWD 0) aPL (PL) ++ (kSc k (aWD 1) aSC_2 (SC_2)))))) H locs → lv_has ls 3 [(0, .ref ot), (1, .int v1), (2, .int (stL4.1))] → it (FX9_ends_26 PL v1) n stL4 = some exL4 → W p l e (rmz 5 114) s m [.ref ot, .int v1].toArray below meth c H locs 0 0 (MQ below (Qm D (some (.int q.1)) (kHw k ot aHW () ++ (kSc k (aHW 6) aSC (SC) ++ (kWd k (aHW 0) aWD (WD) ++ (kPl k (aWD 0) aPL (PL) ++ (kSc k (aWD 1) aSC_2 (SC_2)))))) (kHw k ot aHW () ++ (kSc k (aHW 6) aSC (q.2) ++ (kWd k (aHW 0) aWD (WD) ++ (kPl k (aWD 0) aPL (PL) ++ (kSc k (aWD 1) aSC_2 (SC_2))))))) [.ref ot, .int v1].toArray s 0 0 (wA (kHw k ot aHW () ++ (kSc k (aHW 6) aSC (SC) ++ (kWd k (aHW 0) aWD (WD) ++ (kPl k (aWD 0) aPL (PL) ++ (kSc k (aWD 1) aSC_2 (SC_2)))))))) (F0 m 26 ls []) := by
      intro n
      induction n with
      | zero =>
        intro stL4 H locs ls G hl hit
        exact (it_zero hit).elim
      | succ n ih =>
        intro stL4 H locs ls G hl hit
        obtain ⟨oL4, hf, hoL4⟩ := it_bd hit
        unfold FX9_ends_26 at hf
        refine lv_iload_n hx hb dX9_ends_26 rfl (lv_at hl 2 rfl) ?_
        refine lv_sipush (v := 200) hx hb dX9_ends_27 (by decide) ?_
        refine lv_icmp_gt (tgt := 68) hx hb dX9_ends_30 (by decide) (fun c5 => ?_) (fun c5 => ?_)
        · replace hf := if_t hf c5
          cases hf
          exact KL4_0 stL4.2 _ _ _ (it_out hoL4) G (lv_sub hl [] rfl)
        · replace hf := if_f hf c5
          refine lv_aload_n hx hb dX9_ends_33 rfl (lv_at hl 0 rfl) ?_
          refine r_get X inw_X9 G 0 rfl rfl 6 (by decide) fl_X9_51 (v := .ref (aHW 6)) rfl dX9_ends_34 ?_
          refine r_get X inw_X3 G 1 rfl rfl 3 (by decide) fl_X9_171 (v := .ref (aSC 0)) rfl dX9_ends_37 ?_
          refine lv_iload_n hx hb dX9_ends_40 rfl (lv_at hl 1 rfl) ?_
          obtain ⟨h6, hf⟩ := ix_some hf
          refine r_iald X G 2 rfl h6 dX9_ends_41 ?_
          refine lv_iconst (v := -1) hx hb dX9_ends_42 (by decide) ?_
          refine lv_icmp_ne (tgt := 48) hx hb dX9_ends_43 (by decide) (fun c7 => ?_) (fun c7 => ?_)
          · replace hf := if_f hf c7
            refine lv_aload_n hx hb dX9_ends_48 rfl (lv_at hl 0 rfl) ?_
            refine r_get X inw_X9 G 0 rfl rfl 6 (by decide) fl_X9_51 (v := .ref (aHW 6)) rfl dX9_ends_49 ?_
            refine lv_aload_n hx hb dX9_ends_52 rfl (lv_at hl 0 rfl) ?_
            refine r_get X inw_X9 G 0 rfl rfl 0 (by decide) fl_X9_10 (v := .ref (aHW 0)) rfl dX9_ends_53 ?_
            refine r_get X inw_X8 G 10 rfl rfl 0 (by decide) fl_X9_81 (v := .ref (aWD 0)) rfl dX9_ends_56 ?_
            obtain ⟨r8, hcr8, hf⟩ := bd_some hf
            refine p_N (st1 := []) (wr := kHw k ot aHW () ++ (kWd k (aHW 0) aWD (WD) ++ (kSc k (aWD 1) aSC_2 (SC_2)))) (ws' := kHw k ot aHW () ++ (kSc k (aHW 6) aSC (r8) ++ (kWd k (aHW 0) aWD (WD) ++ (kPl k (aWD 0) aPL (PL) ++ (kSc k (aWD 1) aSC_2 (SC_2)))))) (run_V (rest := []) X (ctX3_pass hZ (aHW 6) (aWD 0) aSC aPL hcr8) mk_X3_pass ml_X9_244 ⟨(Nat.le_of_ble_eq_true rfl), (Nat.le_of_ble_eq_true rfl)⟩ G [1, 2, 3, 4, 5, 6, 7, 8, 9, 11, 12, 13, 14, 15, 16] rfl rfl 1 rfl rfl rfl hl.1 rfl (Nat.le_of_ble_eq_true rfl) dX9_ends_59 ⟨Nat.zero_le _, Nat.zero_le _⟩) rfl G [1, 2, 3, 4, 5, 6, 7, 8, 9, 11, 12, 13, 14, 15, 16] [0, 10, 17, 18, 19, 20, 21, 22, 23, 24, 25] 26 rfl rfl rfl rfl rfl (by decide) (by decide) rfl (fun H locs G => ?_)
            obtain ⟨x9, ex9, hf⟩ := nm_some hf
            refine lv_iinc (v := x9) (lv' := [(2, .int x9), (0, .ref ot), (1, .int v1)]) hx hb dX9_ends_62 hl (k := 2) rfl (by subst ex9; rfl) (by decide) rfl (fun ls hl => ?_)
            refine lv_goto (tgt := 26) hx hb dX9_ends_65 (by decide) ?_
            cases hf
            exact ih (x9, r8) _ _ _ G (lv_sub hl [1, 2, 0] rfl) hoL4
          · replace hf := if_t hf c7
            cases hf
            exact KL4_1 (stL4.1, stL4.2) _ _ _ (it_out hoL4) G (lv_sub hl [2] rfl)
    exact LL4 nL4 ((0 : Int32), r3) _ _ _ G (lv_sub hl [1, 2, 0] rfl) hitL4
  · replace hf := if_t hf c2
    refine lv_iconst (v := -1) hx hb dX9_ends_8 (by decide) ?_
    cases hf
    exact e_mi X G dX9_ends_9
theorem mk_X9_ends : MV yX9_ends cX9_ends 3 (some .int) 1 := ⟨co_X9_ends, in_X9, im_X9_ends, se_X9_ends, by decide +kernel, by decide +kernel⟩
noncomputable def FX9_told_52 (WD : WdT) (PL : PlT) (v1 : Int32) : (Int32 × Int32 × ScT × VwT) → Option ((Int32 × Int32 × ScT × VwT) ⊕ (Int32 × ScT × VwT)) := fun stL7 =>
  if v1 ≤ stL7.2.1 then (
    some (.inr (stL7.1, stL7.2.2.1, stL7.2.2.2))
  ) else (
    (FX3_pass stL7.2.2.1 PL).bind fun r9 =>
    (FX9_markStalls WD PL stL7.2.2.2 r9).bind fun r10 =>
    (FJ6_bitCount_0f7a4 r10.1).bind fun r11 =>
    nm (stL7.1 + r11) fun x12 =>
    nm (stL7.2.1 + 1) fun x13 =>
    some (.inl (x12, x13, r10.2.2, r10.2.1))
  )
noncomputable def FX9_told (SC : ScT) (WD : WdT) (PL : PlT) (SC_2 : ScT) (VW : VwT) (v1 : Int32) (v2 : Int32) : Option (Int32 × ScT × VwT) :=
  if v1 < (1 : Int32) then (
    some ((-1 : Int32), SC, VW)
  ) else (
    if (200 : Int32) < v1 then (
      some ((-1 : Int32), SC, VW)
    ) else (
      if v2 < (1 : Int32) then (
        some ((-1 : Int32), SC, VW)
      ) else (
        if v2 ≤ (50 : Int32) then (
          (FX3_take SC SC_2).bind fun r5 =>
          nm (sSc_window r5 v2) fun SC6 =>
          (itr (FX9_told_52 WD PL v1) ((0 : Int32), (0 : Int32), SC6, VW)).bind fun uL7 =>
          some (uL7.1, uL7.2.1, uL7.2.2)
        ) else (
          some ((-1 : Int32), SC, VW)
        )
      )
    )
  )
set_option maxHeartbeats 4000000 in
set_option maxRecDepth 100000 in
theorem ctX9_told {l : Launch} {D : va_G} {k : Nat → ClassId} {Z : ZT} (hZ : ZOK Z) (ot : Nat) (aHW : Nat → Nat) (aSC : Nat → Nat) (aWD : Nat → Nat) (aPL : Nat → Nat) (aSC_2 : Nat → Nat) (aVW : Nat → Nat) {SC : ScT} {WD : WdT} {PL : PlT} {SC_2 : ScT} {VW : VwT} {v1 : Int32} {v2 : Int32} {q : Int32 × ScT × VwT} (hf : FX9_told SC WD PL SC_2 VW v1 v2 = some q) :
    CM l D k Z yX9_told cX9_told 5 (some .int) 5 116 [.ref ot, .int v1, .int v2] (some (.int q.1)) (kHw k ot aHW () ++ (kSc k (aHW 6) aSC (SC) ++ (kWd k (aHW 0) aWD (WD) ++ (kPl k (aWD 0) aPL (PL) ++ (kSc k (aWD 1) aSC_2 (SC_2) ++ (kVw k (aHW 4) aVW (VW))))))) (kHw k ot aHW () ++ (kSc k (aHW 6) aSC (q.2.1) ++ (kWd k (aHW 0) aWD (WD) ++ (kPl k (aWD 0) aPL (PL) ++ (kSc k (aWD 1) aSC_2 (SC_2) ++ (kVw k (aHW 4) aVW (q.2.2))))))) := by
  refine CM.start hZ (by decide) (Nat.le_of_ble_eq_true rfl) ?_
  intro p e s m below meth c ls X hl G
  have hx := X.1
  have hb := X.2.1
  have hl : lv_has ls 5 [(0, .ref ot), (1, .int v1), (2, .int v2)] := hl
  unfold FX9_told at hf
  refine lv_iload_n hx hb dX9_told_0 rfl (lv_at hl 1 rfl) ?_
  refine lv_iconst (v := 1) hx hb dX9_told_1 (by decide) ?_
  refine lv_icmp_lt (tgt := 23) hx hb dX9_told_2 (by decide) (fun c1 => ?_) (fun c1 => ?_)
  · replace hf := if_t hf c1
    refine lv_iconst (v := -1) hx hb dX9_told_23 (by decide) ?_
    cases hf
    exact e_mi X G dX9_told_24
  · replace hf := if_f hf c1
    refine lv_iload_n hx hb dX9_told_5 rfl (lv_at hl 1 rfl) ?_
    refine lv_sipush (v := 200) hx hb dX9_told_6 (by decide) ?_
    refine lv_icmp_gt (tgt := 23) hx hb dX9_told_9 (by decide) (fun c2 => ?_) (fun c2 => ?_)
    · replace hf := if_t hf c2
      refine lv_iconst (v := -1) hx hb dX9_told_23 (by decide) ?_
      cases hf
      exact e_mi X G dX9_told_24
    · replace hf := if_f hf c2
      refine lv_iload_n hx hb dX9_told_12 rfl (lv_at hl 2 rfl) ?_
      refine lv_iconst (v := 1) hx hb dX9_told_13 (by decide) ?_
      refine lv_icmp_lt (tgt := 23) hx hb dX9_told_14 (by decide) (fun c3 => ?_) (fun c3 => ?_)
      · replace hf := if_t hf c3
        refine lv_iconst (v := -1) hx hb dX9_told_23 (by decide) ?_
        cases hf
        exact e_mi X G dX9_told_24
      · replace hf := if_f hf c3
        refine lv_iload_n hx hb dX9_told_17 rfl (lv_at hl 2 rfl) ?_
        refine lv_bipush (v := 50) hx hb dX9_told_18 (by decide) ?_
        refine lv_icmp_le (tgt := 25) hx hb dX9_told_20 (by decide) (fun c4 => ?_) (fun c4 => ?_)
        · replace hf := if_t hf c4
          refine lv_aload_n hx hb dX9_told_25 rfl (lv_at hl 0 rfl) ?_
          refine r_get X inw_X9 G 0 rfl rfl 6 (by decide) fl_X9_51 (v := .ref (aHW 6)) rfl dX9_told_26 ?_
          refine lv_aload_n hx hb dX9_told_29 rfl (lv_at hl 0 rfl) ?_
          refine r_get X inw_X9 G 0 rfl rfl 0 (by decide) fl_X9_10 (v := .ref (aHW 0)) rfl dX9_told_30 ?_
          refine r_get X inw_X8 G 10 rfl rfl 1 (by decide) fl_X9_97 (v := .ref (aWD 1)) rfl dX9_told_33 ?_
          obtain ⟨r5, hcr5, hf⟩ := bd_some hf
          refine p_N (st1 := []) (wr := kHw k ot aHW () ++ (kWd k (aHW 0) aWD (WD) ++ (kPl k (aWD 0) aPL (PL) ++ (kVw k (aHW 4) aVW (VW))))) (ws' := kHw k ot aHW () ++ (kSc k (aHW 6) aSC (r5) ++ (kWd k (aHW 0) aWD (WD) ++ (kPl k (aWD 0) aPL (PL) ++ (kSc k (aWD 1) aSC_2 (SC_2) ++ (kVw k (aHW 4) aVW (VW))))))) (run_V (rest := []) X (ctX3_take hZ (aHW 6) (aWD 1) aSC aSC_2 hcr5) mk_X3_take ml_X9_241 ⟨(Nat.le_of_ble_eq_true rfl), (Nat.le_of_ble_eq_true rfl)⟩ G [1, 2, 3, 4, 5, 6, 7, 8, 9, 17, 18, 19, 20, 21, 22, 23, 24, 25] rfl rfl 1 rfl rfl rfl hl.1 rfl (Nat.le_of_ble_eq_true rfl) dX9_told_36 ⟨Nat.zero_le _, Nat.zero_le _⟩) rfl G [1, 2, 3, 4, 5, 6, 7, 8, 9, 17, 18, 19, 20, 21, 22, 23, 24, 25] [0, 10, 11, 12, 13, 14, 15, 16, 26, 27, 28, 29] 30 rfl rfl rfl rfl rfl (by decide) (by decide) rfl (fun H locs G => ?_)
          refine lv_aload_n hx hb dX9_told_39 rfl (lv_at hl 0 rfl) ?_
          refine r_get X inw_X9 G 0 rfl rfl 6 (by decide) fl_X9_51 (v := .ref (aHW 6)) rfl dX9_told_40 ?_
          refine lv_iload_n hx hb dX9_told_43 rfl (lv_at hl 2 rfl) ?_
          obtain ⟨SC6, eSC6, hf⟩ := nm_some hf
          refine r_put X inw_X3 tyX3 tyX3_ok nmX3 G 1 rfl rfl 1 (by decide) fl_X9_145 rfl rfl rfl (Nat.le_of_ble_eq_true rfl) (ws' := kHw k ot aHW () ++ (kSc k (aHW 6) aSC (SC6) ++ (kWd k (aHW 0) aWD (WD) ++ (kPl k (aWD 0) aPL (PL) ++ (kSc k (aWD 1) aSC_2 (SC_2) ++ (kVw k (aHW 4) aVW (VW))))))) (by subst eSC6; rfl) dX9_told_44 (fun H locs G => ?_)
          refine lv_iconst (v := 0) hx hb dX9_told_47 (by decide) ?_
          refine lv_istore_n (lv' := [(3, .int (0 : Int32)), (0, .ref ot), (1, .int v1), (2, .int v2)]) hx hb dX9_told_48 rfl hl (by decide) rfl (fun ls hl => ?_)
          refine lv_iconst (v := 0) hx hb dX9_told_49 (by decide) ?_
          refine lv_istore (lv' := [(4, .int (0 : Int32)), (3, .int (0 : Int32)), (0, .ref ot), (1, .int v1), (2, .int v2)]) hx hb dX9_told_50 hl (by decide) rfl (fun ls hl => ?_)
          obtain ⟨exL7, hitL7, hfL7⟩ := bd_some hf
          obtain ⟨nL7, hitL7⟩ := itr_ex hitL7
          have KL7_0 : ∀ (u : Int32 × ScT × VwT) (H : Heap) (locs : List Loc) (ls : Array Slot), exL7 = u → Wo D (wA (kHw k ot aHW () ++ (kSc k (aHW 6) aSC (SC) ++ (kWd k (aHW 0) aWD (WD) ++ (kPl k (aWD 0) aPL (PL) ++ (kSc k (aWD 1) aSC_2 (SC_2) ++ (kVw k (aHW 4) aVW (VW)))))))) s.heap (kHw k ot aHW () ++ (kSc k (aHW 6) aSC (u.2.1) ++ (kWd k (aHW 0) aWD (WD) ++ (kPl k (aWD 0) aPL (PL) ++ (kSc k (aWD 1) aSC_2 (SC_2) ++ (kVw k (aHW 4) aVW (u.2.2))))))) H locs → lv_has ls 5 [(3, .int (u.1))] → W p l e (rmz 5 116) s m [.ref ot, .int v1, .int v2].toArray below meth c H locs 0 0 (MQ below (Qm D (some (.int q.1)) (kHw k ot aHW () ++ (kSc k (aHW 6) aSC (SC) ++ (kWd k (aHW 0) aWD (WD) ++ (kPl k (aWD 0) aPL (PL) ++ (kSc k (aWD 1) aSC_2 (SC_2) ++ (kVw k (aHW 4) aVW (VW))))))) (kHw k ot aHW () ++ (kSc k (aHW 6) aSC (q.2.1) ++ (kWd k (aHW 0) aWD (WD) ++ (kPl k (aWD 0) aPL (PL) ++ (kSc k (aWD 1) aSC_2 (SC_2) ++ (kVw k (aHW 4) aVW (q.2.2)))))))) [.ref ot, .int v1, .int v2].toArray s 0 0 (wA (kHw k ot aHW () ++ (kSc k (aHW 6) aSC (SC) ++ (kWd k (aHW 0) aWD (WD) ++ (kPl k (aWD 0) aPL (PL) ++ (kSc k (aWD 1) aSC_2 (SC_2) ++ (kVw k (aHW 4) aVW (VW))))))))) (F0 m 92 ls []) := by
            intro uL7 H locs ls hex G hl
            rw [hex] at hfL7
            have hf := hfL7
            refine lv_iload_n hx hb dX9_told_92 rfl (lv_at hl 0 rfl) ?_
            cases hf
            exact e_mi X G dX9_told_93
          have LL7 : ∀ (n : Nat) (stL7 : Int32 × Int32 × ScT × VwT) (H : Heap) (locs : List Loc) (ls : Array Slot), Wo D (wA (kHw k ot aHW () ++ (kSc k (aHW 6) aSC (SC) ++ (kWd k (aHW 0) aWD (WD) ++ (kPl k (aWD 0) aPL (PL) ++ (kSc k (aWD 1) aSC_2 (SC_2) ++ (kVw k (aHW 4) aVW (VW)))))))) s.heap (kHw k ot aHW () ++ (kSc k (aHW 6) aSC (stL7.2.2.1) ++ (kWd k (aHW 0) aWD (WD) ++ (kPl k (aWD 0) aPL (PL) ++ (kSc k (aWD 1) aSC_2 (SC_2) ++ (kVw k (aHW 4) aVW (stL7.2.2.2))))))) H locs → lv_has ls 5 [(0, .ref ot), (1, .int v1), (3, .int (stL7.1)), (4, .int (stL7.2.1))] → it (FX9_told_52 WD PL v1) n stL7 = some exL7 → W p l e (rmz 5 116) s m [.ref ot, .int v1, .int v2].toArray below meth c H locs 0 0 (MQ below (Qm D (some (.int q.1)) (kHw k ot aHW () ++ (kSc k (aHW 6) aSC (SC) ++ (kWd k (aHW 0) aWD (WD) ++ (kPl k (aWD 0) aPL (PL) ++ (kSc k (aWD 1) aSC_2 (SC_2) ++ (kVw k (aHW 4) aVW (VW))))))) (kHw k ot aHW () ++ (kSc k (aHW 6) aSC (q.2.1) ++ (kWd k (aHW 0) aWD (WD) ++ (kPl k (aWD 0) aPL (PL) ++ (kSc k (aWD 1) aSC_2 (SC_2) ++ (kVw k (aHW 4) aVW (q.2.2)))))))) [.ref ot, .int v1, .int v2].toArray s 0 0 (wA (kHw k ot aHW () ++ (kSc k (aHW 6) aSC (SC) ++ (kWd k (aHW 0) aWD (WD) ++ (kPl k (aWD 0) aPL (PL) ++ (kSc k (aWD 1) aSC_2 (SC_2) ++ (kVw k (aHW 4) aVW (VW))))))))) (F0 m 52 ls []) := by
            intro n
            induction n with
            | zero =>
              intro stL7 H locs ls G hl hit
              exact (it_zero hit).elim
            | succ n ih =>
              intro stL7 H locs ls G hl hit
              obtain ⟨oL7, hf, hoL7⟩ := it_bd hit
              unfold FX9_told_52 at hf
              refine lv_iload hx hb dX9_told_52 (lv_at hl 3 rfl) ?_
              refine lv_iload_n hx hb dX9_told_54 rfl (lv_at hl 1 rfl) ?_
              refine lv_icmp_ge (tgt := 92) hx hb dX9_told_55 (by decide) (fun c8 => ?_) (fun c8 => ?_)
              · replace hf := if_t hf c8
                cases hf
                exact KL7_0 (stL7.1, stL7.2.2.1, stL7.2.2.2) _ _ _ (it_out hoL7) G (lv_sub hl [2] rfl)
              · replace hf := if_f hf c8
                refine lv_aload_n hx hb dX9_told_58 rfl (lv_at hl 0 rfl) ?_
                refine r_get X inw_X9 G 0 rfl rfl 6 (by decide) fl_X9_51 (v := .ref (aHW 6)) rfl dX9_told_59 ?_
                refine lv_aload_n hx hb dX9_told_62 rfl (lv_at hl 0 rfl) ?_
                refine r_get X inw_X9 G 0 rfl rfl 0 (by decide) fl_X9_10 (v := .ref (aHW 0)) rfl dX9_told_63 ?_
                refine r_get X inw_X8 G 10 rfl rfl 0 (by decide) fl_X9_81 (v := .ref (aWD 0)) rfl dX9_told_66 ?_
                obtain ⟨r9, hcr9, hf⟩ := bd_some hf
                refine p_N (st1 := []) (wr := kHw k ot aHW () ++ (kWd k (aHW 0) aWD (WD) ++ (kSc k (aWD 1) aSC_2 (SC_2) ++ (kVw k (aHW 4) aVW (stL7.2.2.2))))) (ws' := kHw k ot aHW () ++ (kSc k (aHW 6) aSC (r9) ++ (kWd k (aHW 0) aWD (WD) ++ (kPl k (aWD 0) aPL (PL) ++ (kSc k (aWD 1) aSC_2 (SC_2) ++ (kVw k (aHW 4) aVW (stL7.2.2.2))))))) (run_V (rest := []) X (ctX3_pass hZ (aHW 6) (aWD 0) aSC aPL hcr9) mk_X3_pass ml_X9_244 ⟨(Nat.le_of_ble_eq_true rfl), (Nat.le_of_ble_eq_true rfl)⟩ G [1, 2, 3, 4, 5, 6, 7, 8, 9, 11, 12, 13, 14, 15, 16] rfl rfl 1 rfl rfl rfl hl.1 rfl (Nat.le_of_ble_eq_true rfl) dX9_told_69 ⟨Nat.zero_le _, Nat.zero_le _⟩) rfl G [1, 2, 3, 4, 5, 6, 7, 8, 9, 11, 12, 13, 14, 15, 16] [0, 10, 17, 18, 19, 20, 21, 22, 23, 24, 25, 26, 27, 28, 29] 30 rfl rfl rfl rfl rfl (by decide) (by decide) rfl (fun H locs G => ?_)
                refine lv_iload_n hx hb dX9_told_72 rfl (lv_at hl 2 rfl) ?_
                refine lv_aload_n hx hb dX9_told_73 rfl (lv_at hl 0 rfl) ?_
                refine lv_aload_n hx hb dX9_told_74 rfl (lv_at hl 0 rfl) ?_
                refine r_get X inw_X9 G 0 rfl rfl 6 (by decide) fl_X9_51 (v := .ref (aHW 6)) rfl dX9_told_75 ?_
                obtain ⟨r10, hcr10, hf⟩ := bd_some hf
                refine p_N (st1 := [.int (r10.1), .int (stL7.1)]) (wr := kSc k (aWD 1) aSC_2 (SC_2)) (ws' := kHw k ot aHW () ++ (kSc k (aHW 6) aSC (r10.2.2) ++ (kWd k (aHW 0) aWD (WD) ++ (kPl k (aWD 0) aPL (PL) ++ (kSc k (aWD 1) aSC_2 (SC_2) ++ (kVw k (aHW 4) aVW (r10.2.1))))))) (run_V (rest := [.int (stL7.1)]) X (ctX9_markStalls hZ ot (aHW 6) aHW aWD aPL aVW aSC hcr10) mk_X9_markStalls ml_X9_251 ⟨(Nat.le_of_ble_eq_true rfl), (Nat.le_of_ble_eq_true rfl)⟩ G [0, 10, 11, 12, 13, 14, 15, 16, 26, 27, 28, 29, 1, 2, 3, 4, 5, 6, 7, 8, 9] rfl rfl 0 rfl rfl rfl hl.1 rfl (Nat.le_of_ble_eq_true rfl) dX9_told_78 ⟨Nat.zero_le _, Nat.zero_le _⟩) rfl G [0, 10, 11, 12, 13, 14, 15, 16, 26, 27, 28, 29, 1, 2, 3, 4, 5, 6, 7, 8, 9] [17, 18, 19, 20, 21, 22, 23, 24, 25] 30 rfl rfl rfl rfl rfl (by decide) (by decide) rfl (fun H locs G => ?_)
                obtain ⟨r11, hcr11, hf⟩ := bd_some hf
                refine p_R (st1 := [.int r11, .int (stL7.1)]) (run_S (rest := [.int (stL7.1)]) X (ctJ6_bitCount_0f7a4 hZ hcr11) mk_J6_bitCount_0f7a4 ml_X9_255 ⟨(Nat.le_of_ble_eq_true rfl), (Nat.le_of_ble_eq_true rfl)⟩ G [] rfl rfl rfl hl.1 rfl (Nat.le_of_ble_eq_true rfl) dX9_told_81 ⟨Nat.zero_le _, Nat.zero_le _⟩) rfl ?_
                refine lv_iadd hx hb dX9_told_84 ?_
                obtain ⟨x12, ex12, hf⟩ := nm_some hf
                refine r_top (congrArg Value.int ex12) ?_
                refine lv_istore_n (lv' := [(3, .int x12), (0, .ref ot), (1, .int v1), (4, .int (stL7.2.1))]) hx hb dX9_told_85 rfl hl (by decide) rfl (fun ls hl => ?_)
                obtain ⟨x13, ex13, hf⟩ := nm_some hf
                refine lv_iinc (v := x13) (lv' := [(4, .int x13), (3, .int x12), (0, .ref ot), (1, .int v1)]) hx hb dX9_told_86 hl (k := 3) rfl (by subst ex13; rfl) (by decide) rfl (fun ls hl => ?_)
                refine lv_goto (tgt := 52) hx hb dX9_told_89 (by decide) ?_
                cases hf
                exact ih (x12, x13, r10.2.2, r10.2.1) _ _ _ G (lv_sub hl [2, 3, 1, 0] rfl) hoL7
          exact LL7 nL7 ((0 : Int32), (0 : Int32), SC6, VW) _ _ _ G (lv_sub hl [2, 3, 1, 0] rfl) hitL7
        · replace hf := if_f hf c4
          refine lv_iconst (v := -1) hx hb dX9_told_23 (by decide) ?_
          cases hf
          exact e_mi X G dX9_told_24
theorem mk_X9_told : MV yX9_told cX9_told 5 (some .int) 2 := ⟨co_X9_told, in_X9, im_X9_told, se_X9_told, by decide +kernel, by decide +kernel⟩
noncomputable def FX9_fewest (WD : WdT) (PL : PlT) (SC : ScT) (TR : TrT) (SC_2 : ScT) (VW : VwT) (VW_2 : VwT) (v1 : Int32) : Option (Int32 × ScT × VwT × VwT) :=
  (FX9_lookNow WD PL SC VW_2).bind fun r1 =>
  (FX6_fewestOf TR SC_2 VW PL SC (Vw_heldUp r1)).bind fun r2 =>
  if r2.1 = (-1 : Int32) then (
    some (r2.1, r2.2.1, r2.2.2, r1)
  ) else (
    if v1 = 0 then (
      (FJ6_bitCount_0f7a4 r2.1).bind fun r5 =>
      some (r5, r2.2.1, r2.2.2, r1)
    ) else (
      some (r2.1, r2.2.1, r2.2.2, r1)
    )
  )
set_option maxHeartbeats 4000000 in
set_option maxRecDepth 100000 in
theorem ctX9_fewest {l : Launch} {D : va_G} {k : Nat → ClassId} {Z : ZT} (hZ : ZOK Z) (ot : Nat) (aHW : Nat → Nat) (aWD : Nat → Nat) (aPL : Nat → Nat) (aSC : Nat → Nat) (aTR : Nat → Nat) (aSC_2 : Nat → Nat) (aVW : Nat → Nat) (aVW_2 : Nat → Nat) {WD : WdT} {PL : PlT} {SC : ScT} {TR : TrT} {SC_2 : ScT} {VW : VwT} {VW_2 : VwT} {v1 : Int32} {q : Int32 × ScT × VwT × VwT} (hf : FX9_fewest WD PL SC TR SC_2 VW VW_2 v1 = some q) :
    CM l D k Z yX9_fewest cX9_fewest 3 (some .int) 6 143 [.ref ot, .int v1] (some (.int q.1)) (kHw k ot aHW () ++ (kWd k (aHW 0) aWD (WD) ++ (kPl k (aWD 0) aPL (PL) ++ (kSc k (aWD 1) aSC (SC) ++ (kTr k (aHW 5) aTR (TR) ++ (kSc k (aTR 0) aSC_2 (SC_2) ++ (kVw k (aTR 1) aVW (VW) ++ (kVw k (aHW 4) aVW_2 (VW_2))))))))) (kHw k ot aHW () ++ (kWd k (aHW 0) aWD (WD) ++ (kPl k (aWD 0) aPL (PL) ++ (kSc k (aWD 1) aSC (SC) ++ (kTr k (aHW 5) aTR (TR) ++ (kSc k (aTR 0) aSC_2 (q.2.1) ++ (kVw k (aTR 1) aVW (q.2.2.1) ++ (kVw k (aHW 4) aVW_2 (q.2.2.2))))))))) := by
  refine CM.start hZ (by decide) (Nat.le_of_ble_eq_true rfl) ?_
  intro p e s m below meth c ls X hl G
  have hx := X.1
  have hb := X.2.1
  have hl : lv_has ls 3 [(0, .ref ot), (1, .int v1)] := hl
  unfold FX9_fewest at hf
  refine lv_aload_n hx hb dX9_fewest_0 rfl (lv_at hl 0 rfl) ?_
  obtain ⟨r1, hcr1, hf⟩ := bd_some hf
  refine p_N (st1 := []) (wr := kTr k (aHW 5) aTR (TR) ++ (kSc k (aTR 0) aSC_2 (SC_2) ++ (kVw k (aTR 1) aVW (VW)))) (ws' := kHw k ot aHW () ++ (kWd k (aHW 0) aWD (WD) ++ (kPl k (aWD 0) aPL (PL) ++ (kSc k (aWD 1) aSC (SC) ++ (kTr k (aHW 5) aTR (TR) ++ (kSc k (aTR 0) aSC_2 (SC_2) ++ (kVw k (aTR 1) aVW (VW) ++ (kVw k (aHW 4) aVW_2 (r1))))))))) (run_V (rest := []) X (ctX9_lookNow hZ ot aHW aWD aPL aSC aVW_2 hcr1) mk_X9_lookNow ml_X9_128 ⟨(Nat.le_of_ble_eq_true rfl), (Nat.le_of_ble_eq_true rfl)⟩ G [0, 1, 2, 3, 4, 5, 6, 7, 8, 9, 10, 11, 12, 13, 14, 15, 16, 32, 33, 34, 35] rfl rfl 0 rfl rfl rfl hl.1 rfl (Nat.le_of_ble_eq_true rfl) dX9_fewest_1 ⟨Nat.zero_le _, Nat.zero_le _⟩) rfl G [0, 1, 2, 3, 4, 5, 6, 7, 8, 9, 10, 11, 12, 13, 14, 15, 16, 32, 33, 34, 35] [17, 18, 19, 20, 21, 22, 23, 24, 25, 26, 27, 28, 29, 30, 31] 36 rfl rfl rfl rfl rfl (by decide) (by decide) rfl (fun H locs G => ?_)
  refine lv_aload_n hx hb dX9_fewest_4 rfl (lv_at hl 0 rfl) ?_
  refine r_get X inw_X9 G 0 rfl rfl 5 (by decide) fl_X9_44 (v := .ref (aHW 5)) rfl dX9_fewest_5 ?_
  refine lv_aload_n hx hb dX9_fewest_8 rfl (lv_at hl 0 rfl) ?_
  refine r_get X inw_X9 G 0 rfl rfl 0 (by decide) fl_X9_10 (v := .ref (aHW 0)) rfl dX9_fewest_9 ?_
  refine r_get X inw_X8 G 1 rfl rfl 0 (by decide) fl_X9_81 (v := .ref (aWD 0)) rfl dX9_fewest_12 ?_
  refine lv_aload_n hx hb dX9_fewest_15 rfl (lv_at hl 0 rfl) ?_
  refine r_get X inw_X9 G 0 rfl rfl 0 (by decide) fl_X9_10 (v := .ref (aHW 0)) rfl dX9_fewest_16 ?_
  refine r_get X inw_X8 G 1 rfl rfl 1 (by decide) fl_X9_97 (v := .ref (aWD 1)) rfl dX9_fewest_19 ?_
  refine lv_aload_n hx hb dX9_fewest_22 rfl (lv_at hl 0 rfl) ?_
  refine r_get X inw_X9 G 0 rfl rfl 4 (by decide) fl_X9_37 (v := .ref (aHW 4)) rfl dX9_fewest_23 ?_
  refine r_get X inw_X7 G 32 rfl rfl 2 (by decide) fl_X9_131 (v := .int (Vw_heldUp r1)) rfl dX9_fewest_26 ?_
  obtain ⟨r2, hcr2, hf⟩ := bd_some hf
  refine p_N (st1 := [.int (r2.1)]) (wr := kHw k ot aHW () ++ (kWd k (aHW 0) aWD (WD) ++ (kVw k (aHW 4) aVW_2 (r1)))) (ws' := kHw k ot aHW () ++ (kWd k (aHW 0) aWD (WD) ++ (kPl k (aWD 0) aPL (PL) ++ (kSc k (aWD 1) aSC (SC) ++ (kTr k (aHW 5) aTR (TR) ++ (kSc k (aTR 0) aSC_2 (r2.2.1) ++ (kVw k (aTR 1) aVW (r2.2.2) ++ (kVw k (aHW 4) aVW_2 (r1))))))))) (run_V (rest := []) X (ctX6_fewestOf hZ (aHW 5) (aWD 0) (aWD 1) aTR aSC_2 aVW aPL aSC hcr2) mk_X6_fewestOf ml_X9_260 ⟨(Nat.le_of_ble_eq_true rfl), (Nat.le_of_ble_eq_true rfl)⟩ G [17, 18, 19, 20, 21, 22, 23, 24, 25, 26, 27, 28, 29, 30, 31, 2, 3, 4, 5, 6, 7, 8, 9, 10, 11, 12, 13, 14, 15, 16] rfl rfl 17 rfl rfl rfl hl.1 rfl (Nat.le_of_ble_eq_true rfl) dX9_fewest_29 ⟨Nat.zero_le _, Nat.zero_le _⟩) rfl G [17, 18, 19, 20, 21, 22, 23, 24, 25, 26, 27, 28, 29, 30, 31, 2, 3, 4, 5, 6, 7, 8, 9, 10, 11, 12, 13, 14, 15, 16] [0, 1, 32, 33, 34, 35] 36 rfl rfl rfl rfl rfl (by decide) (by decide) rfl (fun H locs G => ?_)
  refine lv_istore_n (lv' := [(2, .int (r2.1)), (0, .ref ot), (1, .int v1)]) hx hb dX9_fewest_32 rfl hl (by decide) rfl (fun ls hl => ?_)
  refine lv_iload_n hx hb dX9_fewest_33 rfl (lv_at hl 0 rfl) ?_
  refine lv_iconst (v := -1) hx hb dX9_fewest_34 (by decide) ?_
  refine lv_icmp_eq (tgt := 42) hx hb dX9_fewest_35 (by decide) (fun c3 => ?_) (fun c3 => ?_)
  · replace hf := if_t hf c3
    refine lv_iload_n hx hb dX9_fewest_42 rfl (lv_at hl 0 rfl) ?_
    cases hf
    exact e_mi X G dX9_fewest_43
  · replace hf := if_f hf c3
    refine lv_iload_n hx hb dX9_fewest_38 rfl (lv_at hl 2 rfl) ?_
    refine lv_if_eq (tgt := 44) hx hb dX9_fewest_39 (by decide) (fun c4 => ?_) (fun c4 => ?_)
    · replace hf := if_t hf c4
      refine lv_iload_n hx hb dX9_fewest_44 rfl (lv_at hl 0 rfl) ?_
      obtain ⟨r5, hcr5, hf⟩ := bd_some hf
      refine p_R (st1 := [.int r5]) (run_S (rest := []) X (ctJ6_bitCount_0f7a4 hZ hcr5) mk_J6_bitCount_0f7a4 ml_X9_255 ⟨(Nat.le_of_ble_eq_true rfl), (Nat.le_of_ble_eq_true rfl)⟩ G [] rfl rfl rfl hl.1 rfl (Nat.le_of_ble_eq_true rfl) dX9_fewest_45 ⟨Nat.zero_le _, Nat.zero_le _⟩) rfl ?_
      cases hf
      exact e_mi X G dX9_fewest_48
    · replace hf := if_f hf c4
      refine lv_iload_n hx hb dX9_fewest_42 rfl (lv_at hl 0 rfl) ?_
      cases hf
      exact e_mi X G dX9_fewest_43
theorem mk_X9_fewest : MV yX9_fewest cX9_fewest 3 (some .int) 1 := ⟨co_X9_fewest, in_X9, im_X9_fewest, se_X9_fewest, by decide +kernel, by decide +kernel⟩
