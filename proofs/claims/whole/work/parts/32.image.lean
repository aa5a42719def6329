theorem in3 {x : Int32} (h0 : ¬ x < 0) (h1 : x < 3) : vp_in x 3 := by
  rw [vp_in_iff]
  have h2 := Int32.not_lt.mp h0
  rw [Int32.le_iff_toInt_le] at h2
  rw [Int32.lt_iff_toInt_lt] at h1
  exact ⟨h2, h1⟩
theorem out3 {x : Int32} (h : vp_in x 3) : ¬ x < 0 ∧ x < 3 := by
  rw [vp_in_iff] at h
  refine ⟨fun z => ?_, ?_⟩
  · rw [Int32.lt_iff_toInt_lt] at z
    have h3 : (0 : Int32).toInt = 0 := rfl
    omega
  · rw [Int32.lt_iff_toInt_lt]
    exact h.2
theorem mk_X9_image : MV yX9_image cX9_image 2 (some .boolean) 1 := ⟨co_X9_image, in_X9, im_X9_image, se_X9_image, by decide +kernel, by decide +kernel⟩
theorem mk_X9_again : MV yX9_again cX9_again 2 (some .boolean) 1 := ⟨co_X9_again, in_X9, im_X9_again, se_X9_again, by decide +kernel, by decide +kernel⟩
theorem ct_image_out {l : Launch} {D : va_G} {k : Nat → ClassId} {Z : ZT} (hZ : ZOK Z) (ot : Nat) {v1 : Int32} (hi : ¬ vp_in v1 3) : CR l D k Z yX9_image cX9_image 2 (some .boolean) 4 103 [.ref ot, .int v1] (some (.int (bI false))) [] := by
  refine CR.start hZ (by decide) (Nat.le_of_ble_eq_true rfl) ?_
  intro p e s m below meth c ls X hl G
  have hx := X.1
  have hb := X.2.1
  have hl : lv_has ls 2 [(0, .ref ot), (1, .int v1)] := hl
  refine lv_iload_n hx hb dX9_image_0 rfl (lv_at hl 1 rfl) ?_
  refine lv_if_lt (tgt := 9) hx hb dX9_image_1 (by decide) (fun c1 => ?_) (fun c1 => ?_)
  · refine lv_iconst (v := 0) hx hb dX9_image_9 (by decide) ?_
    exact e_rz _ rfl X dX9_image_10
  · refine lv_iload_n hx hb dX9_image_4 rfl (lv_at hl 1 rfl) ?_
    refine lv_iconst (v := 3) hx hb dX9_image_5 (by decide) ?_
    refine lv_icmp_lt (tgt := 11) hx hb dX9_image_6 (by decide) (fun z => absurd (in3 c1 z) hi) (fun _ => ?_)
    refine lv_iconst (v := 0) hx hb dX9_image_9 (by decide) ?_
    exact e_rz _ rfl X dX9_image_10
theorem ct_again_out {l : Launch} {D : va_G} {k : Nat → ClassId} {Z : ZT} (hZ : ZOK Z) (ot : Nat) {v1 : Int32} (hi : ¬ vp_in v1 3) : CR l D k Z yX9_again cX9_again 2 (some .boolean) 4 103 [.ref ot, .int v1] (some (.int (bI false))) [] := by
  refine CR.start hZ (by decide) (Nat.le_of_ble_eq_true rfl) ?_
  intro p e s m below meth c ls X hl G
  have hx := X.1
  have hb := X.2.1
  have hl : lv_has ls 2 [(0, .ref ot), (1, .int v1)] := hl
  refine lv_iload_n hx hb dX9_again_0 rfl (lv_at hl 1 rfl) ?_
  refine lv_if_lt (tgt := 18) hx hb dX9_again_1 (by decide) (fun c1 => ?_) (fun c1 => ?_)
  · refine lv_iconst (v := 0) hx hb dX9_again_18 (by decide) ?_
    exact e_rz _ rfl X dX9_again_19
  · refine lv_iload_n hx hb dX9_again_4 rfl (lv_at hl 1 rfl) ?_
    refine lv_iconst (v := 3) hx hb dX9_again_5 (by decide) ?_
    refine lv_icmp_ge (tgt := 18) hx hb dX9_again_6 (by decide) (fun _ => ?_) (fun z => absurd (in3 c1 (Int32.not_le.mp z)) hi)
    refine lv_iconst (v := 0) hx hb dX9_again_18 (by decide) ?_
    exact e_rz _ rfl X dX9_again_19
theorem ct_again_none {l : Launch} {D : va_G} {k : Nat → ClassId} {Z : ZT} (hZ : ZOK Z) (ot : Nat) (aHW : Nat → Nat) {im : Nat → Option Nat} {v1 : Int32} (hi : vp_in v1 3) (him : im v1.toNatClampNeg = none) : CR l D k Z yX9_again cX9_again 2 (some .boolean) 4 103 [.ref ot, .int v1] (some (.int (bI false))) (kHw k ot aHW () ++ ([(aHW 1, .inl (k 5, 3, .inr (.inr (.inr (.inr (im))))))])) := by
  refine CR.start hZ (by decide) (Nat.le_of_ble_eq_true rfl) ?_
  intro p e s m below meth c ls X hl G
  have hx := X.1
  have hb := X.2.1
  have hl : lv_has ls 2 [(0, .ref ot), (1, .int v1)] := hl
  refine lv_iload_n hx hb dX9_again_0 rfl (lv_at hl 1 rfl) ?_
  refine lv_if_lt (tgt := 18) hx hb dX9_again_1 (by decide) (fun c1 => absurd c1 (out3 hi).1) (fun c1 => ?_)
  refine lv_iload_n hx hb dX9_again_4 rfl (lv_at hl 1 rfl) ?_
  refine lv_iconst (v := 3) hx hb dX9_again_5 (by decide) ?_
  refine lv_icmp_ge (tgt := 18) hx hb dX9_again_6 (by decide) (fun z => absurd (out3 hi).2 (Int32.not_lt.mpr z)) (fun _ => ?_)
  refine lv_aload_n hx hb dX9_again_9 rfl (lv_at hl 0 rfl) ?_
  refine r_get X inw_X9 G 0 rfl rfl 1 (by decide) fl_X9_16 (v := .ref (aHW 1)) rfl dX9_again_10 ?_
  refine lv_iload_n hx hb dX9_again_13 rfl (lv_at hl 1 rfl) ?_
  refine r_aldq X G 1 5 rfl rfl hi (v := .null) (by rw [him]; rfl) dX9_again_14 ?_
  refine lv_ifnonnullN hx hb dX9_again_15 ?_
  refine lv_iconst (v := 0) hx hb dX9_again_18 (by decide) ?_
  exact e_rz _ rfl X dX9_again_19
set_option maxHeartbeats 4000000 in
set_option maxRecDepth 100000 in
theorem ct_again_some {l : Launch} {D : va_G} {k : Nat → ClassId} {Z : ZT} (hZ : ZOK Z) (ot : Nat) (aHW : Nat → Nat) (o : Nat) (aWn : Nat → Nat) (aPn : Nat → Nat) (aSn : Nat → Nat) (aKn : Nat → Nat) (aTn : Nat → Nat) (aWi : Nat → Nat) (aPi : Nat → Nat) (aSi : Nat → Nat) (aKi : Nat → Nat) (aTi : Nat → Nat) (aHI : Nat → Nat) {im : Nat → Option Nat} {Wn : WdT} {Pn : PlT} {Sn : ScT} {Kn : SkT} {Tn : TpT} {Wi : WdT} {Pi : PlT} {Si : ScT} {Ki : SkT} {Ti : TpT} {HI q2 : HiT} {q : WdT × PlT × ScT × SkT × TpT} {v1 : Int32} (hi : vp_in v1 3) (him : im v1.toNatClampNeg = some o) (hf : FX8_take Wn Pn Sn Kn Tn Wi Pi Si Ki Ti = some q) (hf2 : FX0_clear HI = some q2) : CM l D k Z yX9_again cX9_again 2 (some .boolean) 4 103 [.ref ot, .int v1] (some (.int (bI true))) (kHw k ot aHW () ++ ([(aHW 1, .inl (k 5, 3, .inr (.inr (.inr (.inr (im))))))] ++ (kWd k (aHW 0) aWn Wn ++ (kPl k (aWn 0) aPn Pn ++ (kSc k (aWn 1) aSn Sn ++ (kSk k (aWn 2) aKn Kn ++ (kTp k (aWn 3) aTn Tn)))) ++ (kWd k o aWi Wi ++ (kPl k (aWi 0) aPi Pi ++ (kSc k (aWi 1) aSi Si ++ (kSk k (aWi 2) aKi Ki ++ (kTp k (aWi 3) aTi Ti)))) ++ (kHi k (aHW 2) aHI HI))))) (kHw k ot aHW () ++ ([(aHW 1, .inl (k 5, 3, .inr (.inr (.inr (.inr (im))))))] ++ (kWd k (aHW 0) aWn q.1 ++ (kPl k (aWn 0) aPn q.2.1 ++ (kSc k (aWn 1) aSn q.2.2.1 ++ (kSk k (aWn 2) aKn q.2.2.2.1 ++ (kTp k (aWn 3) aTn q.2.2.2.2)))) ++ (kWd k o aWi Wi ++ (kPl k (aWi 0) aPi Pi ++ (kSc k (aWi 1) aSi Si ++ (kSk k (aWi 2) aKi Ki ++ (kTp k (aWi 3) aTi Ti)))) ++ (kHi k (aHW 2) aHI q2))))) := by
  refine CM.start hZ (by decide) (Nat.le_of_ble_eq_true rfl) ?_
  intro p e s m below meth c ls X hl G
  have hx := X.1
  have hb := X.2.1
  have hl : lv_has ls 2 [(0, .ref ot), (1, .int v1)] := hl
  refine lv_iload_n hx hb dX9_again_0 rfl (lv_at hl 1 rfl) ?_
  refine lv_if_lt (tgt := 18) hx hb dX9_again_1 (by decide) (fun c1 => absurd c1 (out3 hi).1) (fun c1 => ?_)
  refine lv_iload_n hx hb dX9_again_4 rfl (lv_at hl 1 rfl) ?_
  refine lv_iconst (v := 3) hx hb dX9_again_5 (by decide) ?_
  refine lv_icmp_ge (tgt := 18) hx hb dX9_again_6 (by decide) (fun z => absurd (out3 hi).2 (Int32.not_lt.mpr z)) (fun _ => ?_)
  refine lv_aload_n hx hb dX9_again_9 rfl (lv_at hl 0 rfl) ?_
  refine r_get X inw_X9 G 0 rfl rfl 1 (by decide) fl_X9_16 (v := .ref (aHW 1)) rfl dX9_again_10 ?_
  refine lv_iload_n hx hb dX9_again_13 rfl (lv_at hl 1 rfl) ?_
  refine r_aldq X G 1 5 rfl rfl hi (v := .ref o) (by rw [him]; rfl) dX9_again_14 ?_
  refine lv_ifnonnull (tgt := 20) hx hb dX9_again_15 (by decide) ?_
  refine lv_aload_n hx hb dX9_again_20 rfl (lv_at hl 0 rfl) ?_
  refine r_get X inw_X9 G 0 rfl rfl 0 (by decide) fl_X9_10 (v := .ref (aHW 0)) rfl dX9_again_21 ?_
  refine lv_aload_n hx hb dX9_again_24 rfl (lv_at hl 0 rfl) ?_
  refine r_get X inw_X9 G 0 rfl rfl 1 (by decide) fl_X9_16 (v := .ref (aHW 1)) rfl dX9_again_25 ?_
  refine lv_iload_n hx hb dX9_again_28 rfl (lv_at hl 1 rfl) ?_
  refine r_aldq X G 1 5 rfl rfl hi (v := .ref o) (by rw [him]; rfl) dX9_again_29 ?_
  refine p_N (st1 := []) (wr := kHw k ot aHW () ++ ([(aHW 1, .inl (k 5, 3, .inr (.inr (.inr (.inr (im))))))] ++ (kHi k (aHW 2) aHI HI))) (ws' := kHw k ot aHW () ++ ([(aHW 1, .inl (k 5, 3, .inr (.inr (.inr (.inr (im))))))] ++ (kWd k (aHW 0) aWn q.1 ++ (kPl k (aWn 0) aPn q.2.1 ++ (kSc k (aWn 1) aSn q.2.2.1 ++ (kSk k (aWn 2) aKn q.2.2.2.1 ++ (kTp k (aWn 3) aTn q.2.2.2.2)))) ++ (kWd k o aWi Wi ++ (kPl k (aWi 0) aPi Pi ++ (kSc k (aWi 1) aSi Si ++ (kSk k (aWi 2) aKi Ki ++ (kTp k (aWi 3) aTi Ti)))) ++ (kHi k (aHW 2) aHI HI))))) (run_V (rest := []) X (ctX8_take hZ (aHW 0) o aWn aPn aSn aKn aTn aWi aPi aSi aKi aTi hf) mk_X8_take ml_X9_264 ⟨(Nat.le_of_ble_eq_true rfl), (Nat.le_of_ble_eq_true rfl)⟩ G [2, 3, 4, 5, 6, 7, 8, 9, 10, 11, 12, 13, 14, 15, 16, 17, 18, 19, 20, 21, 22, 23, 24, 25, 26, 27, 28, 29, 30, 31, 32, 33, 34, 35, 36, 37, 38, 39, 40, 41] rfl rfl 2 rfl rfl rfl hl.1 rfl (Nat.le_of_ble_eq_true rfl) dX9_again_30 ⟨Nat.zero_le _, Nat.zero_le _⟩) rfl G [2, 3, 4, 5, 6, 7, 8, 9, 10, 11, 12, 13, 14, 15, 16, 17, 18, 19, 20, 21, 22, 23, 24, 25, 26, 27, 28, 29, 30, 31, 32, 33, 34, 35, 36, 37, 38, 39, 40, 41] [0, 1, 42, 43, 44] 45 rfl rfl rfl rfl rfl (by decide +kernel) (by decide +kernel) rfl (fun H locs G => ?_)
  refine lv_aload_n hx hb dX9_again_33 rfl (lv_at hl 0 rfl) ?_
  refine r_get X inw_X9 G 0 rfl rfl 2 (by decide) fl_X9_23 (v := .ref (aHW 2)) rfl dX9_again_34 ?_
  refine p_N (st1 := []) (wr := kHw k ot aHW () ++ ([(aHW 1, .inl (k 5, 3, .inr (.inr (.inr (.inr (im))))))] ++ (kWd k (aHW 0) aWn q.1 ++ (kPl k (aWn 0) aPn q.2.1 ++ (kSc k (aWn 1) aSn q.2.2.1 ++ (kSk k (aWn 2) aKn q.2.2.2.1 ++ (kTp k (aWn 3) aTn q.2.2.2.2)))) ++ (kWd k o aWi Wi ++ (kPl k (aWi 0) aPi Pi ++ (kSc k (aWi 1) aSi Si ++ (kSk k (aWi 2) aKi Ki ++ (kTp k (aWi 3) aTi Ti)))))))) (ws' := kHw k ot aHW () ++ ([(aHW 1, .inl (k 5, 3, .inr (.inr (.inr (.inr (im))))))] ++ (kWd k (aHW 0) aWn q.1 ++ (kPl k (aWn 0) aPn q.2.1 ++ (kSc k (aWn 1) aSn q.2.2.1 ++ (kSk k (aWn 2) aKn q.2.2.2.1 ++ (kTp k (aWn 3) aTn q.2.2.2.2)))) ++ (kWd k o aWi Wi ++ (kPl k (aWi 0) aPi Pi ++ (kSc k (aWi 1) aSi Si ++ (kSk k (aWi 2) aKi Ki ++ (kTp k (aWi 3) aTi Ti)))) ++ (kHi k (aHW 2) aHI q2))))) (run_V (rest := []) X (ctX0_clear hZ (aHW 2) aHI hf2) mk_X0_clear ml_X9_112 ⟨(Nat.le_of_ble_eq_true rfl), (Nat.le_of_ble_eq_true rfl)⟩ G [42, 43, 44] rfl rfl 42 rfl rfl rfl hl.1 rfl (Nat.le_of_ble_eq_true rfl) dX9_again_37 ⟨Nat.zero_le _, Nat.zero_le _⟩) rfl G [42, 43, 44] [0, 1, 2, 3, 4, 5, 6, 7, 8, 9, 10, 11, 12, 13, 14, 15, 16, 17, 18, 19, 20, 21, 22, 23, 24, 25, 26, 27, 28, 29, 30, 31, 32, 33, 34, 35, 36, 37, 38, 39, 40, 41] 45 rfl rfl rfl rfl rfl (by decide +kernel) (by decide +kernel) rfl (fun H locs G => ?_)
  refine lv_iconst (v := 1) hx hb dX9_again_40 (by decide) ?_
  exact e_mz _ rfl X G dX9_again_41
set_option maxHeartbeats 4000000 in
set_option maxRecDepth 100000 in
theorem ct_image_some {l : Launch} {D : va_G} {k : Nat → ClassId} {Z : ZT} (hZ : ZOK Z) (ot : Nat) (aHW : Nat → Nat) (o : Nat) (aWn : Nat → Nat) (aPn : Nat → Nat) (aSn : Nat → Nat) (aKn : Nat → Nat) (aTn : Nat → Nat) (aWi : Nat → Nat) (aPi : Nat → Nat) (aSi : Nat → Nat) (aKi : Nat → Nat) (aTi : Nat → Nat) {im : Nat → Option Nat} {Wn : WdT} {Pn : PlT} {Sn : ScT} {Kn : SkT} {Tn : TpT} {Wi : WdT} {Pi : PlT} {Si : ScT} {Ki : SkT} {Ti : TpT} {q : WdT × PlT × ScT × SkT × TpT} {v1 : Int32} (hi : vp_in v1 3) (him : im v1.toNatClampNeg = some o) (hf : FX8_take Wi Pi Si Ki Ti Wn Pn Sn Kn Tn = some q) : CM l D k Z yX9_image cX9_image 2 (some .boolean) 4 103 [.ref ot, .int v1] (some (.int (bI true))) (kHw k ot aHW () ++ ([(aHW 1, .inl (k 5, 3, .inr (.inr (.inr (.inr (im))))))] ++ (kWd k (aHW 0) aWn Wn ++ (kPl k (aWn 0) aPn Pn ++ (kSc k (aWn 1) aSn Sn ++ (kSk k (aWn 2) aKn Kn ++ (kTp k (aWn 3) aTn Tn)))) ++ (kWd k o aWi Wi ++ (kPl k (aWi 0) aPi Pi ++ (kSc k (aWi 1) aSi Si ++ (kSk k (aWi 2) aKi Ki ++ (kTp k (aWi 3) aTi Ti)))))))) (kHw k ot aHW () ++ ([(aHW 1, .inl (k 5, 3, .inr (.inr (.inr (.inr (im))))))] ++ (kWd k (aHW 0) aWn Wn ++ (kPl k (aWn 0) aPn Pn ++ (kSc k (aWn 1) aSn Sn ++ (kSk k (aWn 2) aKn Kn ++ (kTp k (aWn 3) aTn Tn)))) ++ (kWd k o aWi q.1 ++ (kPl k (aWi 0) aPi q.2.1 ++ (kSc k (aWi 1) aSi q.2.2.1 ++ (kSk k (aWi 2) aKi q.2.2.2.1 ++ (kTp k (aWi 3) aTi q.2.2.2.2)))))))) := by
  refine CM.start hZ (by decide) (Nat.le_of_ble_eq_true rfl) ?_
  intro p e s m below meth c ls X hl G
  have hx := X.1
  have hb := X.2.1
  have hl : lv_has ls 2 [(0, .ref ot), (1, .int v1)] := hl
  refine lv_iload_n hx hb dX9_image_0 rfl (lv_at hl 1 rfl) ?_
  refine lv_if_lt (tgt := 9) hx hb dX9_image_1 (by decide) (fun c1 => absurd c1 (out3 hi).1) (fun c1 => ?_)
  refine lv_iload_n hx hb dX9_image_4 rfl (lv_at hl 1 rfl) ?_
  refine lv_iconst (v := 3) hx hb dX9_image_5 (by decide) ?_
  refine lv_icmp_lt (tgt := 11) hx hb dX9_image_6 (by decide) (fun _ => ?_) (fun z => absurd (out3 hi).2 z)
  refine lv_aload_n hx hb dX9_image_11 rfl (lv_at hl 0 rfl) ?_
  refine r_get X inw_X9 G 0 rfl rfl 1 (by decide) fl_X9_16 (v := .ref (aHW 1)) rfl dX9_image_12 ?_
  refine lv_iload_n hx hb dX9_image_15 rfl (lv_at hl 1 rfl) ?_
  refine r_aldq X G 1 5 rfl rfl hi (v := .ref o) (by rw [him]; rfl) dX9_image_16 ?_
  refine lv_ifnonnull (tgt := 33) hx hb dX9_image_17 (by decide) ?_
  refine lv_aload_n hx hb dX9_image_33 rfl (lv_at hl 0 rfl) ?_
  refine r_get X inw_X9 G 0 rfl rfl 1 (by decide) fl_X9_16 (v := .ref (aHW 1)) rfl dX9_image_34 ?_
  refine lv_iload_n hx hb dX9_image_37 rfl (lv_at hl 1 rfl) ?_
  refine r_aldq X G 1 5 rfl rfl hi (v := .ref o) (by rw [him]; rfl) dX9_image_38 ?_
  refine lv_aload_n hx hb dX9_image_39 rfl (lv_at hl 0 rfl) ?_
  refine r_get X inw_X9 G 0 rfl rfl 0 (by decide) fl_X9_10 (v := .ref (aHW 0)) rfl dX9_image_40 ?_
  refine p_N (st1 := []) (wr := kHw k ot aHW () ++ ([(aHW 1, .inl (k 5, 3, .inr (.inr (.inr (.inr (im))))))])) (ws' := kHw k ot aHW () ++ ([(aHW 1, .inl (k 5, 3, .inr (.inr (.inr (.inr (im))))))] ++ (kWd k (aHW 0) aWn Wn ++ (kPl k (aWn 0) aPn Pn ++ (kSc k (aWn 1) aSn Sn ++ (kSk k (aWn 2) aKn Kn ++ (kTp k (aWn 3) aTn Tn)))) ++ (kWd k o aWi q.1 ++ (kPl k (aWi 0) aPi q.2.1 ++ (kSc k (aWi 1) aSi q.2.2.1 ++ (kSk k (aWi 2) aKi q.2.2.2.1 ++ (kTp k (aWi 3) aTi q.2.2.2.2)))))))) (run_V (rest := []) X (ctX8_take hZ o (aHW 0) aWi aPi aSi aKi aTi aWn aPn aSn aKn aTn hf) mk_X8_take ml_X9_264 ⟨(Nat.le_of_ble_eq_true rfl), (Nat.le_of_ble_eq_true rfl)⟩ G [22, 23, 24, 25, 26, 27, 28, 29, 30, 31, 32, 33, 34, 35, 36, 37, 38, 39, 40, 41, 2, 3, 4, 5, 6, 7, 8, 9, 10, 11, 12, 13, 14, 15, 16, 17, 18, 19, 20, 21] rfl rfl 22 rfl rfl rfl hl.1 rfl (Nat.le_of_ble_eq_true rfl) dX9_image_43 ⟨(Nat.le_of_ble_eq_true rfl), (Nat.le_of_ble_eq_true rfl)⟩) rfl G [22, 23, 24, 25, 26, 27, 28, 29, 30, 31, 32, 33, 34, 35, 36, 37, 38, 39, 40, 41, 2, 3, 4, 5, 6, 7, 8, 9, 10, 11, 12, 13, 14, 15, 16, 17, 18, 19, 20, 21] [0, 1] 42 rfl rfl rfl rfl rfl (by decide +kernel) (by decide +kernel) rfl (fun H locs G => ?_)
  refine lv_iconst (v := 1) hx hb dX9_image_46 (by decide) ?_
  exact e_mz _ rfl X G dX9_image_47
set_option maxHeartbeats 4000000 in
set_option maxRecDepth 100000 in
theorem ct_image_none {l : Launch} {D : va_G} {k : Nat → ClassId} {Z : ZT} (hZ : ZOK Z) (ot : Nat) (aHW : Nat → Nat) (aWn : Nat → Nat) (aPn : Nat → Nat) (aSn : Nat → Nat) (aKn : Nat → Nat) (aTn : Nat → Nat) {im : Nat → Option Nat} {Wn : WdT} {Pn : PlT} {Sn : ScT} {Kn : SkT} {Tn : TpT} {q : WdT × PlT × ScT × SkT × TpT} {v1 : Int32} (hi : vp_in v1 3) (him : im v1.toNatClampNeg = none) (hf : FX8_take Wd0 Pl0 Sc0 Sk0 Tp0 Wn Pn Sn Kn Tn = some q) : CN l D k Z yX9_image cX9_image 2 (some .boolean) 4 103 20 1395 [.ref ot, .int v1] (some (.int (bI true))) (kHw k ot aHW () ++ ([(aHW 1, .inl (k 5, 3, .inr (.inr (.inr (.inr (im))))))] ++ (kWd k (aHW 0) aWn Wn ++ (kPl k (aWn 0) aPn Pn ++ (kSc k (aWn 1) aSn Sn ++ (kSk k (aWn 2) aKn Kn ++ (kTp k (aWn 3) aTn Tn))))))) (fun w1 => ∃ (o : Nat) (aWi : Nat → Nat) (aPi : Nat → Nat) (aSi : Nat → Nat) (aKi : Nat → Nat) (aTi : Nat → Nat), w1 = kHw k ot aHW () ++ ([(aHW 1, .inl (k 5, 3, .inr (.inr (.inr (.inr (va_up im (Int32.toNatClampNeg v1) (some o)))))))] ++ (kWd k (aHW 0) aWn Wn ++ (kPl k (aWn 0) aPn Pn ++ (kSc k (aWn 1) aSn Sn ++ (kSk k (aWn 2) aKn Kn ++ (kTp k (aWn 3) aTn Tn)))) ++ (kWd k o aWi q.1 ++ (kPl k (aWi 0) aPi q.2.1 ++ (kSc k (aWi 1) aSi q.2.2.1 ++ (kSk k (aWi 2) aKi q.2.2.2.1 ++ (kTp k (aWi 3) aTi q.2.2.2.2)))))))) := by
  refine CN.start hZ (by decide) (Nat.le_of_ble_eq_true rfl) ?_
  intro p e s m below meth c ls X hin hl G
  have hx := X.1
  have hb := X.2.1
  have hl : lv_has ls 2 [(0, .ref ot), (1, .int v1)] := hl
  have hA : ∀ q : Nat, s.heap.size ≤ q → va_A (kHw k ot aHW () ++ ([(aHW 1, .inl (k 5, 3, .inr (.inr (.inr (.inr (im))))))] ++ (kWd k (aHW 0) aWn Wn ++ (kPl k (aWn 0) aPn Pn ++ (kSc k (aWn 1) aSn Sn ++ (kSk k (aWn 2) aKn Kn ++ (kTp k (aWn 3) aTn Tn))))))) s.heap.size q := fun _ h => Or.inr h
  refine lv_iload_n hx hb dX9_image_0 rfl (lv_at hl 1 rfl) ?_
  refine lv_if_lt (tgt := 9) hx hb dX9_image_1 (by decide) (fun c1 => absurd c1 (out3 hi).1) (fun c1 => ?_)
  refine lv_iload_n hx hb dX9_image_4 rfl (lv_at hl 1 rfl) ?_
  refine lv_iconst (v := 3) hx hb dX9_image_5 (by decide) ?_
  refine lv_icmp_lt (tgt := 11) hx hb dX9_image_6 (by decide) (fun _ => ?_) (fun z => absurd (out3 hi).2 z)
  refine lv_aload_n hx hb dX9_image_11 rfl (lv_at hl 0 rfl) ?_
  refine r_get X inw_X9 G 0 rfl rfl 1 (by decide) fl_X9_16 (v := .ref (aHW 1)) rfl dX9_image_12 ?_
  refine lv_iload_n hx hb dX9_image_15 rfl (lv_at hl 1 rfl) ?_
  refine r_aldq X G 1 5 rfl rfl hi (v := .null) (by rw [him]; rfl) dX9_image_16 ?_
  refine lv_ifnonnullN hx hb dX9_image_17 ?_
  refine lv_aload_n hx hb dX9_image_20 rfl (lv_at hl 0 rfl) ?_
  refine r_get X inw_X9 G 0 rfl rfl 1 (by decide) fl_X9_16 (v := .ref (aHW 1)) rfl dX9_image_21 ?_
  refine lv_iload_n hx hb dX9_image_24 rfl (lv_at hl 1 rfl) ?_
  refine r_new (ci := 8) (fs := [.null, .null, .null, .null, .int 0, .int 0]) X G hA inw_X8 tyX8 tyX8_ok cl_X9_7 is_X8 in_X8 rfl (fun j hj => by match j, hj with | 0, _ => rfl | 1, _ => rfl | 2, _ => rfl | 3, _ => rfl | 4, _ => rfl | 5, _ => rfl | z + 6, h => exact absurd h (by omega)) (Nat.le_of_ble_eq_true rfl) (Nat.le_of_ble_eq_true rfl) dX9_image_25 (fun o H G => ?_)
  have G : Wo D (va_A (kHw k ot aHW () ++ ([(aHW 1, .inl (k 5, 3, .inr (.inr (.inr (.inr (im))))))] ++ (kWd k (aHW 0) aWn Wn ++ (kPl k (aWn 0) aPn Pn ++ (kSc k (aWn 1) aSn Sn ++ (kSk k (aWn 2) aKn Kn ++ (kTp k (aWn 3) aTn Tn))))))) s.heap.size) s.heap (kHw k ot aHW () ++ ([(aHW 1, .inl (k 5, 3, .inr (.inr (.inr (.inr (im))))))] ++ (kWd k (aHW 0) aWn Wn ++ (kPl k (aWn 0) aPn Pn ++ (kSc k (aWn 1) aSn Sn ++ (kSk k (aWn 2) aKn Kn ++ (kTp k (aWn 3) aTn Tn)))) ++ ([(o, .inr (8, [.null, .null, .null, .null, .int 0, .int 0]))])))) H [] := G
  refine W.cs (cells' := 1) (slots' := 6) rfl rfl ?_
  refine lv_dup hx hb dX9_image_28 rfl ?_
  refine p_C (st1 := [.ref o, .int v1, .ref (aHW 1)]) (wr := kHw k ot aHW () ++ ([(aHW 1, .inl (k 5, 3, .inr (.inr (.inr (.inr (im))))))] ++ (kWd k (aHW 0) aWn Wn ++ (kPl k (aWn 0) aPn Pn ++ (kSc k (aWn 1) aSn Sn ++ (kSk k (aWn 2) aKn Kn ++ (kTp k (aWn 3) aTn Tn))))))) (run_IN (rest := [.ref o, .int v1, .ref (aHW 1)]) X (cn_X8 hZ o) mi_X8 mn_X9_9 ⟨(Nat.le_of_ble_eq_true rfl), (Nat.le_of_ble_eq_true rfl)⟩ G hA [22] rfl rfl rfl hl.1 rfl (Nat.le_of_ble_eq_true rfl) dX9_image_29 ⟨(Nat.le_of_ble_eq_true rfl), (Nat.le_of_ble_eq_true rfl)⟩) rfl G hA [22] [0, 1, 2, 3, 4, 5, 6, 7, 8, 9, 10, 11, 12, 13, 14, 15, 16, 17, 18, 19, 20, 21] rfl rfl rfl (by decide) (fun w1 H locs hY G => ?_)
  obtain ⟨aWi, aPi, aSi, aKi, aTi, rfl⟩ := hY
  have G : Wo D (va_A (kHw k ot aHW () ++ ([(aHW 1, .inl (k 5, 3, .inr (.inr (.inr (.inr (im))))))] ++ (kWd k (aHW 0) aWn Wn ++ (kPl k (aWn 0) aPn Pn ++ (kSc k (aWn 1) aSn Sn ++ (kSk k (aWn 2) aKn Kn ++ (kTp k (aWn 3) aTn Tn))))))) s.heap.size) s.heap (kHw k ot aHW () ++ ([(aHW 1, .inl (k 5, 3, .inr (.inr (.inr (.inr (im))))))] ++ (kWd k (aHW 0) aWn Wn ++ (kPl k (aWn 0) aPn Pn ++ (kSc k (aWn 1) aSn Sn ++ (kSk k (aWn 2) aKn Kn ++ (kTp k (aWn 3) aTn Tn)))) ++ (kWd k o aWi Wd0 ++ (kPl k (aWi 0) aPi Pl0 ++ (kSc k (aWi 1) aSi Sc0 ++ (kSk k (aWi 2) aKi Sk0 ++ (kTp k (aWi 3) aTi Tp0)))))))) H locs := G
  refine W.cs (cells' := 20) (slots' := 1395) rfl rfl ?_
  refine r_astq (vs := _) (r := (RX8, TX8, 6)) X G 1 5 22 8 rfl rfl rfl rfl hi (ws' := kHw k ot aHW () ++ ([(aHW 1, .inl (k 5, 3, .inr (.inr (.inr (.inr (va_up im (Int32.toNatClampNeg v1) (some o)))))))] ++ (kWd k (aHW 0) aWn Wn ++ (kPl k (aWn 0) aPn Pn ++ (kSc k (aWn 1) aSn Sn ++ (kSk k (aWn 2) aKn Kn ++ (kTp k (aWn 3) aTn Tn)))) ++ (kWd k o aWi Wd0 ++ (kPl k (aWi 0) aPi Pl0 ++ (kSc k (aWi 1) aSi Sc0 ++ (kSk k (aWi 2) aKi Sk0 ++ (kTp k (aWi 3) aTi Tp0)))))))) rfl dX9_image_32 (fun H locs G => ?_)
  refine lv_aload_n hx hb dX9_image_33 rfl (lv_at hl 0 rfl) ?_
  refine r_get X inw_X9 G 0 rfl rfl 1 (by decide) fl_X9_16 (v := .ref (aHW 1)) rfl dX9_image_34 ?_
  refine lv_iload_n hx hb dX9_image_37 rfl (lv_at hl 1 rfl) ?_
  refine r_aldq X G 1 5 rfl rfl hi (v := .ref o) (by simp [va_up, va_rf]) dX9_image_38 ?_
  refine lv_aload_n hx hb dX9_image_39 rfl (lv_at hl 0 rfl) ?_
  refine r_get X inw_X9 G 0 rfl rfl 0 (by decide) fl_X9_10 (v := .ref (aHW 0)) rfl dX9_image_40 ?_
  refine p_N (st1 := []) (wr := kHw k ot aHW () ++ ([(aHW 1, .inl (k 5, 3, .inr (.inr (.inr (.inr (va_up im (Int32.toNatClampNeg v1) (some o)))))))])) (ws' := kHw k ot aHW () ++ ([(aHW 1, .inl (k 5, 3, .inr (.inr (.inr (.inr (va_up im (Int32.toNatClampNeg v1) (some o)))))))] ++ (kWd k (aHW 0) aWn Wn ++ (kPl k (aWn 0) aPn Pn ++ (kSc k (aWn 1) aSn Sn ++ (kSk k (aWn 2) aKn Kn ++ (kTp k (aWn 3) aTn Tn)))) ++ (kWd k o aWi q.1 ++ (kPl k (aWi 0) aPi q.2.1 ++ (kSc k (aWi 1) aSi q.2.2.1 ++ (kSk k (aWi 2) aKi q.2.2.2.1 ++ (kTp k (aWi 3) aTi q.2.2.2.2)))))))) (run_V (rest := []) X (ctX8_take hZ o (aHW 0) aWi aPi aSi aKi aTi aWn aPn aSn aKn aTn hf) mk_X8_take ml_X9_264 ⟨(Nat.le_of_ble_eq_true rfl), (Nat.le_of_ble_eq_true rfl)⟩ G [22, 23, 24, 25, 26, 27, 28, 29, 30, 31, 32, 33, 34, 35, 36, 37, 38, 39, 40, 41, 2, 3, 4, 5, 6, 7, 8, 9, 10, 11, 12, 13, 14, 15, 16, 17, 18, 19, 20, 21] rfl rfl 22 rfl rfl rfl hl.1 rfl (Nat.le_of_ble_eq_true rfl) dX9_image_43 ⟨(Nat.le_of_ble_eq_true rfl), (Nat.le_of_ble_eq_true rfl)⟩) rfl G [22, 23, 24, 25, 26, 27, 28, 29, 30, 31, 32, 33, 34, 35, 36, 37, 38, 39, 40, 41, 2, 3, 4, 5, 6, 7, 8, 9, 10, 11, 12, 13, 14, 15, 16, 17, 18, 19, 20, 21] [0, 1] 42 rfl rfl rfl rfl rfl (by decide +kernel) (by decide +kernel) rfl (fun H locs G => ?_)
  refine lv_iconst (v := 1) hx hb dX9_image_46 (by decide) ?_
  exact e_nz _ rfl X G ⟨o, aWi, aPi, aSi, aKi, aTi, rfl⟩ dX9_image_47
