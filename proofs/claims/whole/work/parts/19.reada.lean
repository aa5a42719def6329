noncomputable def FX2_isBlank (v1 : Int32) : Option (Bool) :=
  if v1 = (32 : Int32) then (
    some true
  ) else (
    if v1 = (10 : Int32) then (
      some true
    ) else (
      some false
    )
  )
set_option maxHeartbeats 4000000 in
set_option maxRecDepth 100000 in
theorem ctX2_isBlank {l : Launch} {D : va_G} {k : Nat → ClassId} {Z : ZT} (hZ : ZOK Z)  {v1 : Int32} {q : Bool} (hf : FX2_isBlank v1 = some q) :
    CR l D k Z yX2_isBlank cX2_isBlank 1 (some .boolean) 0 0 [.int v1] (some (.int (bI q))) ([]) := by
  refine CR.start hZ (by decide) (Nat.le_of_ble_eq_true rfl) ?_
  intro p e s m below meth c ls X hl G
  have hx := X.1
  have hb := X.2.1
  have hl : lv_has ls 1 [(0, .int v1)] := hl
  unfold FX2_isBlank at hf
  refine lv_iload_n hx hb dX2_isBlank_0 rfl (lv_at hl 0 rfl) ?_
  refine lv_bipush (v := 32) hx hb dX2_isBlank_1 (by decide) ?_
  refine lv_icmp_eq (tgt := 12) hx hb dX2_isBlank_3 (by decide) (fun c1 => ?_) (fun c1 => ?_)
  · replace hf := if_t hf c1
    refine lv_iconst (v := 1) hx hb dX2_isBlank_12 (by decide) ?_
    refine lv_goto (tgt := 17) hx hb dX2_isBlank_13 (by decide) ?_
    cases hf
    exact e_rz _ rfl X dX2_isBlank_17
  · replace hf := if_f hf c1
    refine lv_iload_n hx hb dX2_isBlank_6 rfl (lv_at hl 0 rfl) ?_
    refine lv_bipush (v := 10) hx hb dX2_isBlank_7 (by decide) ?_
    refine lv_icmp_ne (tgt := 16) hx hb dX2_isBlank_9 (by decide) (fun c2 => ?_) (fun c2 => ?_)
    · replace hf := if_f hf c2
      refine lv_iconst (v := 0) hx hb dX2_isBlank_16 (by decide) ?_
      cases hf
      exact e_rz _ rfl X dX2_isBlank_17
    · replace hf := if_t hf c2
      refine lv_iconst (v := 1) hx hb dX2_isBlank_12 (by decide) ?_
      refine lv_goto (tgt := 17) hx hb dX2_isBlank_13 (by decide) ?_
      cases hf
      exact e_rz _ rfl X dX2_isBlank_17
theorem mk_X2_isBlank : MS yX2_isBlank cX2_isBlank 1 (some .boolean) 1 := ⟨co_X2_isBlank, in_X2, st_X2_isBlank, trivial, by decide +kernel, by decide +kernel⟩
noncomputable def FX2_isLetter (v1 : Int32) : Option (Bool) :=
  if v1 < (97 : Int32) then (
    some false
  ) else (
    if (122 : Int32) < v1 then (
      some false
    ) else (
      some true
    )
  )
set_option maxHeartbeats 4000000 in
set_option maxRecDepth 100000 in
theorem ctX2_isLetter {l : Launch} {D : va_G} {k : Nat → ClassId} {Z : ZT} (hZ : ZOK Z)  {v1 : Int32} {q : Bool} (hf : FX2_isLetter v1 = some q) :
    CR l D k Z yX2_isLetter cX2_isLetter 1 (some .boolean) 0 0 [.int v1] (some (.int (bI q))) ([]) := by
  refine CR.start hZ (by decide) (Nat.le_of_ble_eq_true rfl) ?_
  intro p e s m below meth c ls X hl G
  have hx := X.1
  have hb := X.2.1
  have hl : lv_has ls 1 [(0, .int v1)] := hl
  unfold FX2_isLetter at hf
  refine lv_iload_n hx hb dX2_isLetter_0 rfl (lv_at hl 0 rfl) ?_
  refine lv_bipush (v := 97) hx hb dX2_isLetter_1 (by decide) ?_
  refine lv_icmp_lt (tgt := 16) hx hb dX2_isLetter_3 (by decide) (fun c1 => ?_) (fun c1 => ?_)
  · replace hf := if_t hf c1
    refine lv_iconst (v := 0) hx hb dX2_isLetter_16 (by decide) ?_
    cases hf
    exact e_rz _ rfl X dX2_isLetter_17
  · replace hf := if_f hf c1
    refine lv_iload_n hx hb dX2_isLetter_6 rfl (lv_at hl 0 rfl) ?_
    refine lv_bipush (v := 122) hx hb dX2_isLetter_7 (by decide) ?_
    refine lv_icmp_gt (tgt := 16) hx hb dX2_isLetter_9 (by decide) (fun c2 => ?_) (fun c2 => ?_)
    · replace hf := if_t hf c2
      refine lv_iconst (v := 0) hx hb dX2_isLetter_16 (by decide) ?_
      cases hf
      exact e_rz _ rfl X dX2_isLetter_17
    · replace hf := if_f hf c2
      refine lv_iconst (v := 1) hx hb dX2_isLetter_12 (by decide) ?_
      refine lv_goto (tgt := 17) hx hb dX2_isLetter_13 (by decide) ?_
      cases hf
      exact e_rz _ rfl X dX2_isLetter_17
theorem mk_X2_isLetter : MS yX2_isLetter cX2_isLetter 1 (some .boolean) 1 := ⟨co_X2_isLetter, in_X2, st_X2_isLetter, trivial, by decide +kernel, by decide +kernel⟩
noncomputable def FX2_isDigit (v1 : Int32) : Option (Bool) :=
  if v1 < (48 : Int32) then (
    some false
  ) else (
    if (57 : Int32) < v1 then (
      some false
    ) else (
      some true
    )
  )
set_option maxHeartbeats 4000000 in
set_option maxRecDepth 100000 in
theorem ctX2_isDigit {l : Launch} {D : va_G} {k : Nat → ClassId} {Z : ZT} (hZ : ZOK Z)  {v1 : Int32} {q : Bool} (hf : FX2_isDigit v1 = some q) :
    CR l D k Z yX2_isDigit cX2_isDigit 1 (some .boolean) 0 0 [.int v1] (some (.int (bI q))) ([]) := by
  refine CR.start hZ (by decide) (Nat.le_of_ble_eq_true rfl) ?_
  intro p e s m below meth c ls X hl G
  have hx := X.1
  have hb := X.2.1
  have hl : lv_has ls 1 [(0, .int v1)] := hl
  unfold FX2_isDigit at hf
  refine lv_iload_n hx hb dX2_isDigit_0 rfl (lv_at hl 0 rfl) ?_
  refine lv_bipush (v := 48) hx hb dX2_isDigit_1 (by decide) ?_
  refine lv_icmp_lt (tgt := 16) hx hb dX2_isDigit_3 (by decide) (fun c1 => ?_) (fun c1 => ?_)
  · replace hf := if_t hf c1
    refine lv_iconst (v := 0) hx hb dX2_isDigit_16 (by decide) ?_
    cases hf
    exact e_rz _ rfl X dX2_isDigit_17
  · replace hf := if_f hf c1
    refine lv_iload_n hx hb dX2_isDigit_6 rfl (lv_at hl 0 rfl) ?_
    refine lv_bipush (v := 57) hx hb dX2_isDigit_7 (by decide) ?_
    refine lv_icmp_gt (tgt := 16) hx hb dX2_isDigit_9 (by decide) (fun c2 => ?_) (fun c2 => ?_)
    · replace hf := if_t hf c2
      refine lv_iconst (v := 0) hx hb dX2_isDigit_16 (by decide) ?_
      cases hf
      exact e_rz _ rfl X dX2_isDigit_17
    · replace hf := if_f hf c2
      refine lv_iconst (v := 1) hx hb dX2_isDigit_12 (by decide) ?_
      refine lv_goto (tgt := 17) hx hb dX2_isDigit_13 (by decide) ?_
      cases hf
      exact e_rz _ rfl X dX2_isDigit_17
theorem mk_X2_isDigit : MS yX2_isDigit cX2_isDigit 1 (some .boolean) 1 := ⟨co_X2_isDigit, in_X2, st_X2_isDigit, trivial, by decide +kernel, by decide +kernel⟩
noncomputable def FX2_scanNumber_5 (TP : TpT) : RdT → Option ((RdT) ⊕ (RdT)) := fun stL2 =>
  if (Tp_length TP) ≤ (Rd_next stL2) then (
    some (.inr stL2)
  ) else (
    (FX5_byteAt TP (Rd_next stL2)).bind fun r4 =>
    (FX2_isDigit r4).bind fun r5 =>
    if (bI r5) = 0 then (
      some (.inr stL2)
    ) else (
      (FX5_byteAt TP (Rd_next stL2)).bind fun r7 =>
      nm (sRd_value stL2 ((((Rd_value stL2) * (10 : Int32)) + r7) - (48 : Int32))) fun RD8 =>
      nm (sRd_next RD8 ((Rd_next RD8) + (1 : Int32))) fun RD9 =>
      some (.inl RD9)
    )
  )
noncomputable def FX2_scanNumber (RD : RdT) (TP : TpT) : Option (RdT) :=
  nm (sRd_value RD (0 : Int32)) fun RD1 =>
  (itr (FX2_scanNumber_5 TP) RD1).bind fun uL2 =>
  if (2 : Int32) < ((Rd_next uL2) - (Rd_start uL2)) then (
    nm (sRd_token uL2 (5 : Int32)) fun RD11 =>
    some RD11
  ) else (
    nm (sRd_token uL2 (2 : Int32)) fun RD12 =>
    some RD12
  )
set_option maxHeartbeats 4000000 in
set_option maxRecDepth 100000 in
theorem ctX2_scanNumber {l : Launch} {D : va_G} {k : Nat → ClassId} {Z : ZT} (hZ : ZOK Z) (ot : Nat) (o1 : Nat) (aRD : Nat → Nat) (aTP : Nat → Nat) {RD : RdT} {TP : TpT} {q : RdT} (hf : FX2_scanNumber RD TP = some q) :
    CM l D k Z yX2_scanNumber cX2_scanNumber 2 none 1 21 [.ref ot, .ref o1] none (kRd k ot aRD (RD) ++ (kTp k o1 aTP (TP))) (kRd k ot aRD (q) ++ (kTp k o1 aTP (TP))) := by
  refine CM.start hZ (by decide) (Nat.le_of_ble_eq_true rfl) ?_
  intro p e s m below meth c ls X hl G
  have hx := X.1
  have hb := X.2.1
  have hl : lv_has ls 2 [(0, .ref ot), (1, .ref o1)] := hl
  unfold FX2_scanNumber at hf
  refine lv_aload_n hx hb dX2_scanNumber_0 rfl (lv_at hl 0 rfl) ?_
  refine lv_iconst (v := 0) hx hb dX2_scanNumber_1 (by decide) ?_
  obtain ⟨RD1, eRD1, hf⟩ := nm_some hf
  refine r_put X inw_X2 tyX2 tyX2_ok nmX2 G 0 rfl rfl 6 (by decide) fl_X2_35 rfl rfl rfl (Nat.le_of_ble_eq_true rfl) (ws' := kRd k ot aRD (RD1) ++ (kTp k o1 aTP (TP))) (by subst eRD1; rfl) dX2_scanNumber_2 (fun H locs G => ?_)
  obtain ⟨exL2, hitL2, hfL2⟩ := bd_some hf
  obtain ⟨nL2, hitL2⟩ := itr_ex hitL2
  have KL2_0 : ∀ (u : RdT) (H : Heap) (locs : List Loc) (ls : Array Slot), exL2 = u → Wo D (wA (kRd k ot aRD (RD) ++ (kTp k o1 aTP (TP)))) s.heap (kRd k ot aRD (u) ++ (kTp k o1 aTP (TP))) H locs → lv_has ls 2 [(0, .ref ot)] → W p l e (rmz 1 21) s m [.ref ot, .ref o1].toArray below meth c H locs 0 0 (MQ below (Qm D none (kRd k ot aRD (RD) ++ (kTp k o1 aTP (TP))) (kRd k ot aRD (q) ++ (kTp k o1 aTP (TP)))) [.ref ot, .ref o1].toArray s 0 0 (wA (kRd k ot aRD (RD) ++ (kTp k o1 aTP (TP))))) (F0 m 66 ls []) := by
    intro uL2 H locs ls hex G hl
    rw [hex] at hfL2
    have hf := hfL2
    refine lv_aload_n hx hb dX2_scanNumber_66 rfl (lv_at hl 0 rfl) ?_
    refine lv_aload_n hx hb dX2_scanNumber_67 rfl (lv_at hl 0 rfl) ?_
    refine r_get X inw_X2 G 0 rfl rfl 7 (by decide) fl_X2_38 (v := .int (Rd_next uL2)) rfl dX2_scanNumber_68 ?_
    refine lv_aload_n hx hb dX2_scanNumber_71 rfl (lv_at hl 0 rfl) ?_
    refine r_get X inw_X2 G 0 rfl rfl 5 (by decide) fl_X2_32 (v := .int (Rd_start uL2)) rfl dX2_scanNumber_72 ?_
    refine lv_isub hx hb dX2_scanNumber_75 ?_
    refine lv_iconst (v := 2) hx hb dX2_scanNumber_76 (by decide) ?_
    refine lv_icmp_gt (tgt := 84) hx hb dX2_scanNumber_77 (by decide) (fun c10 => ?_) (fun c10 => ?_)
    · replace hf := if_t hf c10
      refine lv_iconst (v := 5) hx hb dX2_scanNumber_84 (by decide) ?_
      obtain ⟨RD11, eRD11, hf⟩ := nm_some hf
      refine r_put X inw_X2 tyX2 tyX2_ok nmX2 G 0 rfl rfl 4 (by decide) fl_X2_29 rfl rfl rfl (Nat.le_of_ble_eq_true rfl) (ws' := kRd k ot aRD (RD11) ++ (kTp k o1 aTP (TP))) (by subst eRD11; rfl) dX2_scanNumber_85 (fun H locs G => ?_)
      cases hf
      exact e_mv X G dX2_scanNumber_88
    · replace hf := if_f hf c10
      refine lv_iconst (v := 2) hx hb dX2_scanNumber_80 (by decide) ?_
      refine lv_goto (tgt := 85) hx hb dX2_scanNumber_81 (by decide) ?_
      obtain ⟨RD12, eRD12, hf⟩ := nm_some hf
      refine r_put X inw_X2 tyX2 tyX2_ok nmX2 G 0 rfl rfl 4 (by decide) fl_X2_29 rfl rfl rfl (Nat.le_of_ble_eq_true rfl) (ws' := kRd k ot aRD (RD12) ++ (kTp k o1 aTP (TP))) (by subst eRD12; rfl) dX2_scanNumber_85 (fun H locs G => ?_)
      cases hf
      exact e_mv X G dX2_scanNumber_88
  have LL2 : ∀ (n : Nat) (stL2 : RdT) (H : Heap) (locs : List Loc) (ls : Array Slot), Wo D (wA (kRd k ot aRD (RD) ++ (kTp k o1 aTP (TP)))) s.heap (kRd k ot aRD (stL2) ++ (kTp k o1 aTP (TP))) H locs → lv_has ls 2 [(0, .ref ot), (1, .ref o1)] → it (FX2_scanNumber_5 TP) n stL2 = some exL2 → W p l e (rmz 1 21) s m [.ref ot, .ref o1].toArray below meth c H locs 0 0 (MQ below (Qm D none (kRd k ot aRD (RD) ++ (kTp k o1 aTP (TP))) (kRd k ot aRD (q) ++ (kTp k o1 aTP (TP)))) [.ref ot, .ref o1].toArray s 0 0 (wA (kRd k ot aRD (RD) ++ (kTp k o1 aTP (TP))))) (F0 m 5 ls []) := by
    intro n
    induction n with
    | zero =>
      intro stL2 H locs ls G hl hit
      exact (it_zero hit).elim
    | succ n ih =>
      intro stL2 H locs ls G hl hit
      obtain ⟨oL2, hf, hoL2⟩ := it_bd hit
      unfold FX2_scanNumber_5 at hf
      refine lv_aload_n hx hb dX2_scanNumber_5 rfl (lv_at hl 0 rfl) ?_
      refine r_get X inw_X2 G 0 rfl rfl 7 (by decide) fl_X2_38 (v := .int (Rd_next stL2)) rfl dX2_scanNumber_6 ?_
      refine lv_aload_n hx hb dX2_scanNumber_9 rfl (lv_at hl 1 rfl) ?_
      refine r_get X inw_X5 G 2 rfl rfl 1 (by decide) fl_X2_127 (v := .int (Tp_length TP)) rfl dX2_scanNumber_10 ?_
      refine lv_icmp_ge (tgt := 66) hx hb dX2_scanNumber_13 (by decide) (fun c3 => ?_) (fun c3 => ?_)
      · replace hf := if_t hf c3
        cases hf
        exact KL2_0 stL2 _ _ _ (it_out hoL2) G (lv_sub hl [0] rfl)
      · replace hf := if_f hf c3
        refine lv_aload_n hx hb dX2_scanNumber_16 rfl (lv_at hl 1 rfl) ?_
        refine lv_aload_n hx hb dX2_scanNumber_17 rfl (lv_at hl 0 rfl) ?_
        refine r_get X inw_X2 G 0 rfl rfl 7 (by decide) fl_X2_38 (v := .int (Rd_next stL2)) rfl dX2_scanNumber_18 ?_
        obtain ⟨r4, hcr4, hf⟩ := bd_some hf
        refine p_R (st1 := [.int r4]) (run_V (rest := []) X (ctX5_byteAt hZ o1 aTP hcr4) mk_X5_byteAt ml_X2_132 ⟨(Nat.le_of_ble_eq_true rfl), (Nat.le_of_ble_eq_true rfl)⟩ G [2, 3] rfl rfl 2 rfl rfl rfl hl.1 rfl (Nat.le_of_ble_eq_true rfl) dX2_scanNumber_21 ⟨Nat.zero_le _, Nat.zero_le _⟩) rfl ?_
        obtain ⟨r5, hcr5, hf⟩ := bd_some hf
        refine p_R (st1 := [.int (bI r5)]) (run_S (rest := []) X (ctX2_isDigit hZ hcr5) mk_X2_isDigit ml_X2_145 ⟨(Nat.le_of_ble_eq_true rfl), (Nat.le_of_ble_eq_true rfl)⟩ G [] rfl rfl rfl hl.1 rfl (Nat.le_of_ble_eq_true rfl) dX2_scanNumber_24 ⟨Nat.zero_le _, Nat.zero_le _⟩) rfl ?_
        refine lv_if_eq (tgt := 66) hx hb dX2_scanNumber_27 (by decide) (fun c6 => ?_) (fun c6 => ?_)
        · replace hf := if_t hf c6
          cases hf
          exact KL2_0 stL2 _ _ _ (it_out hoL2) G (lv_sub hl [0] rfl)
        · replace hf := if_f hf c6
          refine lv_aload_n hx hb dX2_scanNumber_30 rfl (lv_at hl 0 rfl) ?_
          refine lv_aload_n hx hb dX2_scanNumber_31 rfl (lv_at hl 0 rfl) ?_
          refine r_get X inw_X2 G 0 rfl rfl 6 (by decide) fl_X2_35 (v := .int (Rd_value stL2)) rfl dX2_scanNumber_32 ?_
          refine lv_bipush (v := 10) hx hb dX2_scanNumber_35 (by decide) ?_
          refine lv_imul hx hb dX2_scanNumber_37 ?_
          refine lv_aload_n hx hb dX2_scanNumber_38 rfl (lv_at hl 1 rfl) ?_
          refine lv_aload_n hx hb dX2_scanNumber_39 rfl (lv_at hl 0 rfl) ?_
          refine r_get X inw_X2 G 0 rfl rfl 7 (by decide) fl_X2_38 (v := .int (Rd_next stL2)) rfl dX2_scanNumber_40 ?_
          obtain ⟨r7, hcr7, hf⟩ := bd_some hf
          refine p_R (st1 := [.int r7, .int ((Rd_value stL2) * (10 : Int32)), .ref ot]) (run_V (rest := [.int ((Rd_value stL2) * (10 : Int32)), .ref ot]) X (ctX5_byteAt hZ o1 aTP hcr7) mk_X5_byteAt ml_X2_132 ⟨(Nat.le_of_ble_eq_true rfl), (Nat.le_of_ble_eq_true rfl)⟩ G [2, 3] rfl rfl 2 rfl rfl rfl hl.1 rfl (Nat.le_of_ble_eq_true rfl) dX2_scanNumber_43 ⟨Nat.zero_le _, Nat.zero_le _⟩) rfl ?_
          refine lv_iadd hx hb dX2_scanNumber_46 ?_
          refine lv_bipush (v := 48) hx hb dX2_scanNumber_47 (by decide) ?_
          refine lv_isub hx hb dX2_scanNumber_49 ?_
          obtain ⟨RD8, eRD8, hf⟩ := nm_some hf
          refine r_put X inw_X2 tyX2 tyX2_ok nmX2 G 0 rfl rfl 6 (by decide) fl_X2_35 rfl rfl rfl (Nat.le_of_ble_eq_true rfl) (ws' := kRd k ot aRD (RD8) ++ (kTp k o1 aTP (TP))) (by subst eRD8; rfl) dX2_scanNumber_50 (fun H locs G => ?_)
          refine lv_aload_n hx hb dX2_scanNumber_53 rfl (lv_at hl 0 rfl) ?_
          refine lv_dup hx hb dX2_scanNumber_54 rfl ?_
          refine r_get X inw_X2 G 0 rfl rfl 7 (by decide) fl_X2_38 (v := .int (Rd_next RD8)) rfl dX2_scanNumber_55 ?_
          refine lv_iconst (v := 1) hx hb dX2_scanNumber_58 (by decide) ?_
          refine lv_iadd hx hb dX2_scanNumber_59 ?_
          obtain ⟨RD9, eRD9, hf⟩ := nm_some hf
          refine r_put X inw_X2 tyX2 tyX2_ok nmX2 G 0 rfl rfl 7 (by decide) fl_X2_38 rfl rfl rfl (Nat.le_of_ble_eq_true rfl) (ws' := kRd k ot aRD (RD9) ++ (kTp k o1 aTP (TP))) (by subst eRD9; rfl) dX2_scanNumber_60 (fun H locs G => ?_)
          refine lv_goto (tgt := 5) hx hb dX2_scanNumber_63 (by decide) ?_
          cases hf
          exact ih RD9 _ _ _ G (lv_sub hl [0, 1] rfl) hoL2
  exact LL2 nL2 RD1 _ _ _ G (lv_sub hl [0, 1] rfl) hitL2
theorem mk_X2_scanNumber : MV yX2_scanNumber cX2_scanNumber 2 none 1 := ⟨co_X2_scanNumber, in_X2, im_X2_scanNumber, se_X2_scanNumber, by decide +kernel, by decide +kernel⟩
noncomputable def FX2_note (RD : RdT) (v1 : Int32) : Option (RdT) :=
  if (Rd_fault RD) = 0 then (
    nm (sRd_fault RD v1) fun RD2 =>
    nm (sRd_spot RD2 (Rd_start RD2)) fun RD3 =>
    some RD3
  ) else (
    some RD
  )
set_option maxHeartbeats 4000000 in
set_option maxRecDepth 100000 in
theorem ctX2_note {l : Launch} {D : va_G} {k : Nat → ClassId} {Z : ZT} (hZ : ZOK Z) (ot : Nat) (aRD : Nat → Nat) {RD : RdT} {v1 : Int32} {q : RdT} (hf : FX2_note RD v1 = some q) :
    CM l D k Z yX2_note cX2_note 2 none 0 0 [.ref ot, .int v1] none (kRd k ot aRD (RD)) (kRd k ot aRD (q)) := by
  refine CM.start hZ (by decide) (Nat.le_of_ble_eq_true rfl) ?_
  intro p e s m below meth c ls X hl G
  have hx := X.1
  have hb := X.2.1
  have hl : lv_has ls 2 [(0, .ref ot), (1, .int v1)] := hl
  unfold FX2_note at hf
  refine lv_aload_n hx hb dX2_note_0 rfl (lv_at hl 0 rfl) ?_
  refine r_get X inw_X2 G 0 rfl rfl 2 (by decide) fl_X2_22 (v := .int (Rd_fault RD)) rfl dX2_note_1 ?_
  refine lv_if_ne (tgt := 20) hx hb dX2_note_4 (by decide) (fun c1 => ?_) (fun c1 => ?_)
  · replace hf := if_f hf c1
    cases hf
    exact e_mv X G dX2_note_20
  · replace hf := if_t hf c1
    refine lv_aload_n hx hb dX2_note_7 rfl (lv_at hl 0 rfl) ?_
    refine lv_iload_n hx hb dX2_note_8 rfl (lv_at hl 1 rfl) ?_
    obtain ⟨RD2, eRD2, hf⟩ := nm_some hf
    refine r_put X inw_X2 tyX2 tyX2_ok nmX2 G 0 rfl rfl 2 (by decide) fl_X2_22 rfl rfl rfl (Nat.le_of_ble_eq_true rfl) (ws' := kRd k ot aRD (RD2)) (by subst eRD2; rfl) dX2_note_9 (fun H locs G => ?_)
    refine lv_aload_n hx hb dX2_note_12 rfl (lv_at hl 0 rfl) ?_
    refine lv_aload_n hx hb dX2_note_13 rfl (lv_at hl 0 rfl) ?_
    refine r_get X inw_X2 G 0 rfl rfl 5 (by decide) fl_X2_32 (v := .int (Rd_start RD2)) rfl dX2_note_14 ?_
    obtain ⟨RD3, eRD3, hf⟩ := nm_some hf
    refine r_put X inw_X2 tyX2 tyX2_ok nmX2 G 0 rfl rfl 3 (by decide) fl_X2_26 rfl rfl rfl (Nat.le_of_ble_eq_true rfl) (ws' := kRd k ot aRD (RD3)) (by subst eRD3; rfl) dX2_note_17 (fun H locs G => ?_)
    cases hf
    exact e_mv X G dX2_note_20
theorem mk_X2_note : MV yX2_note cX2_note 2 none 1 := ⟨co_X2_note, in_X2, im_X2_note, se_X2_note, by decide +kernel, by decide +kernel⟩
noncomputable def FX2_openLine (RD : RdT) (PL : PlT) : Option (Int32 × RdT × PlT) :=
  nm (sRd_word RD (Rd_value RD)) fun RD1 =>
  nm (Rd_word RD1) fun x2 =>
  if x2 = (10 : Int32) ∨ x2 = (11 : Int32) ∨ x2 = (12 : Int32) then (
    some ((2 : Int32), RD1, PL)
  ) else (
  if x2 = (13 : Int32) then (
    (FX1_addWorker PL).bind fun r5 =>
    if (bI r5.1) = 0 then (
      (FX2_note RD1 (4 : Int32)).bind fun r7 =>
      some ((1 : Int32), r7, r5.2)
    ) else (
      some ((1 : Int32), RD1, r5.2)
    )
  ) else (
    some ((-1 : Int32), RD1, PL)
  ))
set_option maxHeartbeats 4000000 in
set_option maxRecDepth 100000 in
theorem ctX2_openLine {l : Launch} {D : va_G} {k : Nat → ClassId} {Z : ZT} (hZ : ZOK Z) (ot : Nat) (aRD : Nat → Nat) (aPL : Nat → Nat) {RD : RdT} {PL : PlT} {q : Int32 × RdT × PlT} (hf : FX2_openLine RD PL = some q) :
    CM l D k Z yX2_openLine cX2_openLine 1 (some .int) 1 21 [.ref ot] (some (.int q.1)) (kRd k ot aRD (RD) ++ (kPl k (aRD 0) aPL (PL))) (kRd k ot aRD (q.2.1) ++ (kPl k (aRD 0) aPL (q.2.2))) := by
  refine CM.start hZ (by decide) (Nat.le_of_ble_eq_true rfl) ?_
  intro p e s m below meth c ls X hl G
  have hx := X.1
  have hb := X.2.1
  have hl : lv_has ls 1 [(0, .ref ot)] := hl
  unfold FX2_openLine at hf
  refine lv_aload_n hx hb dX2_openLine_0 rfl (lv_at hl 0 rfl) ?_
  refine lv_aload_n hx hb dX2_openLine_1 rfl (lv_at hl 0 rfl) ?_
  refine r_get X inw_X2 G 0 rfl rfl 6 (by decide) fl_X2_35 (v := .int (Rd_value RD)) rfl dX2_openLine_2 ?_
  obtain ⟨RD1, eRD1, hf⟩ := nm_some hf
  refine r_put X inw_X2 tyX2 tyX2_ok nmX2 G 0 rfl rfl 8 (by decide) fl_X2_41 rfl rfl rfl (Nat.le_of_ble_eq_true rfl) (ws' := kRd k ot aRD (RD1) ++ (kPl k (aRD 0) aPL (PL))) (by subst eRD1; rfl) dX2_openLine_5 (fun H locs G => ?_)
  refine lv_aload_n hx hb dX2_openLine_8 rfl (lv_at hl 0 rfl) ?_
  refine r_get X inw_X2 G 0 rfl rfl 8 (by decide) fl_X2_41 (v := .int (Rd_word RD1)) rfl dX2_openLine_9 ?_
  obtain ⟨x2, ex2, hf⟩ := nm_some hf
  refine r_top (congrArg Value.int ex2) ?_
  by_cases c3 : x2 = (10 : Int32) ∨ x2 = (11 : Int32) ∨ x2 = (12 : Int32)
  · replace hf := if_t hf c3
    refine r_tsw X (tgt := 44) dX2_openLine_12 (by rcases c3 with c3 | c3 | c3 <;> (rw [c3]; decide +kernel)) (by rcases c3 with c3 | c3 | c3 <;> (rw [c3]; decide +kernel)) ?_
    refine lv_iconst (v := 2) hx hb dX2_openLine_44 (by decide) ?_
    cases hf
    exact e_mi X G dX2_openLine_45
  replace hf := if_f hf c3
  by_cases c4 : x2 = (13 : Int32)
  · replace hf := if_t hf c4
    refine r_tsw X (tgt := 46) dX2_openLine_12 (by rw [c4]; decide +kernel) (by rw [c4]; decide +kernel) ?_
    refine lv_aload_n hx hb dX2_openLine_46 rfl (lv_at hl 0 rfl) ?_
    refine r_get X inw_X2 G 0 rfl rfl 0 (by decide) fl_X2_12 (v := .ref (aRD 0)) rfl dX2_openLine_47 ?_
    obtain ⟨r5, hcr5, hf⟩ := bd_some hf
    refine p_N (st1 := [.int (bI r5.1)]) (wr := kRd k ot aRD (RD1)) (ws' := kRd k ot aRD (RD1) ++ (kPl k (aRD 0) aPL (r5.2))) (run_V (rest := []) X (ctX1_addWorker hZ (aRD 0) aPL hcr5) mk_X1_addWorker ml_X2_94 ⟨(Nat.le_of_ble_eq_true rfl), (Nat.le_of_ble_eq_true rfl)⟩ G [2, 3, 4, 5, 6, 7] rfl rfl 2 rfl rfl rfl hl.1 rfl (Nat.le_of_ble_eq_true rfl) dX2_openLine_50 ⟨Nat.zero_le _, Nat.zero_le _⟩) rfl G [2, 3, 4, 5, 6, 7] [0, 1] 8 rfl rfl rfl rfl rfl (by decide) (by decide) rfl (fun H locs G => ?_)
    refine lv_if_ne (tgt := 61) hx hb dX2_openLine_53 (by decide) (fun c6 => ?_) (fun c6 => ?_)
    · replace hf := if_f hf c6
      refine lv_iconst (v := 1) hx hb dX2_openLine_61 (by decide) ?_
      cases hf
      exact e_mi X G dX2_openLine_62
    · replace hf := if_t hf c6
      refine lv_aload_n hx hb dX2_openLine_56 rfl (lv_at hl 0 rfl) ?_
      refine lv_iconst (v := 4) hx hb dX2_openLine_57 (by decide) ?_
      obtain ⟨r7, hcr7, hf⟩ := bd_some hf
      refine p_N (st1 := []) (wr := kPl k (aRD 0) aPL (r5.2)) (ws' := kRd k ot aRD (r7) ++ (kPl k (aRD 0) aPL (r5.2))) (run_V (rest := []) X (ctX2_note hZ ot aRD hcr7) mk_X2_note ml_X2_98 ⟨(Nat.le_of_ble_eq_true rfl), (Nat.le_of_ble_eq_true rfl)⟩ G [0, 1] rfl rfl 0 rfl rfl rfl hl.1 rfl (Nat.le_of_ble_eq_true rfl) dX2_openLine_58 ⟨Nat.zero_le _, Nat.zero_le _⟩) rfl G [0, 1] [2, 3, 4, 5, 6, 7] 8 rfl rfl rfl rfl rfl (by decide) (by decide) rfl (fun H locs G => ?_)
      refine lv_iconst (v := 1) hx hb dX2_openLine_61 (by decide) ?_
      cases hf
      exact e_mi X G dX2_openLine_62
  replace hf := if_f hf c4
  have hd := tsw_d (x := x2) (lo' := 10) (hi' := 13) (dflt := 51) (offs := #[32, 32, 32, 34]) [(10 : Int32), (11 : Int32), (12 : Int32), (13 : Int32)] (by
      intro k hk
      simp only [List.mem_cons, List.not_mem_nil, or_false] at hk
      rcases hk with rfl | rfl | rfl | rfl
      · exact fun z => c3 (Or.inl z)
      · exact fun z => c3 (Or.inr (Or.inl z))
      · exact fun z => c3 (Or.inr (Or.inr (z)))
      · exact c4
      ) 3 (by decide) (by decide +kernel)
  refine r_tsw X (tgt := 63) dX2_openLine_12 (by rw [hd.1]; rfl) hd.2 ?_
  refine lv_iconst (v := -1) hx hb dX2_openLine_63 (by decide) ?_
  cases hf
  exact e_mi X G dX2_openLine_64
theorem mk_X2_openLine : MV yX2_openLine cX2_openLine 1 (some .int) 0 := ⟨co_X2_openLine, in_X2, im_X2_openLine, se_X2_openLine, by decide +kernel, by decide +kernel⟩
noncomputable def FX2_openStep_j54 (r4 : Int32 × PlT) (vJ6 : RdT) : Option (Int32 × RdT × PlT) :=
  if (Rd_word vJ6) = (8 : Int32) then (
    some ((4 : Int32), vJ6, r4.2)
  ) else (
    if (Rd_word vJ6) = (9 : Int32) then (
      some ((4 : Int32), vJ6, r4.2)
    ) else (
      some ((2 : Int32), vJ6, r4.2)
    )
  )
noncomputable def FX2_openStep (RD : RdT) (PL : PlT) : Option (Int32 × RdT × PlT) :=
  nm (sRd_word RD (Rd_value RD)) fun RD1 =>
  if (Rd_word RD1) < 0 then (
    some ((-1 : Int32), RD1, PL)
  ) else (
    if (Rd_word RD1) ≤ (9 : Int32) then (
      (FX1_addStep PL (Rd_word RD1)).bind fun r4 =>
      nm (sRd_cell RD1 r4.1) fun RD5 =>
      if (Rd_cell RD5) = (-1 : Int32) then (
        (FX2_note RD5 (3 : Int32)).bind fun r10 =>
        FX2_openStep_j54 r4 r10
      ) else (
        FX2_openStep_j54 r4 RD5
      )
    ) else (
      some ((-1 : Int32), RD1, PL)
    )
  )
set_option maxHeartbeats 4000000 in
set_option maxRecDepth 100000 in
theorem ctX2_openStep {l : Launch} {D : va_G} {k : Nat → ClassId} {Z : ZT} (hZ : ZOK Z) (ot : Nat) (aRD : Nat → Nat) (aPL : Nat → Nat) {RD : RdT} {PL : PlT} {q : Int32 × RdT × PlT} (hf : FX2_openStep RD PL = some q) :
    CM l D k Z yX2_openStep cX2_openStep 1 (some .int) 1 23 [.ref ot] (some (.int q.1)) (kRd k ot aRD (RD) ++ (kPl k (aRD 0) aPL (PL))) (kRd k ot aRD (q.2.1) ++ (kPl k (aRD 0) aPL (q.2.2))) := by
  refine CM.start hZ (by decide) (Nat.le_of_ble_eq_true rfl) ?_
  intro p e s m below meth c ls X hl G
  have hx := X.1
  have hb := X.2.1
  have hl : lv_has ls 1 [(0, .ref ot)] := hl
  unfold FX2_openStep at hf
  refine lv_aload_n hx hb dX2_openStep_0 rfl (lv_at hl 0 rfl) ?_
  refine lv_aload_n hx hb dX2_openStep_1 rfl (lv_at hl 0 rfl) ?_
  refine r_get X inw_X2 G 0 rfl rfl 6 (by decide) fl_X2_35 (v := .int (Rd_value RD)) rfl dX2_openStep_2 ?_
  obtain ⟨RD1, eRD1, hf⟩ := nm_some hf
  refine r_put X inw_X2 tyX2 tyX2_ok nmX2 G 0 rfl rfl 8 (by decide) fl_X2_41 rfl rfl rfl (Nat.le_of_ble_eq_true rfl) (ws' := kRd k ot aRD (RD1) ++ (kPl k (aRD 0) aPL (PL))) (by subst eRD1; rfl) dX2_openStep_5 (fun H locs G => ?_)
  refine lv_aload_n hx hb dX2_openStep_8 rfl (lv_at hl 0 rfl) ?_
  refine r_get X inw_X2 G 0 rfl rfl 8 (by decide) fl_X2_41 (v := .int (Rd_word RD1)) rfl dX2_openStep_9 ?_
  refine lv_if_lt (tgt := 24) hx hb dX2_openStep_12 (by decide) (fun c2 => ?_) (fun c2 => ?_)
  · replace hf := if_t hf c2
    refine lv_iconst (v := -1) hx hb dX2_openStep_24 (by decide) ?_
    cases hf
    exact e_mi X G dX2_openStep_25
  · replace hf := if_f hf c2
    refine lv_aload_n hx hb dX2_openStep_15 rfl (lv_at hl 0 rfl) ?_
    refine r_get X inw_X2 G 0 rfl rfl 8 (by decide) fl_X2_41 (v := .int (Rd_word RD1)) rfl dX2_openStep_16 ?_
    refine lv_bipush (v := 9) hx hb dX2_openStep_19 (by decide) ?_
    refine lv_icmp_le (tgt := 26) hx hb dX2_openStep_21 (by decide) (fun c3 => ?_) (fun c3 => ?_)
    · replace hf := if_t hf c3
      refine lv_aload_n hx hb dX2_openStep_26 rfl (lv_at hl 0 rfl) ?_
      refine lv_aload_n hx hb dX2_openStep_27 rfl (lv_at hl 0 rfl) ?_
      refine r_get X inw_X2 G 0 rfl rfl 0 (by decide) fl_X2_12 (v := .ref (aRD 0)) rfl dX2_openStep_28 ?_
      refine lv_aload_n hx hb dX2_openStep_31 rfl (lv_at hl 0 rfl) ?_
      refine r_get X inw_X2 G 0 rfl rfl 8 (by decide) fl_X2_41 (v := .int (Rd_word RD1)) rfl dX2_openStep_32 ?_
      obtain ⟨r4, hcr4, hf⟩ := bd_some hf
      refine p_N (st1 := [.int (r4.1), .ref ot]) (wr := kRd k ot aRD (RD1)) (ws' := kRd k ot aRD (RD1) ++ (kPl k (aRD 0) aPL (r4.2))) (run_V (rest := [.ref ot]) X (ctX1_addStep hZ (aRD 0) aPL hcr4) mk_X1_addStep ml_X2_102 ⟨(Nat.le_of_ble_eq_true rfl), (Nat.le_of_ble_eq_true rfl)⟩ G [2, 3, 4, 5, 6, 7] rfl rfl 2 rfl rfl rfl hl.1 rfl (Nat.le_of_ble_eq_true rfl) dX2_openStep_35 ⟨Nat.zero_le _, Nat.zero_le _⟩) rfl G [2, 3, 4, 5, 6, 7] [0, 1] 8 rfl rfl rfl rfl rfl (by decide) (by decide) rfl (fun H locs G => ?_)
      obtain ⟨RD5, eRD5, hf⟩ := nm_some hf
      refine r_put X inw_X2 tyX2 tyX2_ok nmX2 G 0 rfl rfl 9 (by decide) fl_X2_44 rfl rfl rfl (Nat.le_of_ble_eq_true rfl) (ws' := kRd k ot aRD (RD5) ++ (kPl k (aRD 0) aPL (r4.2))) (by subst eRD5; rfl) dX2_openStep_38 (fun H locs G => ?_)
      refine lv_aload_n hx hb dX2_openStep_41 rfl (lv_at hl 0 rfl) ?_
      refine r_get X inw_X2 G 0 rfl rfl 9 (by decide) fl_X2_44 (v := .int (Rd_cell RD5)) rfl dX2_openStep_42 ?_
      refine lv_iconst (v := -1) hx hb dX2_openStep_45 (by decide) ?_
      have JJ6 : ∀ (vJ6 : RdT) (H : Heap) (locs : List Loc) (ls : Array Slot), Wo D (wA (kRd k ot aRD (RD) ++ (kPl k (aRD 0) aPL (PL)))) s.heap (kRd k ot aRD (vJ6) ++ (kPl k (aRD 0) aPL (r4.2))) H locs → lv_has ls 1 [(0, .ref ot)] → FX2_openStep_j54 r4 vJ6 = some q → W p l e (rmz 1 23) s m [.ref ot].toArray below meth c H locs 0 0 (MQ below (Qm D (some (.int q.1)) (kRd k ot aRD (RD) ++ (kPl k (aRD 0) aPL (PL))) (kRd k ot aRD (q.2.1) ++ (kPl k (aRD 0) aPL (q.2.2)))) [.ref ot].toArray s 0 0 (wA (kRd k ot aRD (RD) ++ (kPl k (aRD 0) aPL (PL))))) (F0 m 54 ls []) := by
        intro vJ6 H locs ls G hl hf
        unfold FX2_openStep_j54 at hf
        refine lv_aload_n hx hb dX2_openStep_54 rfl (lv_at hl 0 rfl) ?_
        refine r_get X inw_X2 G 0 rfl rfl 8 (by decide) fl_X2_41 (v := .int (Rd_word vJ6)) rfl dX2_openStep_55 ?_
        refine lv_bipush (v := 8) hx hb dX2_openStep_58 (by decide) ?_
        refine lv_icmp_eq (tgt := 72) hx hb dX2_openStep_60 (by decide) (fun c7 => ?_) (fun c7 => ?_)
        · replace hf := if_t hf c7
          refine lv_iconst (v := 4) hx hb dX2_openStep_72 (by decide) ?_
          refine lv_goto (tgt := 77) hx hb dX2_openStep_73 (by decide) ?_
          cases hf
          exact e_mi X G dX2_openStep_77
        · replace hf := if_f hf c7
          refine lv_aload_n hx hb dX2_openStep_63 rfl (lv_at hl 0 rfl) ?_
          refine r_get X inw_X2 G 0 rfl rfl 8 (by decide) fl_X2_41 (v := .int (Rd_word vJ6)) rfl dX2_openStep_64 ?_
          refine lv_bipush (v := 9) hx hb dX2_openStep_67 (by decide) ?_
          refine lv_icmp_ne (tgt := 76) hx hb dX2_openStep_69 (by decide) (fun c8 => ?_) (fun c8 => ?_)
          · replace hf := if_f hf c8
            refine lv_iconst (v := 2) hx hb dX2_openStep_76 (by decide) ?_
            cases hf
            exact e_mi X G dX2_openStep_77
          · replace hf := if_t hf c8
            refine lv_iconst (v := 4) hx hb dX2_openStep_72 (by decide) ?_
            refine lv_goto (tgt := 77) hx hb dX2_openStep_73 (by decide) ?_
            cases hf
            exact e_mi X G dX2_openStep_77
      refine lv_icmp_ne (tgt := 54) hx hb dX2_openStep_46 (by decide) (fun c9 => ?_) (fun c9 => ?_)
      · replace hf := if_f hf c9
        exact JJ6 RD5 _ _ _ G (lv_sub hl [0] rfl) hf
      · replace hf := if_t hf c9
        refine lv_aload_n hx hb dX2_openStep_49 rfl (lv_at hl 0 rfl) ?_
        refine lv_iconst (v := 3) hx hb dX2_openStep_50 (by decide) ?_
        obtain ⟨r10, hcr10, hf⟩ := bd_some hf
        refine p_N (st1 := []) (wr := kPl k (aRD 0) aPL (r4.2)) (ws' := kRd k ot aRD (r10) ++ (kPl k (aRD 0) aPL (r4.2))) (run_V (rest := []) X (ctX2_note hZ ot aRD hcr10) mk_X2_note ml_X2_98 ⟨(Nat.le_of_ble_eq_true rfl), (Nat.le_of_ble_eq_true rfl)⟩ G [0, 1] rfl rfl 0 rfl rfl rfl hl.1 rfl (Nat.le_of_ble_eq_true rfl) dX2_openStep_51 ⟨Nat.zero_le _, Nat.zero_le _⟩) rfl G [0, 1] [2, 3, 4, 5, 6, 7] 8 rfl rfl rfl rfl rfl (by decide) (by decide) rfl (fun H locs G => ?_)
        exact JJ6 r10 _ _ _ G (lv_sub hl [0] rfl) hf
    · replace hf := if_f hf c3
      refine lv_iconst (v := -1) hx hb dX2_openStep_24 (by decide) ?_
      cases hf
      exact e_mi X G dX2_openStep_25
theorem mk_X2_openStep : MV yX2_openStep cX2_openStep 1 (some .int) 0 := ⟨co_X2_openStep, in_X2, im_X2_openStep, se_X2_openStep, by decide +kernel, by decide +kernel⟩
noncomputable def FX2_seekStrangers_j72 (PL : PlT) (stL1 : Int32 × RdT) (stL3 : Int32 × RdT) (r8 : Int32) (vJ9 : Int32) : Option ((Int32 × RdT) ⊕ (RdT)) :=
  if vJ9 = 0 then (
    nm (stL3.1 + 1) fun x11 =>
    some (.inl (x11, stL3.2))
  ) else (
    if r8 = stL1.1 then (
      nm (sRd_fault stL3.2 (5 : Int32)) fun RD13 =>
      (FX1_cellOf PL stL1.1 stL3.1).bind fun r14 =>
      (FX9_at 96 (Rd_spots RD13) r14).bind fun r15 =>
      nm (sRd_spot RD13 r15) fun RD16 =>
      nm (stL3.1 + 1) fun x17 =>
      some (.inl (x17, RD16))
    ) else (
      if r8 < (Pl_workers PL) then (
        nm (stL3.1 + 1) fun x19 =>
        some (.inl (x19, stL3.2))
      ) else (
        nm (sRd_fault stL3.2 (5 : Int32)) fun RD20 =>
        (FX1_cellOf PL stL1.1 stL3.1).bind fun r21 =>
        (FX9_at 96 (Rd_spots RD20) r21).bind fun r22 =>
        nm (sRd_spot RD20 r22) fun RD23 =>
        nm (stL3.1 + 1) fun x24 =>
        some (.inl (x24, RD23))
      )
    )
  )
noncomputable def FX2_seekStrangers_15 (PL : PlT) (stL1 : Int32 × RdT) : (Int32 × RdT) → Option ((Int32 × RdT) ⊕ (RdT)) := fun stL3 =>
  ix stL1.1 8 <|
  if (Pl_lengths PL (Int32.toNatClampNeg stL1.1)) ≤ stL3.1 then (
    some (.inr stL3.2)
  ) else (
    if (Rd_fault stL3.2) = 0 then (
      (FX1_kindAt PL stL1.1 stL3.1).bind fun r7 =>
      (FX1_numberAt PL stL1.1 stL3.1).bind fun r8 =>
      if r7 = (5 : Int32) then (
        FX2_seekStrangers_j72 PL stL1 stL3 r8 (1 : Int32)
      ) else (
        if r7 = (6 : Int32) then (
          FX2_seekStrangers_j72 PL stL1 stL3 r8 (1 : Int32)
        ) else (
          FX2_seekStrangers_j72 PL stL1 stL3 r8 (0 : Int32)
        )
      )
    ) else (
      some (.inr stL3.2)
    )
  )
noncomputable def FX2_seekStrangers_2 (PL : PlT) : (Int32 × RdT) → Option ((Int32 × RdT) ⊕ (RdT)) := fun stL1 =>
  if (Pl_workers PL) ≤ stL1.1 then (
    some (.inr stL1.2)
  ) else (
    (itr (FX2_seekStrangers_15 PL stL1) ((0 : Int32), stL1.2)).bind fun uL3 =>
    nm (stL1.1 + 1) fun x27 =>
    some (.inl (x27, uL3))
  )
noncomputable def FX2_seekStrangers (RD : RdT) (PL : PlT) : Option (RdT) :=
  (itr (FX2_seekStrangers_2 PL) ((0 : Int32), RD)).bind fun uL1 =>
  some uL1
set_option maxHeartbeats 4000000 in
set_option maxRecDepth 100000 in
theorem ctX2_seekStrangers {l : Launch} {D : va_G} {k : Nat → ClassId} {Z : ZT} (hZ : ZOK Z) (ot : Nat) (aRD : Nat → Nat) (aPL : Nat → Nat) {RD : RdT} {PL : PlT} {q : RdT} (hf : FX2_seekStrangers RD PL = some q) :
    CM l D k Z yX2_seekStrangers cX2_seekStrangers 6 none 2 44 [.ref ot] none (kRd k ot aRD (RD) ++ (kPl k (aRD 0) aPL (PL))) (kRd k ot aRD (q) ++ (kPl k (aRD 0) aPL (PL))) := by
  refine CM.start hZ (by decide) (Nat.le_of_ble_eq_true rfl) ?_
  intro p e s m below meth c ls X hl G
  have hx := X.1
  have hb := X.2.1
  have hl : lv_has ls 6 [(0, .ref ot)] := hl
  unfold FX2_seekStrangers at hf
  refine lv_iconst (v := 0) hx hb dX2_seekStrangers_0 (by decide) ?_
  refine lv_istore_n (lv' := [(1, .int (0 : Int32)), (0, .ref ot)]) hx hb dX2_seekStrangers_1 rfl hl (by decide) rfl (fun ls hl => ?_)
  obtain ⟨exL1, hitL1, hfL1⟩ := bd_some hf
  obtain ⟨nL1, hitL1⟩ := itr_ex hitL1
  have KL1_0 : ∀ (u : RdT) (H : Heap) (locs : List Loc) (ls : Array Slot), exL1 = u → Wo D (wA (kRd k ot aRD (RD) ++ (kPl k (aRD 0) aPL (PL)))) s.heap (kRd k ot aRD (u) ++ (kPl k (aRD 0) aPL (PL))) H locs → lv_has ls 6 [] → W p l e (rmz 2 44) s m [.ref ot].toArray below meth c H locs 0 0 (MQ below (Qm D none (kRd k ot aRD (RD) ++ (kPl k (aRD 0) aPL (PL))) (kRd k ot aRD (q) ++ (kPl k (aRD 0) aPL (PL)))) [.ref ot].toArray s 0 0 (wA (kRd k ot aRD (RD) ++ (kPl k (aRD 0) aPL (PL))))) (F0 m 134 ls []) := by
    intro uL1 H locs ls hex G hl
    rw [hex] at hfL1
    have hf := hfL1
    cases hf
    exact e_mv X G dX2_seekStrangers_134
  have LL1 : ∀ (n : Nat) (stL1 : Int32 × RdT) (H : Heap) (locs : List Loc) (ls : Array Slot), Wo D (wA (kRd k ot aRD (RD) ++ (kPl k (aRD 0) aPL (PL)))) s.heap (kRd k ot aRD (stL1.2) ++ (kPl k (aRD 0) aPL (PL))) H locs → lv_has ls 6 [(0, .ref ot), (1, .int (stL1.1))] → it (FX2_seekStrangers_2 PL) n stL1 = some exL1 → W p l e (rmz 2 44) s m [.ref ot].toArray below meth c H locs 0 0 (MQ below (Qm D none (kRd k ot aRD (RD) ++ (kPl k (aRD 0) aPL (PL))) (kRd k ot aRD (q) ++ (kPl k (aRD 0) aPL (PL)))) [.ref ot].toArray s 0 0 (wA (kRd k ot aRD (RD) ++ (kPl k (aRD 0) aPL (PL))))) (F0 m 2 ls []) := by
    intro n
    induction n with
    | zero =>
      intro stL1 H locs ls G hl hit
      exact (it_zero hit).elim
    | succ n ih =>
      intro stL1 H locs ls G hl hit
      obtain ⟨oL1, hf, hoL1⟩ := it_bd hit
      unfold FX2_seekStrangers_2 at hf
      refine lv_iload_n hx hb dX2_seekStrangers_2 rfl (lv_at hl 1 rfl) ?_
      refine lv_aload_n hx hb dX2_seekStrangers_3 rfl (lv_at hl 0 rfl) ?_
      refine r_get X inw_X2 G 0 rfl rfl 0 (by decide) fl_X2_12 (v := .ref (aRD 0)) rfl dX2_seekStrangers_4 ?_
      refine r_get X inw_X1 G 2 rfl rfl 0 (by decide) fl_X2_64 (v := .int (Pl_workers PL)) rfl dX2_seekStrangers_7 ?_
      refine lv_icmp_ge (tgt := 134) hx hb dX2_seekStrangers_10 (by decide) (fun c2 => ?_) (fun c2 => ?_)
      · replace hf := if_t hf c2
        cases hf
        exact KL1_0 stL1.2 _ _ _ (it_out hoL1) G (lv_sub hl [] rfl)
      · replace hf := if_f hf c2
        refine lv_iconst (v := 0) hx hb dX2_seekStrangers_13 (by decide) ?_
        refine lv_istore_n (lv' := [(2, .int (0 : Int32)), (0, .ref ot), (1, .int (stL1.1))]) hx hb dX2_seekStrangers_14 rfl hl (by decide) rfl (fun ls hl => ?_)
        obtain ⟨exL3, hitL3, hfL3⟩ := bd_some hf
        obtain ⟨nL3, hitL3⟩ := itr_ex hitL3
        have KL3_0 : ∀ (u : RdT) (H : Heap) (locs : List Loc) (ls : Array Slot), exL3 = u → Wo D (wA (kRd k ot aRD (RD) ++ (kPl k (aRD 0) aPL (PL)))) s.heap (kRd k ot aRD (u) ++ (kPl k (aRD 0) aPL (PL))) H locs → lv_has ls 6 [(0, .ref ot), (1, .int (stL1.1))] → W p l e (rmz 2 44) s m [.ref ot].toArray below meth c H locs 0 0 (MQ below (Qm D none (kRd k ot aRD (RD) ++ (kPl k (aRD 0) aPL (PL))) (kRd k ot aRD (q) ++ (kPl k (aRD 0) aPL (PL)))) [.ref ot].toArray s 0 0 (wA (kRd k ot aRD (RD) ++ (kPl k (aRD 0) aPL (PL))))) (F0 m 128 ls []) := by
          intro uL3 H locs ls hex G hl
          rw [hex] at hfL3
          have hf := hfL3
          obtain ⟨x27, ex27, hf⟩ := nm_some hf
          refine lv_iinc (v := x27) (lv' := [(1, .int x27), (0, .ref ot)]) hx hb dX2_seekStrangers_128 hl (k := 1) rfl (by subst ex27; rfl) (by decide) rfl (fun ls hl => ?_)
          refine lv_goto (tgt := 2) hx hb dX2_seekStrangers_131 (by decide) ?_
          cases hf
          exact ih (x27, uL3) _ _ _ G (lv_sub hl [1, 0] rfl) hoL1
        have LL3 : ∀ (n : Nat) (stL3 : Int32 × RdT) (H : Heap) (locs : List Loc) (ls : Array Slot), Wo D (wA (kRd k ot aRD (RD) ++ (kPl k (aRD 0) aPL (PL)))) s.heap (kRd k ot aRD (stL3.2) ++ (kPl k (aRD 0) aPL (PL))) H locs → lv_has ls 6 [(0, .ref ot), (1, .int (stL1.1)), (2, .int (stL3.1))] → it (FX2_seekStrangers_15 PL stL1) n stL3 = some exL3 → W p l e (rmz 2 44) s m [.ref ot].toArray below meth c H locs 0 0 (MQ below (Qm D none (kRd k ot aRD (RD) ++ (kPl k (aRD 0) aPL (PL))) (kRd k ot aRD (q) ++ (kPl k (aRD 0) aPL (PL)))) [.ref ot].toArray s 0 0 (wA (kRd k ot aRD (RD) ++ (kPl k (aRD 0) aPL (PL))))) (F0 m 15 ls []) := by
          intro n
          induction n with
          | zero =>
            intro stL3 H locs ls G hl hit
            exact (it_zero hit).elim
          | succ n ih =>
            intro stL3 H locs ls G hl hit
            obtain ⟨oL3, hf, hoL3⟩ := it_bd hit
            unfold FX2_seekStrangers_15 at hf
            refine lv_iload_n hx hb dX2_seekStrangers_15 rfl (lv_at hl 2 rfl) ?_
            refine lv_aload_n hx hb dX2_seekStrangers_16 rfl (lv_at hl 0 rfl) ?_
            refine r_get X inw_X2 G 0 rfl rfl 0 (by decide) fl_X2_12 (v := .ref (aRD 0)) rfl dX2_seekStrangers_17 ?_
            refine r_get X inw_X1 G 2 rfl rfl 3 (by decide) fl_X2_67 (v := .ref (aPL 0)) rfl dX2_seekStrangers_20 ?_
            refine lv_iload_n hx hb dX2_seekStrangers_23 rfl (lv_at hl 1 rfl) ?_
            obtain ⟨h4, hf⟩ := ix_some hf
            refine r_iald X G 3 rfl h4 dX2_seekStrangers_24 ?_
            refine lv_icmp_ge (tgt := 128) hx hb dX2_seekStrangers_25 (by decide) (fun c5 => ?_) (fun c5 => ?_)
            · replace hf := if_t hf c5
              cases hf
              exact KL3_0 stL3.2 _ _ _ (it_out hoL3) G (lv_sub hl [0, 1] rfl)
            · replace hf := if_f hf c5
              refine lv_aload_n hx hb dX2_seekStrangers_28 rfl (lv_at hl 0 rfl) ?_
              refine r_get X inw_X2 G 0 rfl rfl 2 (by decide) fl_X2_22 (v := .int (Rd_fault stL3.2)) rfl dX2_seekStrangers_29 ?_
              refine lv_if_ne (tgt := 128) hx hb dX2_seekStrangers_32 (by decide) (fun c6 => ?_) (fun c6 => ?_)
              · replace hf := if_f hf c6
                cases hf
                exact KL3_0 stL3.2 _ _ _ (it_out hoL3) G (lv_sub hl [0, 1] rfl)
              · replace hf := if_t hf c6
                refine lv_aload_n hx hb dX2_seekStrangers_35 rfl (lv_at hl 0 rfl) ?_
                refine r_get X inw_X2 G 0 rfl rfl 0 (by decide) fl_X2_12 (v := .ref (aRD 0)) rfl dX2_seekStrangers_36 ?_
                refine lv_iload_n hx hb dX2_seekStrangers_39 rfl (lv_at hl 1 rfl) ?_
                refine lv_iload_n hx hb dX2_seekStrangers_40 rfl (lv_at hl 2 rfl) ?_
                obtain ⟨r7, hcr7, hf⟩ := bd_some hf
                refine p_R (st1 := [.int r7]) (run_V (rest := []) X (ctX1_kindAt hZ (aRD 0) aPL hcr7) mk_X1_kindAt ml_X2_70 ⟨(Nat.le_of_ble_eq_true rfl), (Nat.le_of_ble_eq_true rfl)⟩ G [2, 3, 4, 5, 6, 7] rfl rfl 2 rfl rfl rfl hl.1 rfl (Nat.le_of_ble_eq_true rfl) dX2_seekStrangers_41 ⟨Nat.zero_le _, Nat.zero_le _⟩) rfl ?_
                refine lv_istore_n (lv' := [(3, .int r7), (0, .ref ot), (1, .int (stL1.1)), (2, .int (stL3.1))]) hx hb dX2_seekStrangers_44 rfl hl (by decide) rfl (fun ls hl => ?_)
                refine lv_aload_n hx hb dX2_seekStrangers_45 rfl (lv_at hl 1 rfl) ?_
                refine r_get X inw_X2 G 0 rfl rfl 0 (by decide) fl_X2_12 (v := .ref (aRD 0)) rfl dX2_seekStrangers_46 ?_
                refine lv_iload_n hx hb dX2_seekStrangers_49 rfl (lv_at hl 2 rfl) ?_
                refine lv_iload_n hx hb dX2_seekStrangers_50 rfl (lv_at hl 3 rfl) ?_
                obtain ⟨r8, hcr8, hf⟩ := bd_some hf
                refine p_R (st1 := [.int r8]) (run_V (rest := []) X (ctX1_numberAt hZ (aRD 0) aPL hcr8) mk_X1_numberAt ml_X2_74 ⟨(Nat.le_of_ble_eq_true rfl), (Nat.le_of_ble_eq_true rfl)⟩ G [2, 3, 4, 5, 6, 7] rfl rfl 2 rfl rfl rfl hl.1 rfl (Nat.le_of_ble_eq_true rfl) dX2_seekStrangers_51 ⟨Nat.zero_le _, Nat.zero_le _⟩) rfl ?_
                refine lv_istore (lv' := [(4, .int r8), (3, .int r7), (0, .ref ot), (1, .int (stL1.1)), (2, .int (stL3.1))]) hx hb dX2_seekStrangers_54 hl (by decide) rfl (fun ls hl => ?_)
                refine lv_iload_n hx hb dX2_seekStrangers_56 rfl (lv_at hl 1 rfl) ?_
                refine lv_iconst (v := 5) hx hb dX2_seekStrangers_57 (by decide) ?_
                have JJ9 : ∀ (vJ9 : Int32) (H : Heap) (locs : List Loc) (ls : Array Slot), Wo D (wA (kRd k ot aRD (RD) ++ (kPl k (aRD 0) aPL (PL)))) s.heap (kRd k ot aRD (stL3.2) ++ (kPl k (aRD 0) aPL (PL))) H locs → lv_has ls 6 [(0, .ref ot), (1, .int (stL1.1)), (2, .int (stL3.1)), (4, .int r8)] → FX2_seekStrangers_j72 PL stL1 stL3 r8 vJ9 = some oL3 → W p l e (rmz 2 44) s m [.ref ot].toArray below meth c H locs 0 0 (MQ below (Qm D none (kRd k ot aRD (RD) ++ (kPl k (aRD 0) aPL (PL))) (kRd k ot aRD (q) ++ (kPl k (aRD 0) aPL (PL)))) [.ref ot].toArray s 0 0 (wA (kRd k ot aRD (RD) ++ (kPl k (aRD 0) aPL (PL))))) (F0 m 72 ls [.int vJ9]) := by
                  intro vJ9 H locs ls G hl hf
                  unfold FX2_seekStrangers_j72 at hf
                  refine lv_istore (lv' := [(5, .int vJ9), (0, .ref ot), (1, .int (stL1.1)), (2, .int (stL3.1)), (4, .int r8)]) hx hb dX2_seekStrangers_72 hl (by decide) rfl (fun ls hl => ?_)
                  refine lv_iload hx hb dX2_seekStrangers_74 (lv_at hl 0 rfl) ?_
                  refine lv_if_eq (tgt := 122) hx hb dX2_seekStrangers_76 (by decide) (fun c10 => ?_) (fun c10 => ?_)
                  · replace hf := if_t hf c10
                    obtain ⟨x11, ex11, hf⟩ := nm_some hf
                    refine lv_iinc (v := x11) (lv' := [(2, .int x11), (5, .int vJ9), (0, .ref ot), (1, .int (stL1.1)), (4, .int r8)]) hx hb dX2_seekStrangers_122 hl (k := 3) rfl (by subst ex11; rfl) (by decide) rfl (fun ls hl => ?_)
                    refine lv_goto (tgt := 15) hx hb dX2_seekStrangers_125 (by decide) ?_
                    cases hf
                    exact ih (x11, stL3.2) _ _ _ G (lv_sub hl [2, 3, 0] rfl) hoL3
                  · replace hf := if_f hf c10
                    refine lv_iload hx hb dX2_seekStrangers_79 (lv_at hl 4 rfl) ?_
                    refine lv_iload_n hx hb dX2_seekStrangers_81 rfl (lv_at hl 2 rfl) ?_
                    refine lv_icmp_eq (tgt := 97) hx hb dX2_seekStrangers_82 (by decide) (fun c12 => ?_) (fun c12 => ?_)
                    · replace hf := if_t hf c12
                      refine lv_aload_n hx hb dX2_seekStrangers_97 rfl (lv_at hl 1 rfl) ?_
                      refine lv_iconst (v := 5) hx hb dX2_seekStrangers_98 (by decide) ?_
                      obtain ⟨RD13, eRD13, hf⟩ := nm_some hf
                      refine r_put X inw_X2 tyX2 tyX2_ok nmX2 G 0 rfl rfl 2 (by decide) fl_X2_22 rfl rfl rfl (Nat.le_of_ble_eq_true rfl) (ws' := kRd k ot aRD (RD13) ++ (kPl k (aRD 0) aPL (PL))) (by subst eRD13; rfl) dX2_seekStrangers_99 (fun H locs G => ?_)
                      refine lv_aload_n hx hb dX2_seekStrangers_102 rfl (lv_at hl 1 rfl) ?_
                      refine lv_aload_n hx hb dX2_seekStrangers_103 rfl (lv_at hl 1 rfl) ?_
                      refine r_get X inw_X2 G 0 rfl rfl 1 (by decide) fl_X2_18 (v := .ref (aRD 1)) rfl dX2_seekStrangers_104 ?_
                      refine lv_aload_n hx hb dX2_seekStrangers_107 rfl (lv_at hl 1 rfl) ?_
                      refine r_get X inw_X2 G 0 rfl rfl 0 (by decide) fl_X2_12 (v := .ref (aRD 0)) rfl dX2_seekStrangers_108 ?_
                      refine lv_iload_n hx hb dX2_seekStrangers_111 rfl (lv_at hl 2 rfl) ?_
                      refine lv_iload_n hx hb dX2_seekStrangers_112 rfl (lv_at hl 3 rfl) ?_
                      obtain ⟨r14, hcr14, hf⟩ := bd_some hf
                      refine p_R (st1 := [.int r14, .ref (aRD 1), .ref ot]) (run_V (rest := [.ref (aRD 1), .ref ot]) X (ctX1_cellOf hZ (aRD 0) aPL hcr14) mk_X1_cellOf ml_X2_77 ⟨(Nat.le_of_ble_eq_true rfl), (Nat.le_of_ble_eq_true rfl)⟩ G [2, 3, 4, 5, 6, 7] rfl rfl 2 rfl rfl rfl hl.1 rfl (Nat.le_of_ble_eq_true rfl) dX2_seekStrangers_113 ⟨Nat.zero_le _, Nat.zero_le _⟩) rfl ?_
                      obtain ⟨r15, hcr15, hf⟩ := bd_some hf
                      refine p_R (st1 := [.int r15, .ref ot]) (run_N (rest := [.ref ot]) X (ctX9_at hZ (aRD 1) hcr15) mk_X9_at mn_X2_80 ⟨(Nat.le_of_ble_eq_true rfl), (Nat.le_of_ble_eq_true rfl)⟩ G [1] rfl rfl rfl hl.1 rfl (Nat.le_of_ble_eq_true rfl) dX2_seekStrangers_116 ⟨Nat.zero_le _, Nat.zero_le _⟩) rfl ?_
                      obtain ⟨RD16, eRD16, hf⟩ := nm_some hf
                      refine r_put X inw_X2 tyX2 tyX2_ok nmX2 G 0 rfl rfl 3 (by decide) fl_X2_26 rfl rfl rfl (Nat.le_of_ble_eq_true rfl) (ws' := kRd k ot aRD (RD16) ++ (kPl k (aRD 0) aPL (PL))) (by subst eRD16; rfl) dX2_seekStrangers_119 (fun H locs G => ?_)
                      obtain ⟨x17, ex17, hf⟩ := nm_some hf
                      refine lv_iinc (v := x17) (lv' := [(2, .int x17), (5, .int vJ9), (0, .ref ot), (1, .int (stL1.1)), (4, .int r8)]) hx hb dX2_seekStrangers_122 hl (k := 3) rfl (by subst ex17; rfl) (by decide) rfl (fun ls hl => ?_)
                      refine lv_goto (tgt := 15) hx hb dX2_seekStrangers_125 (by decide) ?_
                      cases hf
                      exact ih (x17, RD16) _ _ _ G (lv_sub hl [2, 3, 0] rfl) hoL3
                    · replace hf := if_f hf c12
                      refine lv_iload hx hb dX2_seekStrangers_85 (lv_at hl 4 rfl) ?_
                      refine lv_aload_n hx hb dX2_seekStrangers_87 rfl (lv_at hl 1 rfl) ?_
                      refine r_get X inw_X2 G 0 rfl rfl 0 (by decide) fl_X2_12 (v := .ref (aRD 0)) rfl dX2_seekStrangers_88 ?_
                      refine r_get X inw_X1 G 2 rfl rfl 0 (by decide) fl_X2_64 (v := .int (Pl_workers PL)) rfl dX2_seekStrangers_91 ?_
                      refine lv_icmp_lt (tgt := 122) hx hb dX2_seekStrangers_94 (by decide) (fun c18 => ?_) (fun c18 => ?_)
                      · replace hf := if_t hf c18
                        obtain ⟨x19, ex19, hf⟩ := nm_some hf
                        refine lv_iinc (v := x19) (lv' := [(2, .int x19), (5, .int vJ9), (0, .ref ot), (1, .int (stL1.1)), (4, .int r8)]) hx hb dX2_seekStrangers_122 hl (k := 3) rfl (by subst ex19; rfl) (by decide) rfl (fun ls hl => ?_)
                        refine lv_goto (tgt := 15) hx hb dX2_seekStrangers_125 (by decide) ?_
                        cases hf
                        exact ih (x19, stL3.2) _ _ _ G (lv_sub hl [2, 3, 0] rfl) hoL3
                      · replace hf := if_f hf c18
                        refine lv_aload_n hx hb dX2_seekStrangers_97 rfl (lv_at hl 1 rfl) ?_
                        refine lv_iconst (v := 5) hx hb dX2_seekStrangers_98 (by decide) ?_
                        obtain ⟨RD20, eRD20, hf⟩ := nm_some hf
                        refine r_put X inw_X2 tyX2 tyX2_ok nmX2 G 0 rfl rfl 2 (by decide) fl_X2_22 rfl rfl rfl (Nat.le_of_ble_eq_true rfl) (ws' := kRd k ot aRD (RD20) ++ (kPl k (aRD 0) aPL (PL))) (by subst eRD20; rfl) dX2_seekStrangers_99 (fun H locs G => ?_)
                        refine lv_aload_n hx hb dX2_seekStrangers_102 rfl (lv_at hl 1 rfl) ?_
                        refine lv_aload_n hx hb dX2_seekStrangers_103 rfl (lv_at hl 1 rfl) ?_
                        refine r_get X inw_X2 G 0 rfl rfl 1 (by decide) fl_X2_18 (v := .ref (aRD 1)) rfl dX2_seekStrangers_104 ?_
                        refine lv_aload_n hx hb dX2_seekStrangers_107 rfl (lv_at hl 1 rfl) ?_
                        refine r_get X inw_X2 G 0 rfl rfl 0 (by decide) fl_X2_12 (v := .ref (aRD 0)) rfl dX2_seekStrangers_108 ?_
                        refine lv_iload_n hx hb dX2_seekStrangers_111 rfl (lv_at hl 2 rfl) ?_
                        refine lv_iload_n hx hb dX2_seekStrangers_112 rfl (lv_at hl 3 rfl) ?_
                        obtain ⟨r21, hcr21, hf⟩ := bd_some hf
                        refine p_R (st1 := [.int r21, .ref (aRD 1), .ref ot]) (run_V (rest := [.ref (aRD 1), .ref ot]) X (ctX1_cellOf hZ (aRD 0) aPL hcr21) mk_X1_cellOf ml_X2_77 ⟨(Nat.le_of_ble_eq_true rfl), (Nat.le_of_ble_eq_true rfl)⟩ G [2, 3, 4, 5, 6, 7] rfl rfl 2 rfl rfl rfl hl.1 rfl (Nat.le_of_ble_eq_true rfl) dX2_seekStrangers_113 ⟨Nat.zero_le _, Nat.zero_le _⟩) rfl ?_
                        obtain ⟨r22, hcr22, hf⟩ := bd_some hf
                        refine p_R (st1 := [.int r22, .ref ot]) (run_N (rest := [.ref ot]) X (ctX9_at hZ (aRD 1) hcr22) mk_X9_at mn_X2_80 ⟨(Nat.le_of_ble_eq_true rfl), (Nat.le_of_ble_eq_true rfl)⟩ G [1] rfl rfl rfl hl.1 rfl (Nat.le_of_ble_eq_true rfl) dX2_seekStrangers_116 ⟨Nat.zero_le _, Nat.zero_le _⟩) rfl ?_
                        obtain ⟨RD23, eRD23, hf⟩ := nm_some hf
                        refine r_put X inw_X2 tyX2 tyX2_ok nmX2 G 0 rfl rfl 3 (by decide) fl_X2_26 rfl rfl rfl (Nat.le_of_ble_eq_true rfl) (ws' := kRd k ot aRD (RD23) ++ (kPl k (aRD 0) aPL (PL))) (by subst eRD23; rfl) dX2_seekStrangers_119 (fun H locs G => ?_)
                        obtain ⟨x24, ex24, hf⟩ := nm_some hf
                        refine lv_iinc (v := x24) (lv' := [(2, .int x24), (5, .int vJ9), (0, .ref ot), (1, .int (stL1.1)), (4, .int r8)]) hx hb dX2_seekStrangers_122 hl (k := 3) rfl (by subst ex24; rfl) (by decide) rfl (fun ls hl => ?_)
                        refine lv_goto (tgt := 15) hx hb dX2_seekStrangers_125 (by decide) ?_
                        cases hf
                        exact ih (x24, RD23) _ _ _ G (lv_sub hl [2, 3, 0] rfl) hoL3
                refine lv_icmp_eq (tgt := 67) hx hb dX2_seekStrangers_58 (by decide) (fun c25 => ?_) (fun c25 => ?_)
                · replace hf := if_t hf c25
                  refine lv_iconst (v := 1) hx hb dX2_seekStrangers_67 (by decide) ?_
                  refine lv_goto (tgt := 72) hx hb dX2_seekStrangers_68 (by decide) ?_
                  exact JJ9 (1 : Int32) _ _ _ G (lv_sub hl [2, 3, 4, 0] rfl) hf
                · replace hf := if_f hf c25
                  refine lv_iload_n hx hb dX2_seekStrangers_61 rfl (lv_at hl 1 rfl) ?_
                  refine lv_bipush (v := 6) hx hb dX2_seekStrangers_62 (by decide) ?_
                  refine lv_icmp_ne (tgt := 71) hx hb dX2_seekStrangers_64 (by decide) (fun c26 => ?_) (fun c26 => ?_)
                  · replace hf := if_f hf c26
                    refine lv_iconst (v := 0) hx hb dX2_seekStrangers_71 (by decide) ?_
                    exact JJ9 (0 : Int32) _ _ _ G (lv_sub hl [2, 3, 4, 0] rfl) hf
                  · replace hf := if_t hf c26
                    refine lv_iconst (v := 1) hx hb dX2_seekStrangers_67 (by decide) ?_
                    refine lv_goto (tgt := 72) hx hb dX2_seekStrangers_68 (by decide) ?_
                    exact JJ9 (1 : Int32) _ _ _ G (lv_sub hl [2, 3, 4, 0] rfl) hf
        exact LL3 nL3 ((0 : Int32), stL1.2) _ _ _ G (lv_sub hl [1, 2, 0] rfl) hitL3
  exact LL1 nL1 ((0 : Int32), RD) _ _ _ G (lv_sub hl [1, 0] rfl) hitL1
theorem mk_X2_seekStrangers : MV yX2_seekStrangers cX2_seekStrangers 6 none 0 := ⟨co_X2_seekStrangers, in_X2, im_X2_seekStrangers, se_X2_seekStrangers, by decide +kernel, by decide +kernel⟩
