noncomputable def FX10_ended_4 (MO : MoT) : (Int32 × Int32) → Option ((Int32 × Int32) ⊕ (Int32)) := fun stL1 =>
  (FX10_workers MO).bind fun r2 =>
  if r2 ≤ stL1.2 then (
    some (.inr stL1.1)
  ) else (
    (FX10_isEnded MO stL1.2).bind fun r4 =>
    if (bI r4) = 0 then (
      nm (stL1.1 + (0 : Int32)) fun x6 =>
      nm (stL1.2 + 1) fun x7 =>
      some (.inl (x6, x7))
    ) else (
      nm (stL1.1 + (1 : Int32)) fun x8 =>
      nm (stL1.2 + 1) fun x9 =>
      some (.inl (x8, x9))
    )
  )
noncomputable def FX10_ended (MO : MoT) : Option (Int32) :=
  (itr (FX10_ended_4 MO) ((0 : Int32), (0 : Int32))).bind fun uL1 =>
  some uL1
set_option maxHeartbeats 4000000 in
set_option maxRecDepth 100000 in
theorem ctX10_ended {l : Launch} {D : va_G} {k : Nat → ClassId} {Z : ZT} (hZ : ZOK Z) (ot : Nat) (aMO : Nat → Nat) {MO : MoT} {q : Int32} (hf : FX10_ended MO = some q) :
    CR l D k Z yX10_ended cX10_ended 3 (some .int) 2 42 [.ref ot] (some (.int q)) (kMo k ot aMO (MO)) := by
  refine CR.start hZ (by decide) (Nat.le_of_ble_eq_true rfl) ?_
  intro p e s m below meth c ls X hl G
  have hx := X.1
  have hb := X.2.1
  have hl : lv_has ls 3 [(0, .ref ot)] := hl
  unfold FX10_ended at hf
  refine lv_iconst (v := 0) hx hb dX10_ended_0 (by decide) ?_
  refine lv_istore_n (lv' := [(1, .int (0 : Int32)), (0, .ref ot)]) hx hb dX10_ended_1 rfl hl (by decide) rfl (fun ls hl => ?_)
  refine lv_iconst (v := 0) hx hb dX10_ended_2 (by decide) ?_
  refine lv_istore_n (lv' := [(2, .int (0 : Int32)), (1, .int (0 : Int32)), (0, .ref ot)]) hx hb dX10_ended_3 rfl hl (by decide) rfl (fun ls hl => ?_)
  obtain ⟨exL1, hitL1, hfL1⟩ := bd_some hf
  obtain ⟨nL1, hitL1⟩ := itr_ex hitL1
  have KL1_0 : ∀ (u : Int32) (ls : Array Slot), exL1 = u → lv_has ls 3 [(1, .int u)] → W p l e (rmz 2 42) s m [.ref ot].toArray below meth c s.heap [] 0 0 (MQ below (Qr (some (.int q))) [.ref ot].toArray s 0 0 (fun _ => False)) (F0 m 34 ls []) := by
    intro uL1 ls hex hl
    rw [hex] at hfL1
    have hf := hfL1
    refine lv_iload_n hx hb dX10_ended_34 rfl (lv_at hl 0 rfl) ?_
    cases hf
    exact e_ri X dX10_ended_35
  have LL1 : ∀ (n : Nat) (stL1 : Int32 × Int32) (ls : Array Slot), lv_has ls 3 [(0, .ref ot), (1, .int (stL1.1)), (2, .int (stL1.2))] → it (FX10_ended_4 MO) n stL1 = some exL1 → W p l e (rmz 2 42) s m [.ref ot].toArray below meth c s.heap [] 0 0 (MQ below (Qr (some (.int q))) [.ref ot].toArray s 0 0 (fun _ => False)) (F0 m 4 ls []) := by
    intro n
    induction n with
    | zero =>
      intro stL1 ls hl hit
      exact (it_zero hit).elim
    | succ n ih =>
      intro stL1 ls hl hit
      obtain ⟨oL1, hf, hoL1⟩ := it_bd hit
      unfold FX10_ended_4 at hf
      refine lv_iload_n hx hb dX10_ended_4 rfl (lv_at hl 2 rfl) ?_
      refine lv_aload_n hx hb dX10_ended_5 rfl (lv_at hl 0 rfl) ?_
      obtain ⟨r2, hcr2, hf⟩ := bd_some hf
      refine p_R (st1 := [.int r2, .int (stL1.2)]) (run_V (rest := [.int (stL1.2)]) X (ctX10_workers hZ ot aMO hcr2) mk_X10_workers ml_X10_43 ⟨(Nat.le_of_ble_eq_true rfl), (Nat.le_of_ble_eq_true rfl)⟩ G [0, 1, 2, 3, 4, 5, 6, 7] rfl rfl 0 rfl rfl rfl hl.1 rfl (Nat.le_of_ble_eq_true rfl) dX10_ended_6 ⟨Nat.zero_le _, Nat.zero_le _⟩) rfl ?_
      refine lv_icmp_ge (tgt := 34) hx hb dX10_ended_9 (by decide) (fun c3 => ?_) (fun c3 => ?_)
      · replace hf := if_t hf c3
        cases hf
        exact KL1_0 stL1.1 _ (it_out hoL1) (lv_sub hl [1] rfl)
      · replace hf := if_f hf c3
        refine lv_iload_n hx hb dX10_ended_12 rfl (lv_at hl 1 rfl) ?_
        refine lv_aload_n hx hb dX10_ended_13 rfl (lv_at hl 0 rfl) ?_
        refine lv_iload_n hx hb dX10_ended_14 rfl (lv_at hl 2 rfl) ?_
        obtain ⟨r4, hcr4, hf⟩ := bd_some hf
        refine p_R (st1 := [.int (bI r4), .int (stL1.1)]) (run_V (rest := [.int (stL1.1)]) X (ctX10_isEnded hZ ot aMO hcr4) mk_X10_isEnded ml_X10_81 ⟨(Nat.le_of_ble_eq_true rfl), (Nat.le_of_ble_eq_true rfl)⟩ G [0, 1, 2, 3, 4, 5, 6, 7] rfl rfl 0 rfl rfl rfl hl.1 rfl (Nat.le_of_ble_eq_true rfl) dX10_ended_15 ⟨Nat.zero_le _, Nat.zero_le _⟩) rfl ?_
        refine lv_if_eq (tgt := 25) hx hb dX10_ended_18 (by decide) (fun c5 => ?_) (fun c5 => ?_)
        · replace hf := if_t hf c5
          refine lv_iconst (v := 0) hx hb dX10_ended_25 (by decide) ?_
          refine lv_iadd hx hb dX10_ended_26 ?_
          obtain ⟨x6, ex6, hf⟩ := nm_some hf
          refine r_top (congrArg Value.int ex6) ?_
          refine lv_istore_n (lv' := [(1, .int x6), (0, .ref ot), (2, .int (stL1.2))]) hx hb dX10_ended_27 rfl hl (by decide) rfl (fun ls hl => ?_)
          obtain ⟨x7, ex7, hf⟩ := nm_some hf
          refine lv_iinc (v := x7) (lv' := [(2, .int x7), (1, .int x6), (0, .ref ot)]) hx hb dX10_ended_28 hl (k := 2) rfl (by subst ex7; rfl) (by decide) rfl (fun ls hl => ?_)
          refine lv_goto (tgt := 4) hx hb dX10_ended_31 (by decide) ?_
          cases hf
          exact ih (x6, x7) _ (lv_sub hl [2, 1, 0] rfl) hoL1
        · replace hf := if_f hf c5
          refine lv_iconst (v := 1) hx hb dX10_ended_21 (by decide) ?_
          refine lv_goto (tgt := 26) hx hb dX10_ended_22 (by decide) ?_
          refine lv_iadd hx hb dX10_ended_26 ?_
          obtain ⟨x8, ex8, hf⟩ := nm_some hf
          refine r_top (congrArg Value.int ex8) ?_
          refine lv_istore_n (lv' := [(1, .int x8), (0, .ref ot), (2, .int (stL1.2))]) hx hb dX10_ended_27 rfl hl (by decide) rfl (fun ls hl => ?_)
          obtain ⟨x9, ex9, hf⟩ := nm_some hf
          refine lv_iinc (v := x9) (lv' := [(2, .int x9), (1, .int x8), (0, .ref ot)]) hx hb dX10_ended_28 hl (k := 2) rfl (by subst ex9; rfl) (by decide) rfl (fun ls hl => ?_)
          refine lv_goto (tgt := 4) hx hb dX10_ended_31 (by decide) ?_
          cases hf
          exact ih (x8, x9) _ (lv_sub hl [2, 1, 0] rfl) hoL1
  exact LL1 nL1 ((0 : Int32), (0 : Int32)) _ (lv_sub hl [2, 1, 0] rfl) hitL1
theorem mk_X10_ended : MV yX10_ended cX10_ended 3 (some .int) 0 := ⟨co_X10_ended, in_X10, im_X10_ended, se_X10_ended, by decide +kernel, by decide +kernel⟩
noncomputable def FX10_keeps_j32  (vJ1 : MoT) : Option (MoT) :=
  (FX10_copies vJ1 (0 : Int32) ((1896 : Int32) + ((474 : Int32) * (Mo_undos vJ1))) (474 : Int32)).bind fun r2 =>
  nm (sMo_undos r2 ((Mo_undos r2) + (1 : Int32))) fun MO3 =>
  some MO3
noncomputable def FX10_keeps (MO : MoT) : Option (MoT) :=
  if (Mo_undos MO) = (8 : Int32) then (
    (FX10_copies MO (2370 : Int32) (1896 : Int32) (3318 : Int32)).bind fun r5 =>
    nm (sMo_undos r5 ((Mo_undos r5) - (1 : Int32))) fun MO6 =>
    FX10_keeps_j32  MO6
  ) else (
    FX10_keeps_j32  MO
  )
set_option maxHeartbeats 4000000 in
set_option maxRecDepth 100000 in
theorem ctX10_keeps {l : Launch} {D : va_G} {k : Nat → ClassId} {Z : ZT} (hZ : ZOK Z) (ot : Nat) (aMO : Nat → Nat) {MO : MoT} {q : MoT} (hf : FX10_keeps MO = some q) :
    CM l D k Z yX10_keeps cX10_keeps 1 none 1 24 [.ref ot] none (kMo k ot aMO (MO)) (kMo k ot aMO (q)) := by
  refine CM.start hZ (by decide) (Nat.le_of_ble_eq_true rfl) ?_
  intro p e s m below meth c ls X hl G
  have hx := X.1
  have hb := X.2.1
  have hl : lv_has ls 1 [(0, .ref ot)] := hl
  unfold FX10_keeps at hf
  refine lv_aload_n hx hb dX10_keeps_0 rfl (lv_at hl 0 rfl) ?_
  refine r_get X inw_X10 G 0 rfl rfl 6 (by decide) fl_X10_143 (v := .int (Mo_undos MO)) rfl dX10_keeps_1 ?_
  refine lv_bipush (v := 8) hx hb dX10_keeps_4 (by decide) ?_
  have JJ1 : ∀ (vJ1 : MoT) (H : Heap) (locs : List Loc) (ls : Array Slot), Wo D (wA (kMo k ot aMO (MO))) s.heap (kMo k ot aMO (vJ1)) H locs → lv_has ls 1 [(0, .ref ot)] → FX10_keeps_j32  vJ1 = some q → W p l e (rmz 1 24) s m [.ref ot].toArray below meth c H locs 0 0 (MQ below (Qm D none (kMo k ot aMO (MO)) (kMo k ot aMO (q))) [.ref ot].toArray s 0 0 (wA (kMo k ot aMO (MO)))) (F0 m 32 ls []) := by
    intro vJ1 H locs ls G hl hf
    unfold FX10_keeps_j32 at hf
    refine lv_aload_n hx hb dX10_keeps_32 rfl (lv_at hl 0 rfl) ?_
    refine lv_iconst (v := 0) hx hb dX10_keeps_33 (by decide) ?_
    refine lv_sipush (v := 1896) hx hb dX10_keeps_34 (by decide) ?_
    refine lv_sipush (v := 474) hx hb dX10_keeps_37 (by decide) ?_
    refine lv_aload_n hx hb dX10_keeps_40 rfl (lv_at hl 0 rfl) ?_
    refine r_get X inw_X10 G 0 rfl rfl 6 (by decide) fl_X10_143 (v := .int (Mo_undos vJ1)) rfl dX10_keeps_41 ?_
    refine lv_imul hx hb dX10_keeps_44 ?_
    refine lv_iadd hx hb dX10_keeps_45 ?_
    refine lv_sipush (v := 474) hx hb dX10_keeps_46 (by decide) ?_
    obtain ⟨r2, hcr2, hf⟩ := bd_some hf
    refine p_N (st1 := []) (wr := []) (ws' := kMo k ot aMO (r2)) (run_V (rest := []) X (ctX10_copies hZ ot aMO hcr2) mk_X10_copies ml_X10_103 ⟨(Nat.le_of_ble_eq_true rfl), (Nat.le_of_ble_eq_true rfl)⟩ G [0, 1, 2, 3, 4, 5, 6, 7] rfl rfl 0 rfl rfl rfl hl.1 rfl (Nat.le_of_ble_eq_true rfl) dX10_keeps_49 ⟨Nat.zero_le _, Nat.zero_le _⟩) rfl G [0, 1, 2, 3, 4, 5, 6, 7] [] 8 rfl rfl rfl rfl rfl (by decide) (by decide) rfl (fun H locs G => ?_)
    refine lv_aload_n hx hb dX10_keeps_52 rfl (lv_at hl 0 rfl) ?_
    refine lv_dup hx hb dX10_keeps_53 rfl ?_
    refine r_get X inw_X10 G 0 rfl rfl 6 (by decide) fl_X10_143 (v := .int (Mo_undos r2)) rfl dX10_keeps_54 ?_
    refine lv_iconst (v := 1) hx hb dX10_keeps_57 (by decide) ?_
    refine lv_iadd hx hb dX10_keeps_58 ?_
    obtain ⟨MO3, eMO3, hf⟩ := nm_some hf
    refine r_put X inw_X10 tyX10 tyX10_ok nmX10 G 0 rfl rfl 6 (by decide) fl_X10_143 rfl rfl rfl (Nat.le_of_ble_eq_true rfl) (ws' := kMo k ot aMO (MO3)) (by subst eMO3; rfl) dX10_keeps_59 (fun H locs G => ?_)
    cases hf
    exact e_mv X G dX10_keeps_62
  refine lv_icmp_ne (tgt := 32) hx hb dX10_keeps_6 (by decide) (fun c4 => ?_) (fun c4 => ?_)
  · replace hf := if_f hf c4
    exact JJ1 MO _ _ _ G (lv_sub hl [0] rfl) hf
  · replace hf := if_t hf c4
    refine lv_aload_n hx hb dX10_keeps_9 rfl (lv_at hl 0 rfl) ?_
    refine lv_sipush (v := 2370) hx hb dX10_keeps_10 (by decide) ?_
    refine lv_sipush (v := 1896) hx hb dX10_keeps_13 (by decide) ?_
    refine lv_sipush (v := 3318) hx hb dX10_keeps_16 (by decide) ?_
    obtain ⟨r5, hcr5, hf⟩ := bd_some hf
    refine p_N (st1 := []) (wr := []) (ws' := kMo k ot aMO (r5)) (run_V (rest := []) X (ctX10_copies hZ ot aMO hcr5) mk_X10_copies ml_X10_103 ⟨(Nat.le_of_ble_eq_true rfl), (Nat.le_of_ble_eq_true rfl)⟩ G [0, 1, 2, 3, 4, 5, 6, 7] rfl rfl 0 rfl rfl rfl hl.1 rfl (Nat.le_of_ble_eq_true rfl) dX10_keeps_19 ⟨Nat.zero_le _, Nat.zero_le _⟩) rfl G [0, 1, 2, 3, 4, 5, 6, 7] [] 8 rfl rfl rfl rfl rfl (by decide) (by decide) rfl (fun H locs G => ?_)
    refine lv_aload_n hx hb dX10_keeps_22 rfl (lv_at hl 0 rfl) ?_
    refine lv_dup hx hb dX10_keeps_23 rfl ?_
    refine r_get X inw_X10 G 0 rfl rfl 6 (by decide) fl_X10_143 (v := .int (Mo_undos r5)) rfl dX10_keeps_24 ?_
    refine lv_iconst (v := 1) hx hb dX10_keeps_27 (by decide) ?_
    refine lv_isub hx hb dX10_keeps_28 ?_
    obtain ⟨MO6, eMO6, hf⟩ := nm_some hf
    refine r_put X inw_X10 tyX10 tyX10_ok nmX10 G 0 rfl rfl 6 (by decide) fl_X10_143 rfl rfl rfl (Nat.le_of_ble_eq_true rfl) (ws' := kMo k ot aMO (MO6)) (by subst eMO6; rfl) dX10_keeps_29 (fun H locs G => ?_)
    exact JJ1 MO6 _ _ _ G (lv_sub hl [0] rfl) hf
theorem mk_X10_keeps : MV yX10_keeps cX10_keeps 1 none 0 := ⟨co_X10_keeps, in_X10, im_X10_keeps, se_X10_keeps, by decide +kernel, by decide +kernel⟩
noncomputable def FX10_ticks (MO : MoT) (v1 : Int32) : Option (Int32 × MoT) :=
  (FX10_isIn v1 (1 : Int32) (200 : Int32)).bind fun r1 =>
  if (bI r1) = 0 then (
    some ((-1 : Int32), MO)
  ) else (
    (FX10_keeps MO).bind fun r3 =>
    (FX10_ticksOf r3 v1).bind fun r4 =>
    some (r4.1, r4.2)
  )
set_option maxHeartbeats 4000000 in
set_option maxRecDepth 100000 in
theorem ctX10_ticks {l : Launch} {D : va_G} {k : Nat → ClassId} {Z : ZT} (hZ : ZOK Z) (ot : Nat) (aMO : Nat → Nat) {MO : MoT} {v1 : Int32} {q : Int32 × MoT} (hf : FX10_ticks MO v1 = some q) :
    CM l D k Z yX10_ticks cX10_ticks 2 (some .int) 12 276 [.ref ot, .int v1] (some (.int q.1)) (kMo k ot aMO (MO)) (kMo k ot aMO (q.2)) := by
  refine CM.start hZ (by decide) (Nat.le_of_ble_eq_true rfl) ?_
  intro p e s m below meth c ls X hl G
  have hx := X.1
  have hb := X.2.1
  have hl : lv_has ls 2 [(0, .ref ot), (1, .int v1)] := hl
  unfold FX10_ticks at hf
  refine lv_iload_n hx hb dX10_ticks_0 rfl (lv_at hl 1 rfl) ?_
  refine lv_iconst (v := 1) hx hb dX10_ticks_1 (by decide) ?_
  refine lv_sipush (v := 200) hx hb dX10_ticks_2 (by decide) ?_
  obtain ⟨r1, hcr1, hf⟩ := bd_some hf
  refine p_R (st1 := [.int (bI r1)]) (run_S (rest := []) X (ctX10_isIn hZ hcr1) mk_X10_isIn ml_X10_47 ⟨(Nat.le_of_ble_eq_true rfl), (Nat.le_of_ble_eq_true rfl)⟩ G [] rfl rfl rfl hl.1 rfl (Nat.le_of_ble_eq_true rfl) dX10_ticks_5 ⟨Nat.zero_le _, Nat.zero_le _⟩) rfl ?_
  refine lv_if_ne (tgt := 13) hx hb dX10_ticks_8 (by decide) (fun c2 => ?_) (fun c2 => ?_)
  · replace hf := if_f hf c2
    refine lv_aload_n hx hb dX10_ticks_13 rfl (lv_at hl 0 rfl) ?_
    obtain ⟨r3, hcr3, hf⟩ := bd_some hf
    refine p_N (st1 := []) (wr := []) (ws' := kMo k ot aMO (r3)) (run_V (rest := []) X (ctX10_keeps hZ ot aMO hcr3) mk_X10_keeps ml_X10_146 ⟨(Nat.le_of_ble_eq_true rfl), (Nat.le_of_ble_eq_true rfl)⟩ G [0, 1, 2, 3, 4, 5, 6, 7] rfl rfl 0 rfl rfl rfl hl.1 rfl (Nat.le_of_ble_eq_true rfl) dX10_ticks_14 ⟨Nat.zero_le _, Nat.zero_le _⟩) rfl G [0, 1, 2, 3, 4, 5, 6, 7] [] 8 rfl rfl rfl rfl rfl (by decide) (by decide) rfl (fun H locs G => ?_)
    refine lv_aload_n hx hb dX10_ticks_17 rfl (lv_at hl 0 rfl) ?_
    refine lv_iload_n hx hb dX10_ticks_18 rfl (lv_at hl 1 rfl) ?_
    obtain ⟨r4, hcr4, hf⟩ := bd_some hf
    refine p_N (st1 := [.int (r4.1)]) (wr := []) (ws' := kMo k ot aMO (r4.2)) (run_V (rest := []) X (ctX10_ticksOf hZ ot aMO hcr4) mk_X10_ticksOf ml_X10_149 ⟨(Nat.le_of_ble_eq_true rfl), (Nat.le_of_ble_eq_true rfl)⟩ G [0, 1, 2, 3, 4, 5, 6, 7] rfl rfl 0 rfl rfl rfl hl.1 rfl (Nat.le_of_ble_eq_true rfl) dX10_ticks_19 ⟨Nat.zero_le _, Nat.zero_le _⟩) rfl G [0, 1, 2, 3, 4, 5, 6, 7] [] 8 rfl rfl rfl rfl rfl (by decide) (by decide) rfl (fun H locs G => ?_)
    cases hf
    exact e_mi X G dX10_ticks_22
  · replace hf := if_t hf c2
    refine lv_iconst (v := -1) hx hb dX10_ticks_11 (by decide) ?_
    cases hf
    exact e_mi X G dX10_ticks_12
theorem mk_X10_ticks : MV yX10_ticks cX10_ticks 2 (some .int) 1 := ⟨co_X10_ticks, in_X10, im_X10_ticks, se_X10_ticks, by decide +kernel, by decide +kernel⟩
noncomputable def FX10_watch_28 (x6 : Int32) : (Int32 × MoT) → Option ((Int32 × MoT) ⊕ (Int32 × MoT)) := fun stL7 =>
  if (200 : Int32) ≤ stL7.1 then (
    some (.inr (stL7.1, stL7.2))
  ) else (
    ix (323 : Int32) 9519 <|
    if (Mo_all stL7.2 (Int32.toNatClampNeg (323 : Int32))) = x6 then (
      (FX10_ticksOnce stL7.2).bind fun r11 =>
      nm (stL7.1 + 1) fun x12 =>
      some (.inl (x12, r11))
    ) else (
      some (.inr (stL7.1, stL7.2))
    )
  )
noncomputable def FX10_watch (MO : MoT) : Option (Int32 × MoT) :=
  (FX10_ended MO).bind fun r1 =>
  (FX10_workers MO).bind fun r2 =>
  if r1 = r2 then (
    some ((-1 : Int32), MO)
  ) else (
    (FX10_keeps MO).bind fun r4 =>
    ix (323 : Int32) 9519 <|
    nm (Mo_all r4 (Int32.toNatClampNeg (323 : Int32))) fun x6 =>
    (itr (FX10_watch_28 x6) ((0 : Int32), r4)).bind fun uL7 =>
    some (uL7.1, uL7.2)
  )
set_option maxHeartbeats 4000000 in
set_option maxRecDepth 100000 in
theorem ctX10_watch {l : Launch} {D : va_G} {k : Nat → ClassId} {Z : ZT} (hZ : ZOK Z) (ot : Nat) (aMO : Nat → Nat) {MO : MoT} {q : Int32 × MoT} (hf : FX10_watch MO = some q) :
    CM l D k Z yX10_watch cX10_watch 3 (some .int) 11 253 [.ref ot] (some (.int q.1)) (kMo k ot aMO (MO)) (kMo k ot aMO (q.2)) := by
  refine CM.start hZ (by decide) (Nat.le_of_ble_eq_true rfl) ?_
  intro p e s m below meth c ls X hl G
  have hx := X.1
  have hb := X.2.1
  have hl : lv_has ls 3 [(0, .ref ot)] := hl
  unfold FX10_watch at hf
  refine lv_aload_n hx hb dX10_watch_0 rfl (lv_at hl 0 rfl) ?_
  obtain ⟨r1, hcr1, hf⟩ := bd_some hf
  refine p_R (st1 := [.int r1]) (run_V (rest := []) X (ctX10_ended hZ ot aMO hcr1) mk_X10_ended ml_X10_152 ⟨(Nat.le_of_ble_eq_true rfl), (Nat.le_of_ble_eq_true rfl)⟩ G [0, 1, 2, 3, 4, 5, 6, 7] rfl rfl 0 rfl rfl rfl hl.1 rfl (Nat.le_of_ble_eq_true rfl) dX10_watch_1 ⟨Nat.zero_le _, Nat.zero_le _⟩) rfl ?_
  refine lv_aload_n hx hb dX10_watch_4 rfl (lv_at hl 0 rfl) ?_
  obtain ⟨r2, hcr2, hf⟩ := bd_some hf
  refine p_R (st1 := [.int r2, .int r1]) (run_V (rest := [.int r1]) X (ctX10_workers hZ ot aMO hcr2) mk_X10_workers ml_X10_43 ⟨(Nat.le_of_ble_eq_true rfl), (Nat.le_of_ble_eq_true rfl)⟩ G [0, 1, 2, 3, 4, 5, 6, 7] rfl rfl 0 rfl rfl rfl hl.1 rfl (Nat.le_of_ble_eq_true rfl) dX10_watch_5 ⟨Nat.zero_le _, Nat.zero_le _⟩) rfl ?_
  refine lv_icmp_ne (tgt := 13) hx hb dX10_watch_8 (by decide) (fun c3 => ?_) (fun c3 => ?_)
  · replace hf := if_f hf c3
    refine lv_aload_n hx hb dX10_watch_13 rfl (lv_at hl 0 rfl) ?_
    obtain ⟨r4, hcr4, hf⟩ := bd_some hf
    refine p_N (st1 := []) (wr := []) (ws' := kMo k ot aMO (r4)) (run_V (rest := []) X (ctX10_keeps hZ ot aMO hcr4) mk_X10_keeps ml_X10_146 ⟨(Nat.le_of_ble_eq_true rfl), (Nat.le_of_ble_eq_true rfl)⟩ G [0, 1, 2, 3, 4, 5, 6, 7] rfl rfl 0 rfl rfl rfl hl.1 rfl (Nat.le_of_ble_eq_true rfl) dX10_watch_14 ⟨Nat.zero_le _, Nat.zero_le _⟩) rfl G [0, 1, 2, 3, 4, 5, 6, 7] [] 8 rfl rfl rfl rfl rfl (by decide) (by decide) rfl (fun H locs G => ?_)
    refine lv_iconst (v := 0) hx hb dX10_watch_17 (by decide) ?_
    refine lv_istore_n (lv' := [(1, .int (0 : Int32)), (0, .ref ot)]) hx hb dX10_watch_18 rfl hl (by decide) rfl (fun ls hl => ?_)
    refine lv_aload_n hx hb dX10_watch_19 rfl (lv_at hl 1 rfl) ?_
    refine r_get X inw_X10 G 0 rfl rfl 0 (by decide) fl_X10_7 (v := .ref (aMO 0)) rfl dX10_watch_20 ?_
    refine lv_sipush (v := 323) hx hb dX10_watch_23 (by decide) ?_
    obtain ⟨h5, hf⟩ := ix_some hf
    refine r_iald X G 1 rfl h5 dX10_watch_26 ?_
    obtain ⟨x6, ex6, hf⟩ := nm_some hf
    refine r_top (congrArg Value.int ex6) ?_
    refine lv_istore_n (lv' := [(2, .int x6), (1, .int (0 : Int32)), (0, .ref ot)]) hx hb dX10_watch_27 rfl hl (by decide) rfl (fun ls hl => ?_)
    obtain ⟨exL7, hitL7, hfL7⟩ := bd_some hf
    obtain ⟨nL7, hitL7⟩ := itr_ex hitL7
    have KL7_0 : ∀ (u : Int32 × MoT) (H : Heap) (locs : List Loc) (ls : Array Slot), exL7 = u → Wo D (wA (kMo k ot aMO (MO))) s.heap (kMo k ot aMO (u.2)) H locs → lv_has ls 3 [(1, .int (u.1))] → W p l e (rmz 11 253) s m [.ref ot].toArray below meth c H locs 0 0 (MQ below (Qm D (some (.int q.1)) (kMo k ot aMO (MO)) (kMo k ot aMO (q.2))) [.ref ot].toArray s 0 0 (wA (kMo k ot aMO (MO)))) (F0 m 57 ls []) := by
      intro uL7 H locs ls hex G hl
      rw [hex] at hfL7
      have hf := hfL7
      refine lv_iload_n hx hb dX10_watch_57 rfl (lv_at hl 0 rfl) ?_
      cases hf
      exact e_mi X G dX10_watch_58
    have LL7 : ∀ (n : Nat) (stL7 : Int32 × MoT) (H : Heap) (locs : List Loc) (ls : Array Slot), Wo D (wA (kMo k ot aMO (MO))) s.heap (kMo k ot aMO (stL7.2)) H locs → lv_has ls 3 [(0, .ref ot), (1, .int (stL7.1)), (2, .int x6)] → it (FX10_watch_28 x6) n stL7 = some exL7 → W p l e (rmz 11 253) s m [.ref ot].toArray below meth c H locs 0 0 (MQ below (Qm D (some (.int q.1)) (kMo k ot aMO (MO)) (kMo k ot aMO (q.2))) [.ref ot].toArray s 0 0 (wA (kMo k ot aMO (MO)))) (F0 m 28 ls []) := by
      intro n
      induction n with
      | zero =>
        intro stL7 H locs ls G hl hit
        exact (it_zero hit).elim
      | succ n ih =>
        intro stL7 H locs ls G hl hit
        obtain ⟨oL7, hf, hoL7⟩ := it_bd hit
        unfold FX10_watch_28 at hf
        refine lv_iload_n hx hb dX10_watch_28 rfl (lv_at hl 1 rfl) ?_
        refine lv_sipush (v := 200) hx hb dX10_watch_29 (by decide) ?_
        refine lv_icmp_ge (tgt := 57) hx hb dX10_watch_32 (by decide) (fun c8 => ?_) (fun c8 => ?_)
        · replace hf := if_t hf c8
          cases hf
          exact KL7_0 (stL7.1, stL7.2) _ _ _ (it_out hoL7) G (lv_sub hl [1] rfl)
        · replace hf := if_f hf c8
          refine lv_aload_n hx hb dX10_watch_35 rfl (lv_at hl 0 rfl) ?_
          refine r_get X inw_X10 G 0 rfl rfl 0 (by decide) fl_X10_7 (v := .ref (aMO 0)) rfl dX10_watch_36 ?_
          refine lv_sipush (v := 323) hx hb dX10_watch_39 (by decide) ?_
          obtain ⟨h9, hf⟩ := ix_some hf
          refine r_iald X G 1 rfl h9 dX10_watch_42 ?_
          refine lv_iload_n hx hb dX10_watch_43 rfl (lv_at hl 2 rfl) ?_
          refine lv_icmp_ne (tgt := 57) hx hb dX10_watch_44 (by decide) (fun c10 => ?_) (fun c10 => ?_)
          · replace hf := if_f hf c10
            cases hf
            exact KL7_0 (stL7.1, stL7.2) _ _ _ (it_out hoL7) G (lv_sub hl [1] rfl)
          · replace hf := if_t hf c10
            refine lv_aload_n hx hb dX10_watch_47 rfl (lv_at hl 0 rfl) ?_
            obtain ⟨r11, hcr11, hf⟩ := bd_some hf
            refine p_N (st1 := []) (wr := []) (ws' := kMo k ot aMO (r11)) (run_V (rest := []) X (ctX10_ticksOnce hZ ot aMO hcr11) mk_X10_ticksOnce ml_X10_140 ⟨(Nat.le_of_ble_eq_true rfl), (Nat.le_of_ble_eq_true rfl)⟩ G [0, 1, 2, 3, 4, 5, 6, 7] rfl rfl 0 rfl rfl rfl hl.1 rfl (Nat.le_of_ble_eq_true rfl) dX10_watch_48 ⟨Nat.zero_le _, Nat.zero_le _⟩) rfl G [0, 1, 2, 3, 4, 5, 6, 7] [] 8 rfl rfl rfl rfl rfl (by decide) (by decide) rfl (fun H locs G => ?_)
            obtain ⟨x12, ex12, hf⟩ := nm_some hf
            refine lv_iinc (v := x12) (lv' := [(1, .int x12), (0, .ref ot), (2, .int x6)]) hx hb dX10_watch_51 hl (k := 1) rfl (by subst ex12; rfl) (by decide) rfl (fun ls hl => ?_)
            refine lv_goto (tgt := 28) hx hb dX10_watch_54 (by decide) ?_
            cases hf
            exact ih (x12, r11) _ _ _ G (lv_sub hl [1, 0, 2] rfl) hoL7
    exact LL7 nL7 ((0 : Int32), r4) _ _ _ G (lv_sub hl [2, 1, 0] rfl) hitL7
  · replace hf := if_t hf c3
    refine lv_iconst (v := -1) hx hb dX10_watch_11 (by decide) ?_
    cases hf
    exact e_mi X G dX10_watch_12
theorem mk_X10_watch : MV yX10_watch cX10_watch 3 (some .int) 0 := ⟨co_X10_watch, in_X10, im_X10_watch, se_X10_watch, by decide +kernel, by decide +kernel⟩
noncomputable def FX10_free (MO : MoT) (v1 : Int32) : Option (Bool × MoT) :=
  (FX10_isWorker MO v1).bind fun r1 =>
  if (bI r1) = 0 then (
    some (false, MO)
  ) else (
    (FX10_isHeldUp MO v1).bind fun r3 =>
    if (bI r3) = 0 then (
      some (false, MO)
    ) else (
      (FX10_keeps MO).bind fun r5 =>
      (FX10_letsGo r5 v1).bind fun r6 =>
      some (true, r6)
    )
  )
set_option maxHeartbeats 4000000 in
set_option maxRecDepth 100000 in
theorem ctX10_free {l : Launch} {D : va_G} {k : Nat → ClassId} {Z : ZT} (hZ : ZOK Z) (ot : Nat) (aMO : Nat → Nat) {MO : MoT} {v1 : Int32} {q : Bool × MoT} (hf : FX10_free MO v1 = some q) :
    CM l D k Z yX10_free cX10_free 2 (some .boolean) 4 86 [.ref ot, .int v1] (some (.int (bI q.1))) (kMo k ot aMO (MO)) (kMo k ot aMO (q.2)) := by
  refine CM.start hZ (by decide) (Nat.le_of_ble_eq_true rfl) ?_
  intro p e s m below meth c ls X hl G
  have hx := X.1
  have hb := X.2.1
  have hl : lv_has ls 2 [(0, .ref ot), (1, .int v1)] := hl
  unfold FX10_free at hf
  refine lv_aload_n hx hb dX10_free_0 rfl (lv_at hl 0 rfl) ?_
  refine lv_iload_n hx hb dX10_free_1 rfl (lv_at hl 1 rfl) ?_
  obtain ⟨r1, hcr1, hf⟩ := bd_some hf
  refine p_R (st1 := [.int (bI r1)]) (run_V (rest := []) X (ctX10_isWorker hZ ot aMO hcr1) mk_X10_isWorker ml_X10_155 ⟨(Nat.le_of_ble_eq_true rfl), (Nat.le_of_ble_eq_true rfl)⟩ G [0, 1, 2, 3, 4, 5, 6, 7] rfl rfl 0 rfl rfl rfl hl.1 rfl (Nat.le_of_ble_eq_true rfl) dX10_free_2 ⟨Nat.zero_le _, Nat.zero_le _⟩) rfl ?_
  refine lv_if_eq (tgt := 16) hx hb dX10_free_5 (by decide) (fun c2 => ?_) (fun c2 => ?_)
  · replace hf := if_t hf c2
    refine lv_iconst (v := 0) hx hb dX10_free_16 (by decide) ?_
    cases hf
    exact e_mz _ rfl X G dX10_free_17
  · replace hf := if_f hf c2
    refine lv_aload_n hx hb dX10_free_8 rfl (lv_at hl 0 rfl) ?_
    refine lv_iload_n hx hb dX10_free_9 rfl (lv_at hl 1 rfl) ?_
    obtain ⟨r3, hcr3, hf⟩ := bd_some hf
    refine p_R (st1 := [.int (bI r3)]) (run_V (rest := []) X (ctX10_isHeldUp hZ ot aMO hcr3) mk_X10_isHeldUp ml_X10_84 ⟨(Nat.le_of_ble_eq_true rfl), (Nat.le_of_ble_eq_true rfl)⟩ G [0, 1, 2, 3, 4, 5, 6, 7] rfl rfl 0 rfl rfl rfl hl.1 rfl (Nat.le_of_ble_eq_true rfl) dX10_free_10 ⟨Nat.zero_le _, Nat.zero_le _⟩) rfl ?_
    refine lv_if_ne (tgt := 18) hx hb dX10_free_13 (by decide) (fun c4 => ?_) (fun c4 => ?_)
    · replace hf := if_f hf c4
      refine lv_aload_n hx hb dX10_free_18 rfl (lv_at hl 0 rfl) ?_
      obtain ⟨r5, hcr5, hf⟩ := bd_some hf
      refine p_N (st1 := []) (wr := []) (ws' := kMo k ot aMO (r5)) (run_V (rest := []) X (ctX10_keeps hZ ot aMO hcr5) mk_X10_keeps ml_X10_146 ⟨(Nat.le_of_ble_eq_true rfl), (Nat.le_of_ble_eq_true rfl)⟩ G [0, 1, 2, 3, 4, 5, 6, 7] rfl rfl 0 rfl rfl rfl hl.1 rfl (Nat.le_of_ble_eq_true rfl) dX10_free_19 ⟨Nat.zero_le _, Nat.zero_le _⟩) rfl G [0, 1, 2, 3, 4, 5, 6, 7] [] 8 rfl rfl rfl rfl rfl (by decide) (by decide) rfl (fun H locs G => ?_)
      refine lv_aload_n hx hb dX10_free_22 rfl (lv_at hl 0 rfl) ?_
      refine lv_iload_n hx hb dX10_free_23 rfl (lv_at hl 1 rfl) ?_
      obtain ⟨r6, hcr6, hf⟩ := bd_some hf
      refine p_N (st1 := []) (wr := []) (ws' := kMo k ot aMO (r6)) (run_V (rest := []) X (ctX10_letsGo hZ ot aMO hcr6) mk_X10_letsGo ml_X10_107 ⟨(Nat.le_of_ble_eq_true rfl), (Nat.le_of_ble_eq_true rfl)⟩ G [0, 1, 2, 3, 4, 5, 6, 7] rfl rfl 0 rfl rfl rfl hl.1 rfl (Nat.le_of_ble_eq_true rfl) dX10_free_24 ⟨Nat.zero_le _, Nat.zero_le _⟩) rfl G [0, 1, 2, 3, 4, 5, 6, 7] [] 8 rfl rfl rfl rfl rfl (by decide) (by decide) rfl (fun H locs G => ?_)
      refine lv_iconst (v := 1) hx hb dX10_free_27 (by decide) ?_
      cases hf
      exact e_mz _ rfl X G dX10_free_28
    · replace hf := if_t hf c4
      refine lv_iconst (v := 0) hx hb dX10_free_16 (by decide) ?_
      cases hf
      exact e_mz _ rfl X G dX10_free_17
theorem mk_X10_free : MV yX10_free cX10_free 2 (some .boolean) 1 := ⟨co_X10_free, in_X10, im_X10_free, se_X10_free, by decide +kernel, by decide +kernel⟩
noncomputable def FX10_within_j20 (MO : MoT) (v2 : Int32) (vJ1 : Int32) (vJ2 : Int32) : Option (Bool × MoT) :=
  (FX10_isIn v2 vJ2 (50 : Int32)).bind fun r3 =>
  if (bI r3) = 0 then (
    some (false, MO)
  ) else (
    ix vJ1 9519 <|
    if (Mo_all MO (Int32.toNatClampNeg vJ1)) = v2 then (
      some (false, MO)
    ) else (
      (FX10_keeps MO).bind fun r7 =>
      ix vJ1 9519 <|
      nm (sMo_all r7 (upd (Mo_all r7) (Int32.toNatClampNeg vJ1) v2)) fun MO9 =>
      some (true, MO9)
    )
  )
noncomputable def FX10_within_j9 (MO : MoT) (v1 : Int32) (v2 : Int32) (vJ1 : Int32) : Option (Bool × MoT) :=
  if v1 = 0 then (
    FX10_within_j20 MO v2 vJ1 (1 : Int32)
  ) else (
    FX10_within_j20 MO v2 vJ1 (0 : Int32)
  )
noncomputable def FX10_within (MO : MoT) (v1 : Int32) (v2 : Int32) : Option (Bool × MoT) :=
  if v1 = 0 then (
    FX10_within_j9 MO v1 v2 (1 : Int32)
  ) else (
    FX10_within_j9 MO v1 v2 (2 : Int32)
  )
set_option maxHeartbeats 4000000 in
set_option maxRecDepth 100000 in
theorem ctX10_within {l : Launch} {D : va_G} {k : Nat → ClassId} {Z : ZT} (hZ : ZOK Z) (ot : Nat) (aMO : Nat → Nat) {MO : MoT} {v1 : Int32} {v2 : Int32} {q : Bool × MoT} (hf : FX10_within MO v1 v2 = some q) :
    CM l D k Z yX10_within cX10_within 4 (some .boolean) 2 44 [.ref ot, .int v1, .int v2] (some (.int (bI q.1))) (kMo k ot aMO (MO)) (kMo k ot aMO (q.2)) := by
  refine CM.start hZ (by decide) (Nat.le_of_ble_eq_true rfl) ?_
  intro p e s m below meth c ls X hl G
  have hx := X.1
  have hb := X.2.1
  have hl : lv_has ls 4 [(0, .ref ot), (1, .int v1), (2, .int v2)] := hl
  unfold FX10_within at hf
  refine lv_iload_n hx hb dX10_within_0 rfl (lv_at hl 1 rfl) ?_
  have JJ1 : ∀ (vJ1 : Int32) (H : Heap) (locs : List Loc) (ls : Array Slot), Wo D (wA (kMo k ot aMO (MO))) s.heap (kMo k ot aMO (MO)) H locs → lv_has ls 4 [(0, .ref ot), (1, .int v1), (2, .int v2)] → FX10_within_j9 MO v1 v2 vJ1 = some q → W p l e (rmz 2 44) s m [.ref ot, .int v1, .int v2].toArray below meth c H locs 0 0 (MQ below (Qm D (some (.int (bI q.1))) (kMo k ot aMO (MO)) (kMo k ot aMO (q.2))) [.ref ot, .int v1, .int v2].toArray s 0 0 (wA (kMo k ot aMO (MO)))) (F0 m 9 ls [.int vJ1]) := by
    intro vJ1 H locs ls G hl hf
    unfold FX10_within_j9 at hf
    refine lv_istore_n (lv' := [(3, .int vJ1), (0, .ref ot), (1, .int v1), (2, .int v2)]) hx hb dX10_within_9 rfl hl (by decide) rfl (fun ls hl => ?_)
    refine lv_iload_n hx hb dX10_within_10 rfl (lv_at hl 3 rfl) ?_
    refine lv_iload_n hx hb dX10_within_11 rfl (lv_at hl 2 rfl) ?_
    have JJ2 : ∀ (vJ2 : Int32) (H : Heap) (locs : List Loc) (ls : Array Slot), Wo D (wA (kMo k ot aMO (MO))) s.heap (kMo k ot aMO (MO)) H locs → lv_has ls 4 [(0, .ref ot), (2, .int v2), (3, .int vJ1)] → FX10_within_j20 MO v2 vJ1 vJ2 = some q → W p l e (rmz 2 44) s m [.ref ot, .int v1, .int v2].toArray below meth c H locs 0 0 (MQ below (Qm D (some (.int (bI q.1))) (kMo k ot aMO (MO)) (kMo k ot aMO (q.2))) [.ref ot, .int v1, .int v2].toArray s 0 0 (wA (kMo k ot aMO (MO)))) (F0 m 20 ls [.int vJ2, .int v2]) := by
      intro vJ2 H locs ls G hl hf
      unfold FX10_within_j20 at hf
      refine lv_bipush (v := 50) hx hb dX10_within_20 (by decide) ?_
      obtain ⟨r3, hcr3, hf⟩ := bd_some hf
      refine p_R (st1 := [.int (bI r3)]) (run_S (rest := []) X (ctX10_isIn hZ hcr3) mk_X10_isIn ml_X10_47 ⟨(Nat.le_of_ble_eq_true rfl), (Nat.le_of_ble_eq_true rfl)⟩ G [] rfl rfl rfl hl.1 rfl (Nat.le_of_ble_eq_true rfl) dX10_within_22 ⟨Nat.zero_le _, Nat.zero_le _⟩) rfl ?_
      refine lv_if_eq (tgt := 38) hx hb dX10_within_25 (by decide) (fun c4 => ?_) (fun c4 => ?_)
      · replace hf := if_t hf c4
        refine lv_iconst (v := 0) hx hb dX10_within_38 (by decide) ?_
        cases hf
        exact e_mz _ rfl X G dX10_within_39
      · replace hf := if_f hf c4
        refine lv_aload_n hx hb dX10_within_28 rfl (lv_at hl 0 rfl) ?_
        refine r_get X inw_X10 G 0 rfl rfl 0 (by decide) fl_X10_7 (v := .ref (aMO 0)) rfl dX10_within_29 ?_
        refine lv_iload_n hx hb dX10_within_32 rfl (lv_at hl 2 rfl) ?_
        obtain ⟨h5, hf⟩ := ix_some hf
        refine r_iald X G 1 rfl h5 dX10_within_33 ?_
        refine lv_iload_n hx hb dX10_within_34 rfl (lv_at hl 1 rfl) ?_
        refine lv_icmp_ne (tgt := 40) hx hb dX10_within_35 (by decide) (fun c6 => ?_) (fun c6 => ?_)
        · replace hf := if_f hf c6
          refine lv_aload_n hx hb dX10_within_40 rfl (lv_at hl 0 rfl) ?_
          obtain ⟨r7, hcr7, hf⟩ := bd_some hf
          refine p_N (st1 := []) (wr := []) (ws' := kMo k ot aMO (r7)) (run_V (rest := []) X (ctX10_keeps hZ ot aMO hcr7) mk_X10_keeps ml_X10_146 ⟨(Nat.le_of_ble_eq_true rfl), (Nat.le_of_ble_eq_true rfl)⟩ G [0, 1, 2, 3, 4, 5, 6, 7] rfl rfl 0 rfl rfl rfl hl.1 rfl (Nat.le_of_ble_eq_true rfl) dX10_within_41 ⟨Nat.zero_le _, Nat.zero_le _⟩) rfl G [0, 1, 2, 3, 4, 5, 6, 7] [] 8 rfl rfl rfl rfl rfl (by decide) (by decide) rfl (fun H locs G => ?_)
          refine lv_aload_n hx hb dX10_within_44 rfl (lv_at hl 0 rfl) ?_
          refine r_get X inw_X10 G 0 rfl rfl 0 (by decide) fl_X10_7 (v := .ref (aMO 0)) rfl dX10_within_45 ?_
          refine lv_iload_n hx hb dX10_within_48 rfl (lv_at hl 2 rfl) ?_
          refine lv_iload_n hx hb dX10_within_49 rfl (lv_at hl 1 rfl) ?_
          obtain ⟨h8, hf⟩ := ix_some hf
          obtain ⟨MO9, eMO9, hf⟩ := nm_some hf
          refine r_iast X G 1 rfl h8 (ws' := kMo k ot aMO (MO9)) (by subst eMO9; rfl) dX10_within_50 (fun H locs G => ?_)
          refine lv_iconst (v := 1) hx hb dX10_within_51 (by decide) ?_
          cases hf
          exact e_mz _ rfl X G dX10_within_52
        · replace hf := if_t hf c6
          refine lv_iconst (v := 0) hx hb dX10_within_38 (by decide) ?_
          cases hf
          exact e_mz _ rfl X G dX10_within_39
    refine lv_if_eq (tgt := 19) hx hb dX10_within_12 (by decide) (fun c10 => ?_) (fun c10 => ?_)
    · replace hf := if_t hf c10
      refine lv_iconst (v := 1) hx hb dX10_within_19 (by decide) ?_
      exact JJ2 (1 : Int32) _ _ _ G (lv_sub hl [1, 3, 0] rfl) hf
    · replace hf := if_f hf c10
      refine lv_iconst (v := 0) hx hb dX10_within_15 (by decide) ?_
      refine lv_goto (tgt := 20) hx hb dX10_within_16 (by decide) ?_
      exact JJ2 (0 : Int32) _ _ _ G (lv_sub hl [1, 3, 0] rfl) hf
  refine lv_if_eq (tgt := 8) hx hb dX10_within_1 (by decide) (fun c11 => ?_) (fun c11 => ?_)
  · replace hf := if_t hf c11
    refine lv_iconst (v := 1) hx hb dX10_within_8 (by decide) ?_
    exact JJ1 (1 : Int32) _ _ _ G (lv_sub hl [0, 1, 2] rfl) hf
  · replace hf := if_f hf c11
    refine lv_iconst (v := 2) hx hb dX10_within_4 (by decide) ?_
    refine lv_goto (tgt := 9) hx hb dX10_within_5 (by decide) ?_
    exact JJ1 (2 : Int32) _ _ _ G (lv_sub hl [0, 1, 2] rfl) hf
theorem mk_X10_within : MV yX10_within cX10_within 4 (some .boolean) 2 := ⟨co_X10_within, in_X10, im_X10_within, se_X10_within, by decide +kernel, by decide +kernel⟩
noncomputable def FX10_undo (MO : MoT) : Option (Int32 × MoT) :=
  if (Mo_undos MO) = 0 then (
    some ((-1 : Int32), MO)
  ) else (
    nm (sMo_undos MO ((Mo_undos MO) - (1 : Int32))) fun MO2 =>
    (FX10_copies MO2 ((1896 : Int32) + ((474 : Int32) * (Mo_undos MO2))) (0 : Int32) (474 : Int32)).bind fun r3 =>
    some (Mo_undos r3, r3)
  )
set_option maxHeartbeats 4000000 in
set_option maxRecDepth 100000 in
theorem ctX10_undo {l : Launch} {D : va_G} {k : Nat → ClassId} {Z : ZT} (hZ : ZOK Z) (ot : Nat) (aMO : Nat → Nat) {MO : MoT} {q : Int32 × MoT} (hf : FX10_undo MO = some q) :
    CM l D k Z yX10_undo cX10_undo 1 (some .int) 1 24 [.ref ot] (some (.int q.1)) (kMo k ot aMO (MO)) (kMo k ot aMO (q.2)) := by
  refine CM.start hZ (by decide) (Nat.le_of_ble_eq_true rfl) ?_
  intro p e s m below meth c ls X hl G
  have hx := X.1
  have hb := X.2.1
  have hl : lv_has ls 1 [(0, .ref ot)] := hl
  unfold FX10_undo at hf
  refine lv_aload_n hx hb dX10_undo_0 rfl (lv_at hl 0 rfl) ?_
  refine r_get X inw_X10 G 0 rfl rfl 6 (by decide) fl_X10_143 (v := .int (Mo_undos MO)) rfl dX10_undo_1 ?_
  refine lv_if_ne (tgt := 9) hx hb dX10_undo_4 (by decide) (fun c1 => ?_) (fun c1 => ?_)
  · replace hf := if_f hf c1
    refine lv_aload_n hx hb dX10_undo_9 rfl (lv_at hl 0 rfl) ?_
    refine lv_dup hx hb dX10_undo_10 rfl ?_
    refine r_get X inw_X10 G 0 rfl rfl 6 (by decide) fl_X10_143 (v := .int (Mo_undos MO)) rfl dX10_undo_11 ?_
    refine lv_iconst (v := 1) hx hb dX10_undo_14 (by decide) ?_
    refine lv_isub hx hb dX10_undo_15 ?_
    obtain ⟨MO2, eMO2, hf⟩ := nm_some hf
    refine r_put X inw_X10 tyX10 tyX10_ok nmX10 G 0 rfl rfl 6 (by decide) fl_X10_143 rfl rfl rfl (Nat.le_of_ble_eq_true rfl) (ws' := kMo k ot aMO (MO2)) (by subst eMO2; rfl) dX10_undo_16 (fun H locs G => ?_)
    refine lv_aload_n hx hb dX10_undo_19 rfl (lv_at hl 0 rfl) ?_
    refine lv_sipush (v := 1896) hx hb dX10_undo_20 (by decide) ?_
    refine lv_sipush (v := 474) hx hb dX10_undo_23 (by decide) ?_
    refine lv_aload_n hx hb dX10_undo_26 rfl (lv_at hl 0 rfl) ?_
    refine r_get X inw_X10 G 0 rfl rfl 6 (by decide) fl_X10_143 (v := .int (Mo_undos MO2)) rfl dX10_undo_27 ?_
    refine lv_imul hx hb dX10_undo_30 ?_
    refine lv_iadd hx hb dX10_undo_31 ?_
    refine lv_iconst (v := 0) hx hb dX10_undo_32 (by decide) ?_
    refine lv_sipush (v := 474) hx hb dX10_undo_33 (by decide) ?_
    obtain ⟨r3, hcr3, hf⟩ := bd_some hf
    refine p_N (st1 := []) (wr := []) (ws' := kMo k ot aMO (r3)) (run_V (rest := []) X (ctX10_copies hZ ot aMO hcr3) mk_X10_copies ml_X10_103 ⟨(Nat.le_of_ble_eq_true rfl), (Nat.le_of_ble_eq_true rfl)⟩ G [0, 1, 2, 3, 4, 5, 6, 7] rfl rfl 0 rfl rfl rfl hl.1 rfl (Nat.le_of_ble_eq_true rfl) dX10_undo_36 ⟨Nat.zero_le _, Nat.zero_le _⟩) rfl G [0, 1, 2, 3, 4, 5, 6, 7] [] 8 rfl rfl rfl rfl rfl (by decide) (by decide) rfl (fun H locs G => ?_)
    refine lv_aload_n hx hb dX10_undo_39 rfl (lv_at hl 0 rfl) ?_
    refine r_get X inw_X10 G 0 rfl rfl 6 (by decide) fl_X10_143 (v := .int (Mo_undos r3)) rfl dX10_undo_40 ?_
    cases hf
    exact e_mi X G dX10_undo_43
  · replace hf := if_t hf c1
    refine lv_iconst (v := -1) hx hb dX10_undo_7 (by decide) ?_
    cases hf
    exact e_mi X G dX10_undo_8
theorem mk_X10_undo : MV yX10_undo cX10_undo 1 (some .int) 0 := ⟨co_X10_undo, in_X10, im_X10_undo, se_X10_undo, by decide +kernel, by decide +kernel⟩
noncomputable def FX10_counted_10 (MO : MoT) (v1 : Int32) (r1 : Int32) : (Int32 × Int32) → Option ((Int32 × Int32) ⊕ (Int32)) := fun stL2 =>
  (FX10_workers MO).bind fun r3 =>
  if r3 ≤ stL2.2 then (
    some (.inr stL2.1)
  ) else (
    (FX10_isEnded MO stL2.2).bind fun r5 =>
    if (bI r5) = 0 then (
      if v1 = (5 : Int32) then (
        (FX10_isHeldUp MO stL2.2).bind fun r38 =>
        nm (bI r38) fun x39 =>
        if x39 = 0 then (
          nm (stL2.1 + (0 : Int32)) fun x41 =>
          nm (stL2.2 + 1) fun x42 =>
          some (.inl (x41, x42))
        ) else (
          nm (stL2.1 + (1 : Int32)) fun x43 =>
          nm (stL2.2 + 1) fun x44 =>
          some (.inl (x43, x44))
        )
      ) else (
        if v1 = (6 : Int32) then (
          (FX10_has r1 stL2.2).bind fun r32 =>
          if (bI r32) = 0 then (
            nm (stL2.1 + (1 : Int32)) fun x36 =>
            nm (stL2.2 + 1) fun x37 =>
            some (.inl (x36, x37))
          ) else (
            nm (stL2.1 + (0 : Int32)) fun x34 =>
            nm (stL2.2 + 1) fun x35 =>
            some (.inl (x34, x35))
          )
        ) else (
          if v1 = (7 : Int32) then (
            (FX10_has r1 stL2.2).bind fun r25 =>
            nm (bI r25) fun x26 =>
            if x26 = 0 then (
              nm (stL2.1 + (0 : Int32)) fun x28 =>
              nm (stL2.2 + 1) fun x29 =>
              some (.inl (x28, x29))
            ) else (
              nm (stL2.1 + (1 : Int32)) fun x30 =>
              nm (stL2.2 + 1) fun x31 =>
              some (.inl (x30, x31))
            )
          ) else (
            if v1 = (8 : Int32) then (
              (FX10_isSoft MO stL2.2 r1).bind fun r18 =>
              nm (bI r18) fun x19 =>
              if x19 = 0 then (
                nm (stL2.1 + (0 : Int32)) fun x21 =>
                nm (stL2.2 + 1) fun x22 =>
                some (.inl (x21, x22))
              ) else (
                nm (stL2.1 + (1 : Int32)) fun x23 =>
                nm (stL2.2 + 1) fun x24 =>
                some (.inl (x23, x24))
              )
            ) else (
              (FX10_isSlow MO stL2.2).bind fun r11 =>
              nm (bI r11) fun x12 =>
              if x12 = 0 then (
                nm (stL2.1 + (0 : Int32)) fun x14 =>
                nm (stL2.2 + 1) fun x15 =>
                some (.inl (x14, x15))
              ) else (
                nm (stL2.1 + (1 : Int32)) fun x16 =>
                nm (stL2.2 + 1) fun x17 =>
                some (.inl (x16, x17))
              )
            )
          )
        )
      )
    ) else (
      nm (stL2.2 + 1) fun x45 =>
      some (.inl (stL2.1, x45))
    )
  )
noncomputable def FX10_counted (MO : MoT) (v1 : Int32) : Option (Int32) :=
  (FX10_hard MO).bind fun r1 =>
  (itr (FX10_counted_10 MO v1 r1) ((0 : Int32), (0 : Int32))).bind fun uL2 =>
  some uL2
set_option maxHeartbeats 4000000 in
set_option maxRecDepth 100000 in
theorem ctX10_counted {l : Launch} {D : va_G} {k : Nat → ClassId} {Z : ZT} (hZ : ZOK Z) (ot : Nat) (aMO : Nat → Nat) {MO : MoT} {v1 : Int32} {q : Int32} (hf : FX10_counted MO v1 = some q) :
    CR l D k Z yX10_counted cX10_counted 6 (some .int) 7 156 [.ref ot, .int v1] (some (.int q)) (kMo k ot aMO (MO)) := by
  refine CR.start hZ (by decide) (Nat.le_of_ble_eq_true rfl) ?_
  intro p e s m below meth c ls X hl G
  have hx := X.1
  have hb := X.2.1
  have hl : lv_has ls 6 [(0, .ref ot), (1, .int v1)] := hl
  unfold FX10_counted at hf
  refine lv_aload_n hx hb dX10_counted_0 rfl (lv_at hl 0 rfl) ?_
  obtain ⟨r1, hcr1, hf⟩ := bd_some hf
  refine p_R (st1 := [.int r1]) (run_V (rest := []) X (ctX10_hard hZ ot aMO hcr1) mk_X10_hard ml_X10_110 ⟨(Nat.le_of_ble_eq_true rfl), (Nat.le_of_ble_eq_true rfl)⟩ G [0, 1, 2, 3, 4, 5, 6, 7] rfl rfl 0 rfl rfl rfl hl.1 rfl (Nat.le_of_ble_eq_true rfl) dX10_counted_1 ⟨Nat.zero_le _, Nat.zero_le _⟩) rfl ?_
  refine lv_istore_n (lv' := [(2, .int r1), (0, .ref ot), (1, .int v1)]) hx hb dX10_counted_4 rfl hl (by decide) rfl (fun ls hl => ?_)
  refine lv_iconst (v := 0) hx hb dX10_counted_5 (by decide) ?_
  refine lv_istore_n (lv' := [(3, .int (0 : Int32)), (2, .int r1), (0, .ref ot), (1, .int v1)]) hx hb dX10_counted_6 rfl hl (by decide) rfl (fun ls hl => ?_)
  refine lv_iconst (v := 0) hx hb dX10_counted_7 (by decide) ?_
  refine lv_istore (lv' := [(4, .int (0 : Int32)), (3, .int (0 : Int32)), (2, .int r1), (0, .ref ot), (1, .int v1)]) hx hb dX10_counted_8 hl (by decide) rfl (fun ls hl => ?_)
  obtain ⟨exL2, hitL2, hfL2⟩ := bd_some hf
  obtain ⟨nL2, hitL2⟩ := itr_ex hitL2
  have KL2_0 : ∀ (u : Int32) (ls : Array Slot), exL2 = u → lv_has ls 6 [(3, .int u)] → W p l e (rmz 7 156) s m [.ref ot, .int v1].toArray below meth c s.heap [] 0 0 (MQ below (Qr (some (.int q))) [.ref ot, .int v1].toArray s 0 0 (fun _ => False)) (F0 m 126 ls []) := by
    intro uL2 ls hex hl
    rw [hex] at hfL2
    have hf := hfL2
    refine lv_iload_n hx hb dX10_counted_126 rfl (lv_at hl 0 rfl) ?_
    cases hf
    exact e_ri X dX10_counted_127
  have LL2 : ∀ (n : Nat) (stL2 : Int32 × Int32) (ls : Array Slot), lv_has ls 6 [(0, .ref ot), (1, .int v1), (2, .int r1), (3, .int (stL2.1)), (4, .int (stL2.2))] → it (FX10_counted_10 MO v1 r1) n stL2 = some exL2 → W p l e (rmz 7 156) s m [.ref ot, .int v1].toArray below meth c s.heap [] 0 0 (MQ below (Qr (some (.int q))) [.ref ot, .int v1].toArray s 0 0 (fun _ => False)) (F0 m 10 ls []) := by
    intro n
    induction n with
    | zero =>
      intro stL2 ls hl hit
      exact (it_zero hit).elim
    | succ n ih =>
      intro stL2 ls hl hit
      obtain ⟨oL2, hf, hoL2⟩ := it_bd hit
      unfold FX10_counted_10 at hf
      refine lv_iload hx hb dX10_counted_10 (lv_at hl 4 rfl) ?_
      refine lv_aload_n hx hb dX10_counted_12 rfl (lv_at hl 0 rfl) ?_
      obtain ⟨r3, hcr3, hf⟩ := bd_some hf
      refine p_R (st1 := [.int r3, .int (stL2.2)]) (run_V (rest := [.int (stL2.2)]) X (ctX10_workers hZ ot aMO hcr3) mk_X10_workers ml_X10_43 ⟨(Nat.le_of_ble_eq_true rfl), (Nat.le_of_ble_eq_true rfl)⟩ G [0, 1, 2, 3, 4, 5, 6, 7] rfl rfl 0 rfl rfl rfl hl.1 rfl (Nat.le_of_ble_eq_true rfl) dX10_counted_13 ⟨Nat.zero_le _, Nat.zero_le _⟩) rfl ?_
      refine lv_icmp_ge (tgt := 126) hx hb dX10_counted_16 (by decide) (fun c4 => ?_) (fun c4 => ?_)
      · replace hf := if_t hf c4
        cases hf
        exact KL2_0 stL2.1 _ (it_out hoL2) (lv_sub hl [3] rfl)
      · replace hf := if_f hf c4
        refine lv_aload_n hx hb dX10_counted_19 rfl (lv_at hl 0 rfl) ?_
        refine lv_iload hx hb dX10_counted_20 (lv_at hl 4 rfl) ?_
        obtain ⟨r5, hcr5, hf⟩ := bd_some hf
        refine p_R (st1 := [.int (bI r5)]) (run_V (rest := []) X (ctX10_isEnded hZ ot aMO hcr5) mk_X10_isEnded ml_X10_81 ⟨(Nat.le_of_ble_eq_true rfl), (Nat.le_of_ble_eq_true rfl)⟩ G [0, 1, 2, 3, 4, 5, 6, 7] rfl rfl 0 rfl rfl rfl hl.1 rfl (Nat.le_of_ble_eq_true rfl) dX10_counted_22 ⟨Nat.zero_le _, Nat.zero_le _⟩) rfl ?_
        refine lv_if_eq (tgt := 31) hx hb dX10_counted_25 (by decide) (fun c6 => ?_) (fun c6 => ?_)
        · replace hf := if_t hf c6
          refine lv_iload_n hx hb dX10_counted_31 rfl (lv_at hl 1 rfl) ?_
          refine lv_iconst (v := 5) hx hb dX10_counted_32 (by decide) ?_
          refine lv_icmp_ne (tgt := 45) hx hb dX10_counted_33 (by decide) (fun c7 => ?_) (fun c7 => ?_)
          · replace hf := if_f hf c7
            refine lv_iload_n hx hb dX10_counted_45 rfl (lv_at hl 1 rfl) ?_
            refine lv_bipush (v := 6) hx hb dX10_counted_46 (by decide) ?_
            refine lv_icmp_ne (tgt := 68) hx hb dX10_counted_48 (by decide) (fun c8 => ?_) (fun c8 => ?_)
            · replace hf := if_f hf c8
              refine lv_iload_n hx hb dX10_counted_68 rfl (lv_at hl 1 rfl) ?_
              refine lv_bipush (v := 7) hx hb dX10_counted_69 (by decide) ?_
              refine lv_icmp_ne (tgt := 83) hx hb dX10_counted_71 (by decide) (fun c9 => ?_) (fun c9 => ?_)
              · replace hf := if_f hf c9
                refine lv_iload_n hx hb dX10_counted_83 rfl (lv_at hl 1 rfl) ?_
                refine lv_bipush (v := 8) hx hb dX10_counted_84 (by decide) ?_
                refine lv_icmp_ne (tgt := 99) hx hb dX10_counted_86 (by decide) (fun c10 => ?_) (fun c10 => ?_)
                · replace hf := if_f hf c10
                  refine lv_aload_n hx hb dX10_counted_99 rfl (lv_at hl 0 rfl) ?_
                  refine lv_iload hx hb dX10_counted_100 (lv_at hl 4 rfl) ?_
                  obtain ⟨r11, hcr11, hf⟩ := bd_some hf
                  refine p_R (st1 := [.int (bI r11)]) (run_V (rest := []) X (ctX10_isSlow hZ ot aMO hcr11) mk_X10_isSlow ml_X10_128 ⟨(Nat.le_of_ble_eq_true rfl), (Nat.le_of_ble_eq_true rfl)⟩ G [0, 1, 2, 3, 4, 5, 6, 7] rfl rfl 0 rfl rfl rfl hl.1 rfl (Nat.le_of_ble_eq_true rfl) dX10_counted_102 ⟨Nat.zero_le _, Nat.zero_le _⟩) rfl ?_
                  obtain ⟨x12, ex12, hf⟩ := nm_some hf
                  refine r_top (congrArg Value.int ex12) ?_
                  refine lv_istore (lv' := [(5, .int x12), (0, .ref ot), (1, .int v1), (2, .int r1), (3, .int (stL2.1)), (4, .int (stL2.2))]) hx hb dX10_counted_105 hl (by decide) rfl (fun ls hl => ?_)
                  refine lv_iload_n hx hb dX10_counted_107 rfl (lv_at hl 4 rfl) ?_
                  refine lv_iload hx hb dX10_counted_108 (lv_at hl 0 rfl) ?_
                  refine lv_if_eq (tgt := 117) hx hb dX10_counted_110 (by decide) (fun c13 => ?_) (fun c13 => ?_)
                  · replace hf := if_t hf c13
                    refine lv_iconst (v := 0) hx hb dX10_counted_117 (by decide) ?_
                    refine lv_iadd hx hb dX10_counted_118 ?_
                    obtain ⟨x14, ex14, hf⟩ := nm_some hf
                    refine r_top (congrArg Value.int ex14) ?_
                    refine lv_istore_n (lv' := [(3, .int x14), (5, .int x12), (0, .ref ot), (1, .int v1), (2, .int r1), (4, .int (stL2.2))]) hx hb dX10_counted_119 rfl hl (by decide) rfl (fun ls hl => ?_)
                    obtain ⟨x15, ex15, hf⟩ := nm_some hf
                    refine lv_iinc (v := x15) (lv' := [(4, .int x15), (3, .int x14), (5, .int x12), (0, .ref ot), (1, .int v1), (2, .int r1)]) hx hb dX10_counted_120 hl (k := 5) rfl (by subst ex15; rfl) (by decide) rfl (fun ls hl => ?_)
                    refine lv_goto (tgt := 10) hx hb dX10_counted_123 (by decide) ?_
                    cases hf
                    exact ih (x14, x15) _ (lv_sub hl [3, 4, 5, 1, 0] rfl) hoL2
                  · replace hf := if_f hf c13
                    refine lv_iconst (v := 1) hx hb dX10_counted_113 (by decide) ?_
                    refine lv_goto (tgt := 118) hx hb dX10_counted_114 (by decide) ?_
                    refine lv_iadd hx hb dX10_counted_118 ?_
                    obtain ⟨x16, ex16, hf⟩ := nm_some hf
                    refine r_top (congrArg Value.int ex16) ?_
                    refine lv_istore_n (lv' := [(3, .int x16), (5, .int x12), (0, .ref ot), (1, .int v1), (2, .int r1), (4, .int (stL2.2))]) hx hb dX10_counted_119 rfl hl (by decide) rfl (fun ls hl => ?_)
                    obtain ⟨x17, ex17, hf⟩ := nm_some hf
                    refine lv_iinc (v := x17) (lv' := [(4, .int x17), (3, .int x16), (5, .int x12), (0, .ref ot), (1, .int v1), (2, .int r1)]) hx hb dX10_counted_120 hl (k := 5) rfl (by subst ex17; rfl) (by decide) rfl (fun ls hl => ?_)
                    refine lv_goto (tgt := 10) hx hb dX10_counted_123 (by decide) ?_
                    cases hf
                    exact ih (x16, x17) _ (lv_sub hl [3, 4, 5, 1, 0] rfl) hoL2
                · replace hf := if_t hf c10
                  refine lv_aload_n hx hb dX10_counted_89 rfl (lv_at hl 0 rfl) ?_
                  refine lv_iload hx hb dX10_counted_90 (lv_at hl 4 rfl) ?_
                  refine lv_iload_n hx hb dX10_counted_92 rfl (lv_at hl 2 rfl) ?_
                  obtain ⟨r18, hcr18, hf⟩ := bd_some hf
                  refine p_R (st1 := [.int (bI r18)]) (run_V (rest := []) X (ctX10_isSoft hZ ot aMO hcr18) mk_X10_isSoft ml_X10_125 ⟨(Nat.le_of_ble_eq_true rfl), (Nat.le_of_ble_eq_true rfl)⟩ G [0, 1, 2, 3, 4, 5, 6, 7] rfl rfl 0 rfl rfl rfl hl.1 rfl (Nat.le_of_ble_eq_true rfl) dX10_counted_93 ⟨Nat.zero_le _, Nat.zero_le _⟩) rfl ?_
                  refine lv_goto (tgt := 105) hx hb dX10_counted_96 (by decide) ?_
                  obtain ⟨x19, ex19, hf⟩ := nm_some hf
                  refine r_top (congrArg Value.int ex19) ?_
                  refine lv_istore (lv' := [(5, .int x19), (0, .ref ot), (1, .int v1), (2, .int r1), (3, .int (stL2.1)), (4, .int (stL2.2))]) hx hb dX10_counted_105 hl (by decide) rfl (fun ls hl => ?_)
                  refine lv_iload_n hx hb dX10_counted_107 rfl (lv_at hl 4 rfl) ?_
                  refine lv_iload hx hb dX10_counted_108 (lv_at hl 0 rfl) ?_
                  refine lv_if_eq (tgt := 117) hx hb dX10_counted_110 (by decide) (fun c20 => ?_) (fun c20 => ?_)
                  · replace hf := if_t hf c20
                    refine lv_iconst (v := 0) hx hb dX10_counted_117 (by decide) ?_
                    refine lv_iadd hx hb dX10_counted_118 ?_
                    obtain ⟨x21, ex21, hf⟩ := nm_some hf
                    refine r_top (congrArg Value.int ex21) ?_
                    refine lv_istore_n (lv' := [(3, .int x21), (5, .int x19), (0, .ref ot), (1, .int v1), (2, .int r1), (4, .int (stL2.2))]) hx hb dX10_counted_119 rfl hl (by decide) rfl (fun ls hl => ?_)
                    obtain ⟨x22, ex22, hf⟩ := nm_some hf
                    refine lv_iinc (v := x22) (lv' := [(4, .int x22), (3, .int x21), (5, .int x19), (0, .ref ot), (1, .int v1), (2, .int r1)]) hx hb dX10_counted_120 hl (k := 5) rfl (by subst ex22; rfl) (by decide) rfl (fun ls hl => ?_)
                    refine lv_goto (tgt := 10) hx hb dX10_counted_123 (by decide) ?_
                    cases hf
                    exact ih (x21, x22) _ (lv_sub hl [3, 4, 5, 1, 0] rfl) hoL2
                  · replace hf := if_f hf c20
                    refine lv_iconst (v := 1) hx hb dX10_counted_113 (by decide) ?_
                    refine lv_goto (tgt := 118) hx hb dX10_counted_114 (by decide) ?_
                    refine lv_iadd hx hb dX10_counted_118 ?_
                    obtain ⟨x23, ex23, hf⟩ := nm_some hf
                    refine r_top (congrArg Value.int ex23) ?_
                    refine lv_istore_n (lv' := [(3, .int x23), (5, .int x19), (0, .ref ot), (1, .int v1), (2, .int r1), (4, .int (stL2.2))]) hx hb dX10_counted_119 rfl hl (by decide) rfl (fun ls hl => ?_)
                    obtain ⟨x24, ex24, hf⟩ := nm_some hf
                    refine lv_iinc (v := x24) (lv' := [(4, .int x24), (3, .int x23), (5, .int x19), (0, .ref ot), (1, .int v1), (2, .int r1)]) hx hb dX10_counted_120 hl (k := 5) rfl (by subst ex24; rfl) (by decide) rfl (fun ls hl => ?_)
                    refine lv_goto (tgt := 10) hx hb dX10_counted_123 (by decide) ?_
                    cases hf
                    exact ih (x23, x24) _ (lv_sub hl [3, 4, 5, 1, 0] rfl) hoL2
              · replace hf := if_t hf c9
                refine lv_iload_n hx hb dX10_counted_74 rfl (lv_at hl 2 rfl) ?_
                refine lv_iload hx hb dX10_counted_75 (lv_at hl 4 rfl) ?_
                obtain ⟨r25, hcr25, hf⟩ := bd_some hf
                refine p_R (st1 := [.int (bI r25)]) (run_S (rest := []) X (ctX10_has hZ hcr25) mk_X10_has ml_X10_96 ⟨(Nat.le_of_ble_eq_true rfl), (Nat.le_of_ble_eq_true rfl)⟩ G [] rfl rfl rfl hl.1 rfl (Nat.le_of_ble_eq_true rfl) dX10_counted_77 ⟨Nat.zero_le _, Nat.zero_le _⟩) rfl ?_
                refine lv_goto (tgt := 105) hx hb dX10_counted_80 (by decide) ?_
                obtain ⟨x26, ex26, hf⟩ := nm_some hf
                refine r_top (congrArg Value.int ex26) ?_
                refine lv_istore (lv' := [(5, .int x26), (0, .ref ot), (1, .int v1), (2, .int r1), (3, .int (stL2.1)), (4, .int (stL2.2))]) hx hb dX10_counted_105 hl (by decide) rfl (fun ls hl => ?_)
                refine lv_iload_n hx hb dX10_counted_107 rfl (lv_at hl 4 rfl) ?_
                refine lv_iload hx hb dX10_counted_108 (lv_at hl 0 rfl) ?_
                refine lv_if_eq (tgt := 117) hx hb dX10_counted_110 (by decide) (fun c27 => ?_) (fun c27 => ?_)
                · replace hf := if_t hf c27
                  refine lv_iconst (v := 0) hx hb dX10_counted_117 (by decide) ?_
                  refine lv_iadd hx hb dX10_counted_118 ?_
                  obtain ⟨x28, ex28, hf⟩ := nm_some hf
                  refine r_top (congrArg Value.int ex28) ?_
                  refine lv_istore_n (lv' := [(3, .int x28), (5, .int x26), (0, .ref ot), (1, .int v1), (2, .int r1), (4, .int (stL2.2))]) hx hb dX10_counted_119 rfl hl (by decide) rfl (fun ls hl => ?_)
                  obtain ⟨x29, ex29, hf⟩ := nm_some hf
                  refine lv_iinc (v := x29) (lv' := [(4, .int x29), (3, .int x28), (5, .int x26), (0, .ref ot), (1, .int v1), (2, .int r1)]) hx hb dX10_counted_120 hl (k := 5) rfl (by subst ex29; rfl) (by decide) rfl (fun ls hl => ?_)
                  refine lv_goto (tgt := 10) hx hb dX10_counted_123 (by decide) ?_
                  cases hf
                  exact ih (x28, x29) _ (lv_sub hl [3, 4, 5, 1, 0] rfl) hoL2
                · replace hf := if_f hf c27
                  refine lv_iconst (v := 1) hx hb dX10_counted_113 (by decide) ?_
                  refine lv_goto (tgt := 118) hx hb dX10_counted_114 (by decide) ?_
                  refine lv_iadd hx hb dX10_counted_118 ?_
                  obtain ⟨x30, ex30, hf⟩ := nm_some hf
                  refine r_top (congrArg Value.int ex30) ?_
                  refine lv_istore_n (lv' := [(3, .int x30), (5, .int x26), (0, .ref ot), (1, .int v1), (2, .int r1), (4, .int (stL2.2))]) hx hb dX10_counted_119 rfl hl (by decide) rfl (fun ls hl => ?_)
                  obtain ⟨x31, ex31, hf⟩ := nm_some hf
                  refine lv_iinc (v := x31) (lv' := [(4, .int x31), (3, .int x30), (5, .int x26), (0, .ref ot), (1, .int v1), (2, .int r1)]) hx hb dX10_counted_120 hl (k := 5) rfl (by subst ex31; rfl) (by decide) rfl (fun ls hl => ?_)
                  refine lv_goto (tgt := 10) hx hb dX10_counted_123 (by decide) ?_
                  cases hf
                  exact ih (x30, x31) _ (lv_sub hl [3, 4, 5, 1, 0] rfl) hoL2
            · replace hf := if_t hf c8
              refine lv_iload_n hx hb dX10_counted_51 rfl (lv_at hl 2 rfl) ?_
              refine lv_iload hx hb dX10_counted_52 (lv_at hl 4 rfl) ?_
              obtain ⟨r32, hcr32, hf⟩ := bd_some hf
              refine p_R (st1 := [.int (bI r32)]) (run_S (rest := []) X (ctX10_has hZ hcr32) mk_X10_has ml_X10_96 ⟨(Nat.le_of_ble_eq_true rfl), (Nat.le_of_ble_eq_true rfl)⟩ G [] rfl rfl rfl hl.1 rfl (Nat.le_of_ble_eq_true rfl) dX10_counted_54 ⟨Nat.zero_le _, Nat.zero_le _⟩) rfl ?_
              refine lv_if_ne (tgt := 64) hx hb dX10_counted_57 (by decide) (fun c33 => ?_) (fun c33 => ?_)
              · replace hf := if_f hf c33
                refine lv_iconst (v := 0) hx hb dX10_counted_64 (by decide) ?_
                refine lv_goto (tgt := 105) hx hb dX10_counted_65 (by decide) ?_
                refine lv_istore (lv' := [(5, .int (0 : Int32)), (0, .ref ot), (1, .int v1), (2, .int r1), (3, .int (stL2.1)), (4, .int (stL2.2))]) hx hb dX10_counted_105 hl (by decide) rfl (fun ls hl => ?_)
                refine lv_iload_n hx hb dX10_counted_107 rfl (lv_at hl 4 rfl) ?_
                refine lv_iload hx hb dX10_counted_108 (lv_at hl 0 rfl) ?_
                refine lv_if_eq (tgt := 117) hx hb dX10_counted_110 (by decide) (fun _ => ?_) (fun c => absurd c (by decide))
                refine lv_iconst (v := 0) hx hb dX10_counted_117 (by decide) ?_
                refine lv_iadd hx hb dX10_counted_118 ?_
                obtain ⟨x34, ex34, hf⟩ := nm_some hf
                refine r_top (congrArg Value.int ex34) ?_
                refine lv_istore_n (lv' := [(3, .int x34), (5, .int (0 : Int32)), (0, .ref ot), (1, .int v1), (2, .int r1), (4, .int (stL2.2))]) hx hb dX10_counted_119 rfl hl (by decide) rfl (fun ls hl => ?_)
                obtain ⟨x35, ex35, hf⟩ := nm_some hf
                refine lv_iinc (v := x35) (lv' := [(4, .int x35), (3, .int x34), (5, .int (0 : Int32)), (0, .ref ot), (1, .int v1), (2, .int r1)]) hx hb dX10_counted_120 hl (k := 5) rfl (by subst ex35; rfl) (by decide) rfl (fun ls hl => ?_)
                refine lv_goto (tgt := 10) hx hb dX10_counted_123 (by decide) ?_
                cases hf
                exact ih (x34, x35) _ (lv_sub hl [3, 4, 5, 1, 0] rfl) hoL2
              · replace hf := if_t hf c33
                refine lv_iconst (v := 1) hx hb dX10_counted_60 (by decide) ?_
                refine lv_goto (tgt := 105) hx hb dX10_counted_61 (by decide) ?_
                refine lv_istore (lv' := [(5, .int (1 : Int32)), (0, .ref ot), (1, .int v1), (2, .int r1), (3, .int (stL2.1)), (4, .int (stL2.2))]) hx hb dX10_counted_105 hl (by decide) rfl (fun ls hl => ?_)
                refine lv_iload_n hx hb dX10_counted_107 rfl (lv_at hl 4 rfl) ?_
                refine lv_iload hx hb dX10_counted_108 (lv_at hl 0 rfl) ?_
                refine lv_if_eq (tgt := 117) hx hb dX10_counted_110 (by decide) (fun c => absurd c (by decide)) (fun _ => ?_)
                refine lv_iconst (v := 1) hx hb dX10_counted_113 (by decide) ?_
                refine lv_goto (tgt := 118) hx hb dX10_counted_114 (by decide) ?_
                refine lv_iadd hx hb dX10_counted_118 ?_
                obtain ⟨x36, ex36, hf⟩ := nm_some hf
                refine r_top (congrArg Value.int ex36) ?_
                refine lv_istore_n (lv' := [(3, .int x36), (5, .int (1 : Int32)), (0, .ref ot), (1, .int v1), (2, .int r1), (4, .int (stL2.2))]) hx hb dX10_counted_119 rfl hl (by decide) rfl (fun ls hl => ?_)
                obtain ⟨x37, ex37, hf⟩ := nm_some hf
                refine lv_iinc (v := x37) (lv' := [(4, .int x37), (3, .int x36), (5, .int (1 : Int32)), (0, .ref ot), (1, .int v1), (2, .int r1)]) hx hb dX10_counted_120 hl (k := 5) rfl (by subst ex37; rfl) (by decide) rfl (fun ls hl => ?_)
                refine lv_goto (tgt := 10) hx hb dX10_counted_123 (by decide) ?_
                cases hf
                exact ih (x36, x37) _ (lv_sub hl [3, 4, 5, 1, 0] rfl) hoL2
          · replace hf := if_t hf c7
            refine lv_aload_n hx hb dX10_counted_36 rfl (lv_at hl 0 rfl) ?_
            refine lv_iload hx hb dX10_counted_37 (lv_at hl 4 rfl) ?_
            obtain ⟨r38, hcr38, hf⟩ := bd_some hf
            refine p_R (st1 := [.int (bI r38)]) (run_V (rest := []) X (ctX10_isHeldUp hZ ot aMO hcr38) mk_X10_isHeldUp ml_X10_84 ⟨(Nat.le_of_ble_eq_true rfl), (Nat.le_of_ble_eq_true rfl)⟩ G [0, 1, 2, 3, 4, 5, 6, 7] rfl rfl 0 rfl rfl rfl hl.1 rfl (Nat.le_of_ble_eq_true rfl) dX10_counted_39 ⟨Nat.zero_le _, Nat.zero_le _⟩) rfl ?_
            refine lv_goto (tgt := 105) hx hb dX10_counted_42 (by decide) ?_
            obtain ⟨x39, ex39, hf⟩ := nm_some hf
            refine r_top (congrArg Value.int ex39) ?_
            refine lv_istore (lv' := [(5, .int x39), (0, .ref ot), (1, .int v1), (2, .int r1), (3, .int (stL2.1)), (4, .int (stL2.2))]) hx hb dX10_counted_105 hl (by decide) rfl (fun ls hl => ?_)
            refine lv_iload_n hx hb dX10_counted_107 rfl (lv_at hl 4 rfl) ?_
            refine lv_iload hx hb dX10_counted_108 (lv_at hl 0 rfl) ?_
            refine lv_if_eq (tgt := 117) hx hb dX10_counted_110 (by decide) (fun c40 => ?_) (fun c40 => ?_)
            · replace hf := if_t hf c40
              refine lv_iconst (v := 0) hx hb dX10_counted_117 (by decide) ?_
              refine lv_iadd hx hb dX10_counted_118 ?_
              obtain ⟨x41, ex41, hf⟩ := nm_some hf
              refine r_top (congrArg Value.int ex41) ?_
              refine lv_istore_n (lv' := [(3, .int x41), (5, .int x39), (0, .ref ot), (1, .int v1), (2, .int r1), (4, .int (stL2.2))]) hx hb dX10_counted_119 rfl hl (by decide) rfl (fun ls hl => ?_)
              obtain ⟨x42, ex42, hf⟩ := nm_some hf
              refine lv_iinc (v := x42) (lv' := [(4, .int x42), (3, .int x41), (5, .int x39), (0, .ref ot), (1, .int v1), (2, .int r1)]) hx hb dX10_counted_120 hl (k := 5) rfl (by subst ex42; rfl) (by decide) rfl (fun ls hl => ?_)
              refine lv_goto (tgt := 10) hx hb dX10_counted_123 (by decide) ?_
              cases hf
              exact ih (x41, x42) _ (lv_sub hl [3, 4, 5, 1, 0] rfl) hoL2
            · replace hf := if_f hf c40
              refine lv_iconst (v := 1) hx hb dX10_counted_113 (by decide) ?_
              refine lv_goto (tgt := 118) hx hb dX10_counted_114 (by decide) ?_
              refine lv_iadd hx hb dX10_counted_118 ?_
              obtain ⟨x43, ex43, hf⟩ := nm_some hf
              refine r_top (congrArg Value.int ex43) ?_
              refine lv_istore_n (lv' := [(3, .int x43), (5, .int x39), (0, .ref ot), (1, .int v1), (2, .int r1), (4, .int (stL2.2))]) hx hb dX10_counted_119 rfl hl (by decide) rfl (fun ls hl => ?_)
              obtain ⟨x44, ex44, hf⟩ := nm_some hf
              refine lv_iinc (v := x44) (lv' := [(4, .int x44), (3, .int x43), (5, .int x39), (0, .ref ot), (1, .int v1), (2, .int r1)]) hx hb dX10_counted_120 hl (k := 5) rfl (by subst ex44; rfl) (by decide) rfl (fun ls hl => ?_)
              refine lv_goto (tgt := 10) hx hb dX10_counted_123 (by decide) ?_
              cases hf
              exact ih (x43, x44) _ (lv_sub hl [3, 4, 5, 1, 0] rfl) hoL2
        · replace hf := if_f hf c6
          refine lv_goto (tgt := 120) hx hb dX10_counted_28 (by decide) ?_
          obtain ⟨x45, ex45, hf⟩ := nm_some hf
          refine lv_iinc (v := x45) (lv' := [(4, .int x45), (0, .ref ot), (1, .int v1), (2, .int r1), (3, .int (stL2.1))]) hx hb dX10_counted_120 hl (k := 4) rfl (by subst ex45; rfl) (by decide) rfl (fun ls hl => ?_)
          refine lv_goto (tgt := 10) hx hb dX10_counted_123 (by decide) ?_
          cases hf
          exact ih (stL2.1, x45) _ (lv_sub hl [1, 2, 3, 4, 0] rfl) hoL2
  exact LL2 nL2 ((0 : Int32), (0 : Int32)) _ (lv_sub hl [3, 4, 2, 1, 0] rfl) hitL2
theorem mk_X10_counted : MV yX10_counted cX10_counted 6 (some .int) 1 := ⟨co_X10_counted, in_X10, im_X10_counted, se_X10_counted, by decide +kernel, by decide +kernel⟩
noncomputable def FX10_count (MO : MoT) (v1 : Int32) : Option (Int32) :=
  if v1 = (0 : Int32) then (
    (FX10_workers MO).bind fun r2 =>
    some r2
  ) else (
  if v1 = (1 : Int32) then (
    (FX10_ended MO).bind fun r4 =>
    some r4
  ) else (
  if v1 = (2 : Int32) then (
    ix (207 : Int32) 9519 <|
    some (Mo_all MO (Int32.toNatClampNeg (207 : Int32)))
  ) else (
  if v1 = (3 : Int32) then (
    ix (1 : Int32) 9519 <|
    some (Mo_all MO (Int32.toNatClampNeg (1 : Int32)))
  ) else (
  if v1 = (4 : Int32) then (
    ix (2 : Int32) 9519 <|
    some (Mo_all MO (Int32.toNatClampNeg (2 : Int32)))
  ) else (
  if v1 = (10 : Int32) then (
    ix (322 : Int32) 9519 <|
    some (Mo_all MO (Int32.toNatClampNeg (322 : Int32)))
  ) else (
  if v1 = (11 : Int32) then (
    ix (323 : Int32) 9519 <|
    some (Mo_all MO (Int32.toNatClampNeg (323 : Int32)))
  ) else (
  if v1 = (12 : Int32) then (
    some (Mo_undos MO)
  ) else (
  if v1 = (13 : Int32) then (
    some (Mo_taped MO)
  ) else (
    (FX10_isIn v1 (5 : Int32) (9 : Int32)).bind fun r17 =>
    if (bI r17) = 0 then (
      some (-1 : Int32)
    ) else (
      (FX10_counted MO v1).bind fun r19 =>
      some r19
    )
  )))))))))
set_option maxHeartbeats 4000000 in
set_option maxRecDepth 100000 in
theorem ctX10_count {l : Launch} {D : va_G} {k : Nat → ClassId} {Z : ZT} (hZ : ZOK Z) (ot : Nat) (aMO : Nat → Nat) {MO : MoT} {v1 : Int32} {q : Int32} (hf : FX10_count MO v1 = some q) :
    CR l D k Z yX10_count cX10_count 2 (some .int) 8 181 [.ref ot, .int v1] (some (.int q)) (kMo k ot aMO (MO)) := by
  refine CR.start hZ (by decide) (Nat.le_of_ble_eq_true rfl) ?_
  intro p e s m below meth c ls X hl G
  have hx := X.1
  have hb := X.2.1
  have hl : lv_has ls 2 [(0, .ref ot), (1, .int v1)] := hl
  unfold FX10_count at hf
  refine lv_iload_n hx hb dX10_count_0 rfl (lv_at hl 1 rfl) ?_
  by_cases c1 : v1 = (0 : Int32)
  · replace hf := if_t hf c1
    refine r_tsw X (tgt := 72) dX10_count_1 (by rw [c1]; decide +kernel) (by rw [c1]; decide +kernel) ?_
    refine lv_aload_n hx hb dX10_count_72 rfl (lv_at hl 0 rfl) ?_
    obtain ⟨r2, hcr2, hf⟩ := bd_some hf
    refine p_R (st1 := [.int r2]) (run_V (rest := []) X (ctX10_workers hZ ot aMO hcr2) mk_X10_workers ml_X10_43 ⟨(Nat.le_of_ble_eq_true rfl), (Nat.le_of_ble_eq_true rfl)⟩ G [0, 1, 2, 3, 4, 5, 6, 7] rfl rfl 0 rfl rfl rfl hl.1 rfl (Nat.le_of_ble_eq_true rfl) dX10_count_73 ⟨Nat.zero_le _, Nat.zero_le _⟩) rfl ?_
    cases hf
    exact e_ri X dX10_count_76
  replace hf := if_f hf c1
  by_cases c3 : v1 = (1 : Int32)
  · replace hf := if_t hf c3
    refine r_tsw X (tgt := 77) dX10_count_1 (by rw [c3]; decide +kernel) (by rw [c3]; decide +kernel) ?_
    refine lv_aload_n hx hb dX10_count_77 rfl (lv_at hl 0 rfl) ?_
    obtain ⟨r4, hcr4, hf⟩ := bd_some hf
    refine p_R (st1 := [.int r4]) (run_V (rest := []) X (ctX10_ended hZ ot aMO hcr4) mk_X10_ended ml_X10_152 ⟨(Nat.le_of_ble_eq_true rfl), (Nat.le_of_ble_eq_true rfl)⟩ G [0, 1, 2, 3, 4, 5, 6, 7] rfl rfl 0 rfl rfl rfl hl.1 rfl (Nat.le_of_ble_eq_true rfl) dX10_count_78 ⟨Nat.zero_le _, Nat.zero_le _⟩) rfl ?_
    cases hf
    exact e_ri X dX10_count_81
  replace hf := if_f hf c3
  by_cases c5 : v1 = (2 : Int32)
  · replace hf := if_t hf c5
    refine r_tsw X (tgt := 82) dX10_count_1 (by rw [c5]; decide +kernel) (by rw [c5]; decide +kernel) ?_
    refine lv_aload_n hx hb dX10_count_82 rfl (lv_at hl 0 rfl) ?_
    refine r_get X inw_X10 G 0 rfl rfl 0 (by decide) fl_X10_7 (v := .ref (aMO 0)) rfl dX10_count_83 ?_
    refine lv_sipush (v := 207) hx hb dX10_count_86 (by decide) ?_
    obtain ⟨h6, hf⟩ := ix_some hf
    refine r_iald X G 1 rfl h6 dX10_count_89 ?_
    cases hf
    exact e_ri X dX10_count_90
  replace hf := if_f hf c5
  by_cases c7 : v1 = (3 : Int32)
  · replace hf := if_t hf c7
    refine r_tsw X (tgt := 91) dX10_count_1 (by rw [c7]; decide +kernel) (by rw [c7]; decide +kernel) ?_
    refine lv_aload_n hx hb dX10_count_91 rfl (lv_at hl 0 rfl) ?_
    refine r_get X inw_X10 G 0 rfl rfl 0 (by decide) fl_X10_7 (v := .ref (aMO 0)) rfl dX10_count_92 ?_
    refine lv_iconst (v := 1) hx hb dX10_count_95 (by decide) ?_
    obtain ⟨h8, hf⟩ := ix_some hf
    refine r_iald X G 1 rfl h8 dX10_count_96 ?_
    cases hf
    exact e_ri X dX10_count_97
  replace hf := if_f hf c7
  by_cases c9 : v1 = (4 : Int32)
  · replace hf := if_t hf c9
    refine r_tsw X (tgt := 98) dX10_count_1 (by rw [c9]; decide +kernel) (by rw [c9]; decide +kernel) ?_
    refine lv_aload_n hx hb dX10_count_98 rfl (lv_at hl 0 rfl) ?_
    refine r_get X inw_X10 G 0 rfl rfl 0 (by decide) fl_X10_7 (v := .ref (aMO 0)) rfl dX10_count_99 ?_
    refine lv_iconst (v := 2) hx hb dX10_count_102 (by decide) ?_
    obtain ⟨h10, hf⟩ := ix_some hf
    refine r_iald X G 1 rfl h10 dX10_count_103 ?_
    cases hf
    exact e_ri X dX10_count_104
  replace hf := if_f hf c9
  by_cases c11 : v1 = (10 : Int32)
  · replace hf := if_t hf c11
    refine r_tsw X (tgt := 105) dX10_count_1 (by rw [c11]; decide +kernel) (by rw [c11]; decide +kernel) ?_
    refine lv_aload_n hx hb dX10_count_105 rfl (lv_at hl 0 rfl) ?_
    refine r_get X inw_X10 G 0 rfl rfl 0 (by decide) fl_X10_7 (v := .ref (aMO 0)) rfl dX10_count_106 ?_
    refine lv_sipush (v := 322) hx hb dX10_count_109 (by decide) ?_
    obtain ⟨h12, hf⟩ := ix_some hf
    refine r_iald X G 1 rfl h12 dX10_count_112 ?_
    cases hf
    exact e_ri X dX10_count_113
  replace hf := if_f hf c11
  by_cases c13 : v1 = (11 : Int32)
  · replace hf := if_t hf c13
    refine r_tsw X (tgt := 114) dX10_count_1 (by rw [c13]; decide +kernel) (by rw [c13]; decide +kernel) ?_
    refine lv_aload_n hx hb dX10_count_114 rfl (lv_at hl 0 rfl) ?_
    refine r_get X inw_X10 G 0 rfl rfl 0 (by decide) fl_X10_7 (v := .ref (aMO 0)) rfl dX10_count_115 ?_
    refine lv_sipush (v := 323) hx hb dX10_count_118 (by decide) ?_
    obtain ⟨h14, hf⟩ := ix_some hf
    refine r_iald X G 1 rfl h14 dX10_count_121 ?_
    cases hf
    exact e_ri X dX10_count_122
  replace hf := if_f hf c13
  by_cases c15 : v1 = (12 : Int32)
  · replace hf := if_t hf c15
    refine r_tsw X (tgt := 123) dX10_count_1 (by rw [c15]; decide +kernel) (by rw [c15]; decide +kernel) ?_
    refine lv_aload_n hx hb dX10_count_123 rfl (lv_at hl 0 rfl) ?_
    refine r_get X inw_X10 G 0 rfl rfl 6 (by decide) fl_X10_143 (v := .int (Mo_undos MO)) rfl dX10_count_124 ?_
    cases hf
    exact e_ri X dX10_count_127
  replace hf := if_f hf c15
  by_cases c16 : v1 = (13 : Int32)
  · replace hf := if_t hf c16
    refine r_tsw X (tgt := 128) dX10_count_1 (by rw [c16]; decide +kernel) (by rw [c16]; decide +kernel) ?_
    refine lv_aload_n hx hb dX10_count_128 rfl (lv_at hl 0 rfl) ?_
    refine r_get X inw_X10 G 0 rfl rfl 3 (by decide) fl_X10_158 (v := .int (Mo_taped MO)) rfl dX10_count_129 ?_
    cases hf
    exact e_ri X dX10_count_132
  replace hf := if_f hf c16
  have hd := tsw_d (x := v1) (lo' := 0) (hi' := 13) (dflt := 132) (offs := #[71, 76, 81, 90, 97, 132, 132, 132, 132, 132, 104, 113, 122, 127]) [(0 : Int32), (1 : Int32), (2 : Int32), (3 : Int32), (4 : Int32), (10 : Int32), (11 : Int32), (12 : Int32), (13 : Int32)] (by
      intro k hk
      simp only [List.mem_cons, List.not_mem_nil, or_false] at hk
      rcases hk with rfl | rfl | rfl | rfl | rfl | rfl | rfl | rfl | rfl
      · exact c1
      · exact c3
      · exact c5
      · exact c7
      · exact c9
      · exact c11
      · exact c13
      · exact c15
      · exact c16
      ) 13 (by decide) (by decide +kernel)
  refine r_tsw X (tgt := 133) dX10_count_1 (by rw [hd.1]; rfl) hd.2 ?_
  refine lv_iload_n hx hb dX10_count_133 rfl (lv_at hl 1 rfl) ?_
  refine lv_iconst (v := 5) hx hb dX10_count_134 (by decide) ?_
  refine lv_bipush (v := 9) hx hb dX10_count_135 (by decide) ?_
  obtain ⟨r17, hcr17, hf⟩ := bd_some hf
  refine p_R (st1 := [.int (bI r17)]) (run_S (rest := []) X (ctX10_isIn hZ hcr17) mk_X10_isIn ml_X10_47 ⟨(Nat.le_of_ble_eq_true rfl), (Nat.le_of_ble_eq_true rfl)⟩ G [] rfl rfl rfl hl.1 rfl (Nat.le_of_ble_eq_true rfl) dX10_count_137 ⟨Nat.zero_le _, Nat.zero_le _⟩) rfl ?_
  refine lv_if_eq (tgt := 151) hx hb dX10_count_140 (by decide) (fun c18 => ?_) (fun c18 => ?_)
  · replace hf := if_t hf c18
    refine lv_iconst (v := -1) hx hb dX10_count_151 (by decide) ?_
    cases hf
    exact e_ri X dX10_count_152
  · replace hf := if_f hf c18
    refine lv_aload_n hx hb dX10_count_143 rfl (lv_at hl 0 rfl) ?_
    refine lv_iload_n hx hb dX10_count_144 rfl (lv_at hl 1 rfl) ?_
    obtain ⟨r19, hcr19, hf⟩ := bd_some hf
    refine p_R (st1 := [.int r19]) (run_V (rest := []) X (ctX10_counted hZ ot aMO hcr19) mk_X10_counted ml_X10_161 ⟨(Nat.le_of_ble_eq_true rfl), (Nat.le_of_ble_eq_true rfl)⟩ G [0, 1, 2, 3, 4, 5, 6, 7] rfl rfl 0 rfl rfl rfl hl.1 rfl (Nat.le_of_ble_eq_true rfl) dX10_count_145 ⟨Nat.zero_le _, Nat.zero_le _⟩) rfl ?_
    refine lv_goto (tgt := 152) hx hb dX10_count_148 (by decide) ?_
    cases hf
    exact e_ri X dX10_count_152
theorem mk_X10_count : MV yX10_count cX10_count 2 (some .int) 1 := ⟨co_X10_count, in_X10, im_X10_count, se_X10_count, by decide +kernel, by decide +kernel⟩
noncomputable def FX10_locks_4 (MO : MoT) (v1 : Int32) : (Int32 × Int32) → Option ((Int32 × Int32) ⊕ (Int32)) := fun stL1 =>
  if (6 : Int32) ≤ stL1.2 then (
    some (.inr stL1.1)
  ) else (
    nm (((Mo_b MO) + (240 : Int32)) + stL1.2) fun x3 =>
    ix x3 9519 <|
    if (Mo_all MO (Int32.toNatClampNeg x3)) = v1 then (
      nm (stL1.1 ||| ((1 : Int32) <<< (stL1.2 &&& 31))) fun x7 =>
      nm (stL1.2 + 1) fun x8 =>
      some (.inl (x7, x8))
    ) else (
      nm (stL1.2 + 1) fun x6 =>
      some (.inl (stL1.1, x6))
    )
  )
noncomputable def FX10_locks (MO : MoT) (v1 : Int32) : Option (Int32) :=
  (itr (FX10_locks_4 MO v1) ((0 : Int32), (0 : Int32))).bind fun uL1 =>
  some uL1
set_option maxHeartbeats 4000000 in
set_option maxRecDepth 100000 in
theorem ctX10_locks {l : Launch} {D : va_G} {k : Nat → ClassId} {Z : ZT} (hZ : ZOK Z) (ot : Nat) (aMO : Nat → Nat) {MO : MoT} {v1 : Int32} {q : Int32} (hf : FX10_locks MO v1 = some q) :
    CR l D k Z yX10_locks cX10_locks 4 (some .int) 0 0 [.ref ot, .int v1] (some (.int q)) (kMo k ot aMO (MO)) := by
  refine CR.start hZ (by decide) (Nat.le_of_ble_eq_true rfl) ?_
  intro p e s m below meth c ls X hl G
  have hx := X.1
  have hb := X.2.1
  have hl : lv_has ls 4 [(0, .ref ot), (1, .int v1)] := hl
  unfold FX10_locks at hf
  refine lv_iconst (v := 0) hx hb dX10_locks_0 (by decide) ?_
  refine lv_istore_n (lv' := [(2, .int (0 : Int32)), (0, .ref ot), (1, .int v1)]) hx hb dX10_locks_1 rfl hl (by decide) rfl (fun ls hl => ?_)
  refine lv_iconst (v := 0) hx hb dX10_locks_2 (by decide) ?_
  refine lv_istore_n (lv' := [(3, .int (0 : Int32)), (2, .int (0 : Int32)), (0, .ref ot), (1, .int v1)]) hx hb dX10_locks_3 rfl hl (by decide) rfl (fun ls hl => ?_)
  obtain ⟨exL1, hitL1, hfL1⟩ := bd_some hf
  obtain ⟨nL1, hitL1⟩ := itr_ex hitL1
  have KL1_0 : ∀ (u : Int32) (ls : Array Slot), exL1 = u → lv_has ls 4 [(2, .int u)] → W p l e (rmz 0 0) s m [.ref ot, .int v1].toArray below meth c s.heap [] 0 0 (MQ below (Qr (some (.int q))) [.ref ot, .int v1].toArray s 0 0 (fun _ => False)) (F0 m 41 ls []) := by
    intro uL1 ls hex hl
    rw [hex] at hfL1
    have hf := hfL1
    refine lv_iload_n hx hb dX10_locks_41 rfl (lv_at hl 0 rfl) ?_
    cases hf
    exact e_ri X dX10_locks_42
  have LL1 : ∀ (n : Nat) (stL1 : Int32 × Int32) (ls : Array Slot), lv_has ls 4 [(0, .ref ot), (1, .int v1), (2, .int (stL1.1)), (3, .int (stL1.2))] → it (FX10_locks_4 MO v1) n stL1 = some exL1 → W p l e (rmz 0 0) s m [.ref ot, .int v1].toArray below meth c s.heap [] 0 0 (MQ below (Qr (some (.int q))) [.ref ot, .int v1].toArray s 0 0 (fun _ => False)) (F0 m 4 ls []) := by
    intro n
    induction n with
    | zero =>
      intro stL1 ls hl hit
      exact (it_zero hit).elim
    | succ n ih =>
      intro stL1 ls hl hit
      obtain ⟨oL1, hf, hoL1⟩ := it_bd hit
      unfold FX10_locks_4 at hf
      refine lv_iload_n hx hb dX10_locks_4 rfl (lv_at hl 3 rfl) ?_
      refine lv_bipush (v := 6) hx hb dX10_locks_5 (by decide) ?_
      refine lv_icmp_ge (tgt := 41) hx hb dX10_locks_7 (by decide) (fun c2 => ?_) (fun c2 => ?_)
      · replace hf := if_t hf c2
        cases hf
        exact KL1_0 stL1.1 _ (it_out hoL1) (lv_sub hl [2] rfl)
      · replace hf := if_f hf c2
        refine lv_aload_n hx hb dX10_locks_10 rfl (lv_at hl 0 rfl) ?_
        refine r_get X inw_X10 G 0 rfl rfl 0 (by decide) fl_X10_7 (v := .ref (aMO 0)) rfl dX10_locks_11 ?_
        refine lv_aload_n hx hb dX10_locks_14 rfl (lv_at hl 0 rfl) ?_
        refine r_get X inw_X10 G 0 rfl rfl 7 (by decide) fl_X10_40 (v := .int (Mo_b MO)) rfl dX10_locks_15 ?_
        refine lv_sipush (v := 240) hx hb dX10_locks_18 (by decide) ?_
        refine lv_iadd hx hb dX10_locks_21 ?_
        refine lv_iload_n hx hb dX10_locks_22 rfl (lv_at hl 3 rfl) ?_
        refine lv_iadd hx hb dX10_locks_23 ?_
        obtain ⟨x3, ex3, hf⟩ := nm_some hf
        refine r_top (congrArg Value.int ex3) ?_
        obtain ⟨h4, hf⟩ := ix_some hf
        refine r_iald X G 1 rfl h4 dX10_locks_24 ?_
        refine lv_iload_n hx hb dX10_locks_25 rfl (lv_at hl 1 rfl) ?_
        refine lv_icmp_ne (tgt := 35) hx hb dX10_locks_26 (by decide) (fun c5 => ?_) (fun c5 => ?_)
        · replace hf := if_f hf c5
          obtain ⟨x6, ex6, hf⟩ := nm_some hf
          refine lv_iinc (v := x6) (lv' := [(3, .int x6), (0, .ref ot), (1, .int v1), (2, .int (stL1.1))]) hx hb dX10_locks_35 hl (k := 3) rfl (by subst ex6; rfl) (by decide) rfl (fun ls hl => ?_)
          refine lv_goto (tgt := 4) hx hb dX10_locks_38 (by decide) ?_
          cases hf
          exact ih (stL1.1, x6) _ (lv_sub hl [1, 2, 3, 0] rfl) hoL1
        · replace hf := if_t hf c5
          refine lv_iload_n hx hb dX10_locks_29 rfl (lv_at hl 2 rfl) ?_
          refine lv_iconst (v := 1) hx hb dX10_locks_30 (by decide) ?_
          refine lv_iload_n hx hb dX10_locks_31 rfl (lv_at hl 3 rfl) ?_
          refine lv_ishl hx hb dX10_locks_32 ?_
          refine lv_ior hx hb dX10_locks_33 ?_
          obtain ⟨x7, ex7, hf⟩ := nm_some hf
          refine r_top (congrArg Value.int ex7) ?_
          refine lv_istore_n (lv' := [(2, .int x7), (0, .ref ot), (1, .int v1), (3, .int (stL1.2))]) hx hb dX10_locks_34 rfl hl (by decide) rfl (fun ls hl => ?_)
          obtain ⟨x8, ex8, hf⟩ := nm_some hf
          refine lv_iinc (v := x8) (lv' := [(3, .int x8), (2, .int x7), (0, .ref ot), (1, .int v1)]) hx hb dX10_locks_35 hl (k := 3) rfl (by subst ex8; rfl) (by decide) rfl (fun ls hl => ?_)
          refine lv_goto (tgt := 4) hx hb dX10_locks_38 (by decide) ?_
          cases hf
          exact ih (x7, x8) _ (lv_sub hl [2, 3, 1, 0] rfl) hoL1
  exact LL1 nL1 ((0 : Int32), (0 : Int32)) _ (lv_sub hl [2, 3, 1, 0] rfl) hitL1
theorem mk_X10_locks : MV yX10_locks cX10_locks 4 (some .int) 1 := ⟨co_X10_locks, in_X10, im_X10_locks, se_X10_locks, by decide +kernel, by decide +kernel⟩
noncomputable def FX10_flag (v1 : Int32) : Option (Int32) :=
  if v1 = 0 then (
    some (0 : Int32)
  ) else (
    some (1 : Int32)
  )
set_option maxHeartbeats 4000000 in
set_option maxRecDepth 100000 in
theorem ctX10_flag {l : Launch} {D : va_G} {k : Nat → ClassId} {Z : ZT} (hZ : ZOK Z)  {v1 : Int32} {q : Int32} (hf : FX10_flag v1 = some q) :
    CR l D k Z yX10_flag cX10_flag 1 (some .int) 0 0 [.int v1] (some (.int q)) ([]) := by
  refine CR.start hZ (by decide) (Nat.le_of_ble_eq_true rfl) ?_
  intro p e s m below meth c ls X hl G
  have hx := X.1
  have hb := X.2.1
  have hl : lv_has ls 1 [(0, .int v1)] := hl
  unfold FX10_flag at hf
  refine lv_iload_n hx hb dX10_flag_0 rfl (lv_at hl 0 rfl) ?_
  refine lv_if_eq (tgt := 8) hx hb dX10_flag_1 (by decide) (fun c1 => ?_) (fun c1 => ?_)
  · replace hf := if_t hf c1
    refine lv_iconst (v := 0) hx hb dX10_flag_8 (by decide) ?_
    cases hf
    exact e_ri X dX10_flag_9
  · replace hf := if_f hf c1
    refine lv_iconst (v := 1) hx hb dX10_flag_4 (by decide) ?_
    refine lv_goto (tgt := 9) hx hb dX10_flag_5 (by decide) ?_
    cases hf
    exact e_ri X dX10_flag_9
theorem mk_X10_flag : MS yX10_flag cX10_flag 1 (some .int) 1 := ⟨co_X10_flag, in_X10, st_X10_flag, trivial, by decide +kernel, by decide +kernel⟩
noncomputable def FX10_worker (MO : MoT) (v1 : Int32) (v2 : Int32) : Option (Int32 × MoT) :=
  (FX10_isWorker MO v1).bind fun r1 =>
  if (bI r1) = 0 then (
    some ((-1 : Int32), MO)
  ) else (
    (FX10_isEnded MO v1).bind fun r3 =>
    if (bI r3) = 0 then (
      (FX10_hard MO).bind fun r5 =>
      if v2 = (0 : Int32) then (
        (FX10_place MO v1).bind fun r7 =>
        some (r7, MO)
      ) else (
      if v2 = (1 : Int32) then (
        (FX10_sortNow MO v1).bind fun r9 =>
        some (r9, MO)
      ) else (
      if v2 = (2 : Int32) then (
        (FX10_numberNow MO v1).bind fun r11 =>
        some (r11, MO)
      ) else (
      if v2 = (3 : Int32) then (
        nm ((216 : Int32) + v1) fun x13 =>
        ix x13 9519 <|
        some (Mo_all MO (Int32.toNatClampNeg x13), MO)
      ) else (
      if v2 = (4 : Int32) then (
        (FX10_quiet MO v1).bind fun r16 =>
        some (r16, MO)
      ) else (
      if v2 = (5 : Int32) then (
        nm ((232 : Int32) + v1) fun x18 =>
        ix x18 9519 <|
        some (Mo_all MO (Int32.toNatClampNeg x18), MO)
      ) else (
      if v2 = (6 : Int32) then (
        (FX10_isHeldUp MO v1).bind fun r21 =>
        (FX10_flag (bI r21)).bind fun r22 =>
        some (r22, MO)
      ) else (
      if v2 = (7 : Int32) then (
        (FX10_has r5 v1).bind fun r24 =>
        (FX10_flag (bI r24)).bind fun r25 =>
        some (r25, MO)
      ) else (
      if v2 = (8 : Int32) then (
        (FX10_isSoft MO v1 r5).bind fun r27 =>
        (FX10_flag (bI r27)).bind fun r28 =>
        some (r28, MO)
      ) else (
      if v2 = (9 : Int32) then (
        (FX10_isSlow MO v1).bind fun r30 =>
        (FX10_flag (bI r30)).bind fun r31 =>
        some (r31, MO)
      ) else (
      if v2 = (10 : Int32) then (
        (FX10_blocker MO v1 r5).bind fun r33 =>
        some (r33.1, r33.2)
      ) else (
      if v2 = (11 : Int32) then (
        (FX10_neighbour MO v1 r5).bind fun r35 =>
        some (r35, MO)
      ) else (
      if v2 = (12 : Int32) then (
        (FX10_locks MO v1).bind fun r37 =>
        some (r37, MO)
      ) else (
      if v2 = (13 : Int32) then (
        nm ((7 : Int32) + v1) fun x39 =>
        ix x39 9519 <|
        some (Mo_all MO (Int32.toNatClampNeg x39), MO)
      ) else (
        some ((-1 : Int32), MO)
      ))))))))))))))
    ) else (
      (FX10_isIn v2 (0 : Int32) (3 : Int32)).bind fun r41 =>
      if (bI r41) = 0 then (
        (FX10_hard MO).bind fun r43 =>
        if v2 = (0 : Int32) then (
          (FX10_place MO v1).bind fun r45 =>
          some (r45, MO)
        ) else (
        if v2 = (1 : Int32) then (
          (FX10_sortNow MO v1).bind fun r47 =>
          some (r47, MO)
        ) else (
        if v2 = (2 : Int32) then (
          (FX10_numberNow MO v1).bind fun r49 =>
          some (r49, MO)
        ) else (
        if v2 = (3 : Int32) then (
          nm ((216 : Int32) + v1) fun x51 =>
          ix x51 9519 <|
          some (Mo_all MO (Int32.toNatClampNeg x51), MO)
        ) else (
        if v2 = (4 : Int32) then (
          (FX10_quiet MO v1).bind fun r54 =>
          some (r54, MO)
        ) else (
        if v2 = (5 : Int32) then (
          nm ((232 : Int32) + v1) fun x56 =>
          ix x56 9519 <|
          some (Mo_all MO (Int32.toNatClampNeg x56), MO)
        ) else (
        if v2 = (6 : Int32) then (
          (FX10_isHeldUp MO v1).bind fun r59 =>
          (FX10_flag (bI r59)).bind fun r60 =>
          some (r60, MO)
        ) else (
        if v2 = (7 : Int32) then (
          (FX10_has r43 v1).bind fun r62 =>
          (FX10_flag (bI r62)).bind fun r63 =>
          some (r63, MO)
        ) else (
        if v2 = (8 : Int32) then (
          (FX10_isSoft MO v1 r43).bind fun r65 =>
          (FX10_flag (bI r65)).bind fun r66 =>
          some (r66, MO)
        ) else (
        if v2 = (9 : Int32) then (
          (FX10_isSlow MO v1).bind fun r68 =>
          (FX10_flag (bI r68)).bind fun r69 =>
          some (r69, MO)
        ) else (
        if v2 = (10 : Int32) then (
          (FX10_blocker MO v1 r43).bind fun r71 =>
          some (r71.1, r71.2)
        ) else (
        if v2 = (11 : Int32) then (
          (FX10_neighbour MO v1 r43).bind fun r73 =>
          some (r73, MO)
        ) else (
        if v2 = (12 : Int32) then (
          (FX10_locks MO v1).bind fun r75 =>
          some (r75, MO)
        ) else (
        if v2 = (13 : Int32) then (
          nm ((7 : Int32) + v1) fun x77 =>
          ix x77 9519 <|
          some (Mo_all MO (Int32.toNatClampNeg x77), MO)
        ) else (
          some ((-1 : Int32), MO)
        ))))))))))))))
      ) else (
        some ((-1 : Int32), MO)
      )
    )
  )
set_option maxHeartbeats 4000000 in
set_option maxRecDepth 100000 in
theorem ctX10_worker {l : Launch} {D : va_G} {k : Nat → ClassId} {Z : ZT} (hZ : ZOK Z) (ot : Nat) (aMO : Nat → Nat) {MO : MoT} {v1 : Int32} {v2 : Int32} {q : Int32 × MoT} (hf : FX10_worker MO v1 v2 = some q) :
    CM l D k Z yX10_worker cX10_worker 4 (some .int) 9 206 [.ref ot, .int v1, .int v2] (some (.int q.1)) (kMo k ot aMO (MO)) (kMo k ot aMO (q.2)) := by
  refine CM.start hZ (by decide) (Nat.le_of_ble_eq_true rfl) ?_
  intro p e s m below meth c ls X hl G
  have hx := X.1
  have hb := X.2.1
  have hl : lv_has ls 4 [(0, .ref ot), (1, .int v1), (2, .int v2)] := hl
  unfold FX10_worker at hf
  refine lv_aload_n hx hb dX10_worker_0 rfl (lv_at hl 0 rfl) ?_
  refine lv_iload_n hx hb dX10_worker_1 rfl (lv_at hl 1 rfl) ?_
  obtain ⟨r1, hcr1, hf⟩ := bd_some hf
  refine p_R (st1 := [.int (bI r1)]) (run_V (rest := []) X (ctX10_isWorker hZ ot aMO hcr1) mk_X10_isWorker ml_X10_155 ⟨(Nat.le_of_ble_eq_true rfl), (Nat.le_of_ble_eq_true rfl)⟩ G [0, 1, 2, 3, 4, 5, 6, 7] rfl rfl 0 rfl rfl rfl hl.1 rfl (Nat.le_of_ble_eq_true rfl) dX10_worker_2 ⟨Nat.zero_le _, Nat.zero_le _⟩) rfl ?_
  refine lv_if_eq (tgt := 25) hx hb dX10_worker_5 (by decide) (fun c2 => ?_) (fun c2 => ?_)
  · replace hf := if_t hf c2
    refine lv_iconst (v := -1) hx hb dX10_worker_25 (by decide) ?_
    cases hf
    exact e_mi X G dX10_worker_26
  · replace hf := if_f hf c2
    refine lv_aload_n hx hb dX10_worker_8 rfl (lv_at hl 0 rfl) ?_
    refine lv_iload_n hx hb dX10_worker_9 rfl (lv_at hl 1 rfl) ?_
    obtain ⟨r3, hcr3, hf⟩ := bd_some hf
    refine p_R (st1 := [.int (bI r3)]) (run_V (rest := []) X (ctX10_isEnded hZ ot aMO hcr3) mk_X10_isEnded ml_X10_81 ⟨(Nat.le_of_ble_eq_true rfl), (Nat.le_of_ble_eq_true rfl)⟩ G [0, 1, 2, 3, 4, 5, 6, 7] rfl rfl 0 rfl rfl rfl hl.1 rfl (Nat.le_of_ble_eq_true rfl) dX10_worker_10 ⟨Nat.zero_le _, Nat.zero_le _⟩) rfl ?_
    refine lv_if_eq (tgt := 27) hx hb dX10_worker_13 (by decide) (fun c4 => ?_) (fun c4 => ?_)
    · replace hf := if_t hf c4
      refine lv_aload_n hx hb dX10_worker_27 rfl (lv_at hl 0 rfl) ?_
      obtain ⟨r5, hcr5, hf⟩ := bd_some hf
      refine p_R (st1 := [.int r5]) (run_V (rest := []) X (ctX10_hard hZ ot aMO hcr5) mk_X10_hard ml_X10_110 ⟨(Nat.le_of_ble_eq_true rfl), (Nat.le_of_ble_eq_true rfl)⟩ G [0, 1, 2, 3, 4, 5, 6, 7] rfl rfl 0 rfl rfl rfl hl.1 rfl (Nat.le_of_ble_eq_true rfl) dX10_worker_28 ⟨Nat.zero_le _, Nat.zero_le _⟩) rfl ?_
      refine lv_istore_n (lv' := [(3, .int r5), (0, .ref ot), (1, .int v1), (2, .int v2)]) hx hb dX10_worker_31 rfl hl (by decide) rfl (fun ls hl => ?_)
      refine lv_iload_n hx hb dX10_worker_32 rfl (lv_at hl 3 rfl) ?_
      by_cases c6 : v2 = (0 : Int32)
      · replace hf := if_t hf c6
        refine r_tsw X (tgt := 104) dX10_worker_33 (by rw [c6]; decide +kernel) (by rw [c6]; decide +kernel) ?_
        refine lv_aload_n hx hb dX10_worker_104 rfl (lv_at hl 1 rfl) ?_
        refine lv_iload_n hx hb dX10_worker_105 rfl (lv_at hl 2 rfl) ?_
        obtain ⟨r7, hcr7, hf⟩ := bd_some hf
        refine p_R (st1 := [.int r7]) (run_V (rest := []) X (ctX10_place hZ ot aMO hcr7) mk_X10_place ml_X10_51 ⟨(Nat.le_of_ble_eq_true rfl), (Nat.le_of_ble_eq_true rfl)⟩ G [0, 1, 2, 3, 4, 5, 6, 7] rfl rfl 0 rfl rfl rfl hl.1 rfl (Nat.le_of_ble_eq_true rfl) dX10_worker_106 ⟨Nat.zero_le _, Nat.zero_le _⟩) rfl ?_
        cases hf
        exact e_mi X G dX10_worker_109
      replace hf := if_f hf c6
      by_cases c8 : v2 = (1 : Int32)
      · replace hf := if_t hf c8
        refine r_tsw X (tgt := 110) dX10_worker_33 (by rw [c8]; decide +kernel) (by rw [c8]; decide +kernel) ?_
        refine lv_aload_n hx hb dX10_worker_110 rfl (lv_at hl 1 rfl) ?_
        refine lv_iload_n hx hb dX10_worker_111 rfl (lv_at hl 2 rfl) ?_
        obtain ⟨r9, hcr9, hf⟩ := bd_some hf
        refine p_R (st1 := [.int r9]) (run_V (rest := []) X (ctX10_sortNow hZ ot aMO hcr9) mk_X10_sortNow ml_X10_62 ⟨(Nat.le_of_ble_eq_true rfl), (Nat.le_of_ble_eq_true rfl)⟩ G [0, 1, 2, 3, 4, 5, 6, 7] rfl rfl 0 rfl rfl rfl hl.1 rfl (Nat.le_of_ble_eq_true rfl) dX10_worker_112 ⟨Nat.zero_le _, Nat.zero_le _⟩) rfl ?_
        cases hf
        exact e_mi X G dX10_worker_115
      replace hf := if_f hf c8
      by_cases c10 : v2 = (2 : Int32)
      · replace hf := if_t hf c10
        refine r_tsw X (tgt := 116) dX10_worker_33 (by rw [c10]; decide +kernel) (by rw [c10]; decide +kernel) ?_
        refine lv_aload_n hx hb dX10_worker_116 rfl (lv_at hl 1 rfl) ?_
        refine lv_iload_n hx hb dX10_worker_117 rfl (lv_at hl 2 rfl) ?_
        obtain ⟨r11, hcr11, hf⟩ := bd_some hf
        refine p_R (st1 := [.int r11]) (run_V (rest := []) X (ctX10_numberNow hZ ot aMO hcr11) mk_X10_numberNow ml_X10_68 ⟨(Nat.le_of_ble_eq_true rfl), (Nat.le_of_ble_eq_true rfl)⟩ G [0, 1, 2, 3, 4, 5, 6, 7] rfl rfl 0 rfl rfl rfl hl.1 rfl (Nat.le_of_ble_eq_true rfl) dX10_worker_118 ⟨Nat.zero_le _, Nat.zero_le _⟩) rfl ?_
        cases hf
        exact e_mi X G dX10_worker_121
      replace hf := if_f hf c10
      by_cases c12 : v2 = (3 : Int32)
      · replace hf := if_t hf c12
        refine r_tsw X (tgt := 122) dX10_worker_33 (by rw [c12]; decide +kernel) (by rw [c12]; decide +kernel) ?_
        refine lv_aload_n hx hb dX10_worker_122 rfl (lv_at hl 1 rfl) ?_
        refine r_get X inw_X10 G 0 rfl rfl 0 (by decide) fl_X10_7 (v := .ref (aMO 0)) rfl dX10_worker_123 ?_
        refine lv_sipush (v := 216) hx hb dX10_worker_126 (by decide) ?_
        refine lv_iload_n hx hb dX10_worker_129 rfl (lv_at hl 2 rfl) ?_
        refine lv_iadd hx hb dX10_worker_130 ?_
        obtain ⟨x13, ex13, hf⟩ := nm_some hf
        refine r_top (congrArg Value.int ex13) ?_
        obtain ⟨h14, hf⟩ := ix_some hf
        refine r_iald X G 1 rfl h14 dX10_worker_131 ?_
        cases hf
        exact e_mi X G dX10_worker_132
      replace hf := if_f hf c12
      by_cases c15 : v2 = (4 : Int32)
      · replace hf := if_t hf c15
        refine r_tsw X (tgt := 133) dX10_worker_33 (by rw [c15]; decide +kernel) (by rw [c15]; decide +kernel) ?_
        refine lv_aload_n hx hb dX10_worker_133 rfl (lv_at hl 1 rfl) ?_
        refine lv_iload_n hx hb dX10_worker_134 rfl (lv_at hl 2 rfl) ?_
        obtain ⟨r16, hcr16, hf⟩ := bd_some hf
        refine p_R (st1 := [.int r16]) (run_V (rest := []) X (ctX10_quiet hZ ot aMO hcr16) mk_X10_quiet ml_X10_100 ⟨(Nat.le_of_ble_eq_true rfl), (Nat.le_of_ble_eq_true rfl)⟩ G [0, 1, 2, 3, 4, 5, 6, 7] rfl rfl 0 rfl rfl rfl hl.1 rfl (Nat.le_of_ble_eq_true rfl) dX10_worker_135 ⟨Nat.zero_le _, Nat.zero_le _⟩) rfl ?_
        cases hf
        exact e_mi X G dX10_worker_138
      replace hf := if_f hf c15
      by_cases c17 : v2 = (5 : Int32)
      · replace hf := if_t hf c17
        refine r_tsw X (tgt := 139) dX10_worker_33 (by rw [c17]; decide +kernel) (by rw [c17]; decide +kernel) ?_
        refine lv_aload_n hx hb dX10_worker_139 rfl (lv_at hl 1 rfl) ?_
        refine r_get X inw_X10 G 0 rfl rfl 0 (by decide) fl_X10_7 (v := .ref (aMO 0)) rfl dX10_worker_140 ?_
        refine lv_sipush (v := 232) hx hb dX10_worker_143 (by decide) ?_
        refine lv_iload_n hx hb dX10_worker_146 rfl (lv_at hl 2 rfl) ?_
        refine lv_iadd hx hb dX10_worker_147 ?_
        obtain ⟨x18, ex18, hf⟩ := nm_some hf
        refine r_top (congrArg Value.int ex18) ?_
        obtain ⟨h19, hf⟩ := ix_some hf
        refine r_iald X G 1 rfl h19 dX10_worker_148 ?_
        cases hf
        exact e_mi X G dX10_worker_149
      replace hf := if_f hf c17
      by_cases c20 : v2 = (6 : Int32)
      · replace hf := if_t hf c20
        refine r_tsw X (tgt := 150) dX10_worker_33 (by rw [c20]; decide +kernel) (by rw [c20]; decide +kernel) ?_
        refine lv_aload_n hx hb dX10_worker_150 rfl (lv_at hl 1 rfl) ?_
        refine lv_iload_n hx hb dX10_worker_151 rfl (lv_at hl 2 rfl) ?_
        obtain ⟨r21, hcr21, hf⟩ := bd_some hf
        refine p_R (st1 := [.int (bI r21)]) (run_V (rest := []) X (ctX10_isHeldUp hZ ot aMO hcr21) mk_X10_isHeldUp ml_X10_84 ⟨(Nat.le_of_ble_eq_true rfl), (Nat.le_of_ble_eq_true rfl)⟩ G [0, 1, 2, 3, 4, 5, 6, 7] rfl rfl 0 rfl rfl rfl hl.1 rfl (Nat.le_of_ble_eq_true rfl) dX10_worker_152 ⟨Nat.zero_le _, Nat.zero_le _⟩) rfl ?_
        obtain ⟨r22, hcr22, hf⟩ := bd_some hf
        refine p_R (st1 := [.int r22]) (run_S (rest := []) X (ctX10_flag hZ hcr22) mk_X10_flag ml_X10_164 ⟨(Nat.le_of_ble_eq_true rfl), (Nat.le_of_ble_eq_true rfl)⟩ G [] rfl rfl rfl hl.1 rfl (Nat.le_of_ble_eq_true rfl) dX10_worker_155 ⟨Nat.zero_le _, Nat.zero_le _⟩) rfl ?_
        cases hf
        exact e_mi X G dX10_worker_158
      replace hf := if_f hf c20
      by_cases c23 : v2 = (7 : Int32)
      · replace hf := if_t hf c23
        refine r_tsw X (tgt := 159) dX10_worker_33 (by rw [c23]; decide +kernel) (by rw [c23]; decide +kernel) ?_
        refine lv_iload_n hx hb dX10_worker_159 rfl (lv_at hl 0 rfl) ?_
        refine lv_iload_n hx hb dX10_worker_160 rfl (lv_at hl 2 rfl) ?_
        obtain ⟨r24, hcr24, hf⟩ := bd_some hf
        refine p_R (st1 := [.int (bI r24)]) (run_S (rest := []) X (ctX10_has hZ hcr24) mk_X10_has ml_X10_96 ⟨(Nat.le_of_ble_eq_true rfl), (Nat.le_of_ble_eq_true rfl)⟩ G [] rfl rfl rfl hl.1 rfl (Nat.le_of_ble_eq_true rfl) dX10_worker_161 ⟨Nat.zero_le _, Nat.zero_le _⟩) rfl ?_
        obtain ⟨r25, hcr25, hf⟩ := bd_some hf
        refine p_R (st1 := [.int r25]) (run_S (rest := []) X (ctX10_flag hZ hcr25) mk_X10_flag ml_X10_164 ⟨(Nat.le_of_ble_eq_true rfl), (Nat.le_of_ble_eq_true rfl)⟩ G [] rfl rfl rfl hl.1 rfl (Nat.le_of_ble_eq_true rfl) dX10_worker_164 ⟨Nat.zero_le _, Nat.zero_le _⟩) rfl ?_
        cases hf
        exact e_mi X G dX10_worker_167
      replace hf := if_f hf c23
      by_cases c26 : v2 = (8 : Int32)
      · replace hf := if_t hf c26
        refine r_tsw X (tgt := 168) dX10_worker_33 (by rw [c26]; decide +kernel) (by rw [c26]; decide +kernel) ?_
        refine lv_aload_n hx hb dX10_worker_168 rfl (lv_at hl 1 rfl) ?_
        refine lv_iload_n hx hb dX10_worker_169 rfl (lv_at hl 2 rfl) ?_
        refine lv_iload_n hx hb dX10_worker_170 rfl (lv_at hl 0 rfl) ?_
        obtain ⟨r27, hcr27, hf⟩ := bd_some hf
        refine p_R (st1 := [.int (bI r27)]) (run_V (rest := []) X (ctX10_isSoft hZ ot aMO hcr27) mk_X10_isSoft ml_X10_125 ⟨(Nat.le_of_ble_eq_true rfl), (Nat.le_of_ble_eq_true rfl)⟩ G [0, 1, 2, 3, 4, 5, 6, 7] rfl rfl 0 rfl rfl rfl hl.1 rfl (Nat.le_of_ble_eq_true rfl) dX10_worker_171 ⟨Nat.zero_le _, Nat.zero_le _⟩) rfl ?_
        obtain ⟨r28, hcr28, hf⟩ := bd_some hf
        refine p_R (st1 := [.int r28]) (run_S (rest := []) X (ctX10_flag hZ hcr28) mk_X10_flag ml_X10_164 ⟨(Nat.le_of_ble_eq_true rfl), (Nat.le_of_ble_eq_true rfl)⟩ G [] rfl rfl rfl hl.1 rfl (Nat.le_of_ble_eq_true rfl) dX10_worker_174 ⟨Nat.zero_le _, Nat.zero_le _⟩) rfl ?_
        cases hf
        exact e_mi X G dX10_worker_177
      replace hf := if_f hf c26
      by_cases c29 : v2 = (9 : Int32)
      · replace hf := if_t hf c29
        refine r_tsw X (tgt := 178) dX10_worker_33 (by rw [c29]; decide +kernel) (by rw [c29]; decide +kernel) ?_
        refine lv_aload_n hx hb dX10_worker_178 rfl (lv_at hl 1 rfl) ?_
        refine lv_iload_n hx hb dX10_worker_179 rfl (lv_at hl 2 rfl) ?_
        obtain ⟨r30, hcr30, hf⟩ := bd_some hf
        refine p_R (st1 := [.int (bI r30)]) (run_V (rest := []) X (ctX10_isSlow hZ ot aMO hcr30) mk_X10_isSlow ml_X10_128 ⟨(Nat.le_of_ble_eq_true rfl), (Nat.le_of_ble_eq_true rfl)⟩ G [0, 1, 2, 3, 4, 5, 6, 7] rfl rfl 0 rfl rfl rfl hl.1 rfl (Nat.le_of_ble_eq_true rfl) dX10_worker_180 ⟨Nat.zero_le _, Nat.zero_le _⟩) rfl ?_
        obtain ⟨r31, hcr31, hf⟩ := bd_some hf
        refine p_R (st1 := [.int r31]) (run_S (rest := []) X (ctX10_flag hZ hcr31) mk_X10_flag ml_X10_164 ⟨(Nat.le_of_ble_eq_true rfl), (Nat.le_of_ble_eq_true rfl)⟩ G [] rfl rfl rfl hl.1 rfl (Nat.le_of_ble_eq_true rfl) dX10_worker_183 ⟨Nat.zero_le _, Nat.zero_le _⟩) rfl ?_
        cases hf
        exact e_mi X G dX10_worker_186
      replace hf := if_f hf c29
      by_cases c32 : v2 = (10 : Int32)
      · replace hf := if_t hf c32
        refine r_tsw X (tgt := 187) dX10_worker_33 (by rw [c32]; decide +kernel) (by rw [c32]; decide +kernel) ?_
        refine lv_aload_n hx hb dX10_worker_187 rfl (lv_at hl 1 rfl) ?_
        refine lv_iload_n hx hb dX10_worker_188 rfl (lv_at hl 2 rfl) ?_
        refine lv_iload_n hx hb dX10_worker_189 rfl (lv_at hl 0 rfl) ?_
        obtain ⟨r33, hcr33, hf⟩ := bd_some hf
        refine p_N (st1 := [.int (r33.1)]) (wr := []) (ws' := kMo k ot aMO (r33.2)) (run_V (rest := []) X (ctX10_blocker hZ ot aMO hcr33) mk_X10_blocker ml_X10_119 ⟨(Nat.le_of_ble_eq_true rfl), (Nat.le_of_ble_eq_true rfl)⟩ G [0, 1, 2, 3, 4, 5, 6, 7] rfl rfl 0 rfl rfl rfl hl.1 rfl (Nat.le_of_ble_eq_true rfl) dX10_worker_190 ⟨Nat.zero_le _, Nat.zero_le _⟩) rfl G [0, 1, 2, 3, 4, 5, 6, 7] [] 8 rfl rfl rfl rfl rfl (by decide) (by decide) rfl (fun H locs G => ?_)
        cases hf
        exact e_mi X G dX10_worker_193
      replace hf := if_f hf c32
      by_cases c34 : v2 = (11 : Int32)
      · replace hf := if_t hf c34
        refine r_tsw X (tgt := 194) dX10_worker_33 (by rw [c34]; decide +kernel) (by rw [c34]; decide +kernel) ?_
        refine lv_aload_n hx hb dX10_worker_194 rfl (lv_at hl 1 rfl) ?_
        refine lv_iload_n hx hb dX10_worker_195 rfl (lv_at hl 2 rfl) ?_
        refine lv_iload_n hx hb dX10_worker_196 rfl (lv_at hl 0 rfl) ?_
        obtain ⟨r35, hcr35, hf⟩ := bd_some hf
        refine p_R (st1 := [.int r35]) (run_V (rest := []) X (ctX10_neighbour hZ ot aMO hcr35) mk_X10_neighbour ml_X10_122 ⟨(Nat.le_of_ble_eq_true rfl), (Nat.le_of_ble_eq_true rfl)⟩ G [0, 1, 2, 3, 4, 5, 6, 7] rfl rfl 0 rfl rfl rfl hl.1 rfl (Nat.le_of_ble_eq_true rfl) dX10_worker_197 ⟨Nat.zero_le _, Nat.zero_le _⟩) rfl ?_
        cases hf
        exact e_mi X G dX10_worker_200
      replace hf := if_f hf c34
      by_cases c36 : v2 = (12 : Int32)
      · replace hf := if_t hf c36
        refine r_tsw X (tgt := 201) dX10_worker_33 (by rw [c36]; decide +kernel) (by rw [c36]; decide +kernel) ?_
        refine lv_aload_n hx hb dX10_worker_201 rfl (lv_at hl 1 rfl) ?_
        refine lv_iload_n hx hb dX10_worker_202 rfl (lv_at hl 2 rfl) ?_
        obtain ⟨r37, hcr37, hf⟩ := bd_some hf
        refine p_R (st1 := [.int r37]) (run_V (rest := []) X (ctX10_locks hZ ot aMO hcr37) mk_X10_locks ml_X10_168 ⟨(Nat.le_of_ble_eq_true rfl), (Nat.le_of_ble_eq_true rfl)⟩ G [0, 1, 2, 3, 4, 5, 6, 7] rfl rfl 0 rfl rfl rfl hl.1 rfl (Nat.le_of_ble_eq_true rfl) dX10_worker_203 ⟨Nat.zero_le _, Nat.zero_le _⟩) rfl ?_
        cases hf
        exact e_mi X G dX10_worker_206
      replace hf := if_f hf c36
      by_cases c38 : v2 = (13 : Int32)
      · replace hf := if_t hf c38
        refine r_tsw X (tgt := 207) dX10_worker_33 (by rw [c38]; decide +kernel) (by rw [c38]; decide +kernel) ?_
        refine lv_aload_n hx hb dX10_worker_207 rfl (lv_at hl 1 rfl) ?_
        refine r_get X inw_X10 G 0 rfl rfl 0 (by decide) fl_X10_7 (v := .ref (aMO 0)) rfl dX10_worker_208 ?_
        refine lv_bipush (v := 7) hx hb dX10_worker_211 (by decide) ?_
        refine lv_iload_n hx hb dX10_worker_213 rfl (lv_at hl 2 rfl) ?_
        refine lv_iadd hx hb dX10_worker_214 ?_
        obtain ⟨x39, ex39, hf⟩ := nm_some hf
        refine r_top (congrArg Value.int ex39) ?_
        obtain ⟨h40, hf⟩ := ix_some hf
        refine r_iald X G 1 rfl h40 dX10_worker_215 ?_
        cases hf
        exact e_mi X G dX10_worker_216
      replace hf := if_f hf c38
      have hd := tsw_d (x := v2) (lo' := 0) (hi' := 13) (dflt := 184) (offs := #[71, 77, 83, 89, 100, 106, 117, 126, 135, 145, 154, 161, 168, 174]) [(0 : Int32), (1 : Int32), (2 : Int32), (3 : Int32), (4 : Int32), (5 : Int32), (6 : Int32), (7 : Int32), (8 : Int32), (9 : Int32), (10 : Int32), (11 : Int32), (12 : Int32), (13 : Int32)] (by
          intro k hk
          simp only [List.mem_cons, List.not_mem_nil, or_false] at hk
          rcases hk with rfl | rfl | rfl | rfl | rfl | rfl | rfl | rfl | rfl | rfl | rfl | rfl | rfl | rfl
          · exact c6
          · exact c8
          · exact c10
          · exact c12
          · exact c15
          · exact c17
          · exact c20
          · exact c23
          · exact c26
          · exact c29
          · exact c32
          · exact c34
          · exact c36
          · exact c38
          ) 13 (by decide) (by decide +kernel)
      refine r_tsw X (tgt := 217) dX10_worker_33 (by rw [hd.1]; rfl) hd.2 ?_
      refine lv_iconst (v := -1) hx hb dX10_worker_217 (by decide) ?_
      cases hf
      exact e_mi X G dX10_worker_218
    · replace hf := if_f hf c4
      refine lv_iload_n hx hb dX10_worker_16 rfl (lv_at hl 2 rfl) ?_
      refine lv_iconst (v := 0) hx hb dX10_worker_17 (by decide) ?_
      refine lv_iconst (v := 3) hx hb dX10_worker_18 (by decide) ?_
      obtain ⟨r41, hcr41, hf⟩ := bd_some hf
      refine p_R (st1 := [.int (bI r41)]) (run_S (rest := []) X (ctX10_isIn hZ hcr41) mk_X10_isIn ml_X10_47 ⟨(Nat.le_of_ble_eq_true rfl), (Nat.le_of_ble_eq_true rfl)⟩ G [] rfl rfl rfl hl.1 rfl (Nat.le_of_ble_eq_true rfl) dX10_worker_19 ⟨Nat.zero_le _, Nat.zero_le _⟩) rfl ?_
      refine lv_if_eq (tgt := 27) hx hb dX10_worker_22 (by decide) (fun c42 => ?_) (fun c42 => ?_)
      · replace hf := if_t hf c42
        refine lv_aload_n hx hb dX10_worker_27 rfl (lv_at hl 0 rfl) ?_
        obtain ⟨r43, hcr43, hf⟩ := bd_some hf
        refine p_R (st1 := [.int r43]) (run_V (rest := []) X (ctX10_hard hZ ot aMO hcr43) mk_X10_hard ml_X10_110 ⟨(Nat.le_of_ble_eq_true rfl), (Nat.le_of_ble_eq_true rfl)⟩ G [0, 1, 2, 3, 4, 5, 6, 7] rfl rfl 0 rfl rfl rfl hl.1 rfl (Nat.le_of_ble_eq_true rfl) dX10_worker_28 ⟨Nat.zero_le _, Nat.zero_le _⟩) rfl ?_
        refine lv_istore_n (lv' := [(3, .int r43), (0, .ref ot), (1, .int v1), (2, .int v2)]) hx hb dX10_worker_31 rfl hl (by decide) rfl (fun ls hl => ?_)
        refine lv_iload_n hx hb dX10_worker_32 rfl (lv_at hl 3 rfl) ?_
        by_cases c44 : v2 = (0 : Int32)
        · replace hf := if_t hf c44
          refine r_tsw X (tgt := 104) dX10_worker_33 (by rw [c44]; decide +kernel) (by rw [c44]; decide +kernel) ?_
          refine lv_aload_n hx hb dX10_worker_104 rfl (lv_at hl 1 rfl) ?_
          refine lv_iload_n hx hb dX10_worker_105 rfl (lv_at hl 2 rfl) ?_
          obtain ⟨r45, hcr45, hf⟩ := bd_some hf
          refine p_R (st1 := [.int r45]) (run_V (rest := []) X (ctX10_place hZ ot aMO hcr45) mk_X10_place ml_X10_51 ⟨(Nat.le_of_ble_eq_true rfl), (Nat.le_of_ble_eq_true rfl)⟩ G [0, 1, 2, 3, 4, 5, 6, 7] rfl rfl 0 rfl rfl rfl hl.1 rfl (Nat.le_of_ble_eq_true rfl) dX10_worker_106 ⟨Nat.zero_le _, Nat.zero_le _⟩) rfl ?_
          cases hf
          exact e_mi X G dX10_worker_109
        replace hf := if_f hf c44
        by_cases c46 : v2 = (1 : Int32)
        · replace hf := if_t hf c46
          refine r_tsw X (tgt := 110) dX10_worker_33 (by rw [c46]; decide +kernel) (by rw [c46]; decide +kernel) ?_
          refine lv_aload_n hx hb dX10_worker_110 rfl (lv_at hl 1 rfl) ?_
          refine lv_iload_n hx hb dX10_worker_111 rfl (lv_at hl 2 rfl) ?_
          obtain ⟨r47, hcr47, hf⟩ := bd_some hf
          refine p_R (st1 := [.int r47]) (run_V (rest := []) X (ctX10_sortNow hZ ot aMO hcr47) mk_X10_sortNow ml_X10_62 ⟨(Nat.le_of_ble_eq_true rfl), (Nat.le_of_ble_eq_true rfl)⟩ G [0, 1, 2, 3, 4, 5, 6, 7] rfl rfl 0 rfl rfl rfl hl.1 rfl (Nat.le_of_ble_eq_true rfl) dX10_worker_112 ⟨Nat.zero_le _, Nat.zero_le _⟩) rfl ?_
          cases hf
          exact e_mi X G dX10_worker_115
        replace hf := if_f hf c46
        by_cases c48 : v2 = (2 : Int32)
        · replace hf := if_t hf c48
          refine r_tsw X (tgt := 116) dX10_worker_33 (by rw [c48]; decide +kernel) (by rw [c48]; decide +kernel) ?_
          refine lv_aload_n hx hb dX10_worker_116 rfl (lv_at hl 1 rfl) ?_
          refine lv_iload_n hx hb dX10_worker_117 rfl (lv_at hl 2 rfl) ?_
          obtain ⟨r49, hcr49, hf⟩ := bd_some hf
          refine p_R (st1 := [.int r49]) (run_V (rest := []) X (ctX10_numberNow hZ ot aMO hcr49) mk_X10_numberNow ml_X10_68 ⟨(Nat.le_of_ble_eq_true rfl), (Nat.le_of_ble_eq_true rfl)⟩ G [0, 1, 2, 3, 4, 5, 6, 7] rfl rfl 0 rfl rfl rfl hl.1 rfl (Nat.le_of_ble_eq_true rfl) dX10_worker_118 ⟨Nat.zero_le _, Nat.zero_le _⟩) rfl ?_
          cases hf
          exact e_mi X G dX10_worker_121
        replace hf := if_f hf c48
        by_cases c50 : v2 = (3 : Int32)
        · replace hf := if_t hf c50
          refine r_tsw X (tgt := 122) dX10_worker_33 (by rw [c50]; decide +kernel) (by rw [c50]; decide +kernel) ?_
          refine lv_aload_n hx hb dX10_worker_122 rfl (lv_at hl 1 rfl) ?_
          refine r_get X inw_X10 G 0 rfl rfl 0 (by decide) fl_X10_7 (v := .ref (aMO 0)) rfl dX10_worker_123 ?_
          refine lv_sipush (v := 216) hx hb dX10_worker_126 (by decide) ?_
          refine lv_iload_n hx hb dX10_worker_129 rfl (lv_at hl 2 rfl) ?_
          refine lv_iadd hx hb dX10_worker_130 ?_
          obtain ⟨x51, ex51, hf⟩ := nm_some hf
          refine r_top (congrArg Value.int ex51) ?_
          obtain ⟨h52, hf⟩ := ix_some hf
          refine r_iald X G 1 rfl h52 dX10_worker_131 ?_
          cases hf
          exact e_mi X G dX10_worker_132
        replace hf := if_f hf c50
        by_cases c53 : v2 = (4 : Int32)
        · replace hf := if_t hf c53
          refine r_tsw X (tgt := 133) dX10_worker_33 (by rw [c53]; decide +kernel) (by rw [c53]; decide +kernel) ?_
          refine lv_aload_n hx hb dX10_worker_133 rfl (lv_at hl 1 rfl) ?_
          refine lv_iload_n hx hb dX10_worker_134 rfl (lv_at hl 2 rfl) ?_
          obtain ⟨r54, hcr54, hf⟩ := bd_some hf
          refine p_R (st1 := [.int r54]) (run_V (rest := []) X (ctX10_quiet hZ ot aMO hcr54) mk_X10_quiet ml_X10_100 ⟨(Nat.le_of_ble_eq_true rfl), (Nat.le_of_ble_eq_true rfl)⟩ G [0, 1, 2, 3, 4, 5, 6, 7] rfl rfl 0 rfl rfl rfl hl.1 rfl (Nat.le_of_ble_eq_true rfl) dX10_worker_135 ⟨Nat.zero_le _, Nat.zero_le _⟩) rfl ?_
          cases hf
          exact e_mi X G dX10_worker_138
        replace hf := if_f hf c53
        by_cases c55 : v2 = (5 : Int32)
        · replace hf := if_t hf c55
          refine r_tsw X (tgt := 139) dX10_worker_33 (by rw [c55]; decide +kernel) (by rw [c55]; decide +kernel) ?_
          refine lv_aload_n hx hb dX10_worker_139 rfl (lv_at hl 1 rfl) ?_
          refine r_get X inw_X10 G 0 rfl rfl 0 (by decide) fl_X10_7 (v := .ref (aMO 0)) rfl dX10_worker_140 ?_
          refine lv_sipush (v := 232) hx hb dX10_worker_143 (by decide) ?_
          refine lv_iload_n hx hb dX10_worker_146 rfl (lv_at hl 2 rfl) ?_
          refine lv_iadd hx hb dX10_worker_147 ?_
          obtain ⟨x56, ex56, hf⟩ := nm_some hf
          refine r_top (congrArg Value.int ex56) ?_
          obtain ⟨h57, hf⟩ := ix_some hf
          refine r_iald X G 1 rfl h57 dX10_worker_148 ?_
          cases hf
          exact e_mi X G dX10_worker_149
        replace hf := if_f hf c55
        by_cases c58 : v2 = (6 : Int32)
        · replace hf := if_t hf c58
          refine r_tsw X (tgt := 150) dX10_worker_33 (by rw [c58]; decide +kernel) (by rw [c58]; decide +kernel) ?_
          refine lv_aload_n hx hb dX10_worker_150 rfl (lv_at hl 1 rfl) ?_
          refine lv_iload_n hx hb dX10_worker_151 rfl (lv_at hl 2 rfl) ?_
          obtain ⟨r59, hcr59, hf⟩ := bd_some hf
          refine p_R (st1 := [.int (bI r59)]) (run_V (rest := []) X (ctX10_isHeldUp hZ ot aMO hcr59) mk_X10_isHeldUp ml_X10_84 ⟨(Nat.le_of_ble_eq_true rfl), (Nat.le_of_ble_eq_true rfl)⟩ G [0, 1, 2, 3, 4, 5, 6, 7] rfl rfl 0 rfl rfl rfl hl.1 rfl (Nat.le_of_ble_eq_true rfl) dX10_worker_152 ⟨Nat.zero_le _, Nat.zero_le _⟩) rfl ?_
          obtain ⟨r60, hcr60, hf⟩ := bd_some hf
          refine p_R (st1 := [.int r60]) (run_S (rest := []) X (ctX10_flag hZ hcr60) mk_X10_flag ml_X10_164 ⟨(Nat.le_of_ble_eq_true rfl), (Nat.le_of_ble_eq_true rfl)⟩ G [] rfl rfl rfl hl.1 rfl (Nat.le_of_ble_eq_true rfl) dX10_worker_155 ⟨Nat.zero_le _, Nat.zero_le _⟩) rfl ?_
          cases hf
          exact e_mi X G dX10_worker_158
        replace hf := if_f hf c58
        by_cases c61 : v2 = (7 : Int32)
        · replace hf := if_t hf c61
          refine r_tsw X (tgt := 159) dX10_worker_33 (by rw [c61]; decide +kernel) (by rw [c61]; decide +kernel) ?_
          refine lv_iload_n hx hb dX10_worker_159 rfl (lv_at hl 0 rfl) ?_
          refine lv_iload_n hx hb dX10_worker_160 rfl (lv_at hl 2 rfl) ?_
          obtain ⟨r62, hcr62, hf⟩ := bd_some hf
          refine p_R (st1 := [.int (bI r62)]) (run_S (rest := []) X (ctX10_has hZ hcr62) mk_X10_has ml_X10_96 ⟨(Nat.le_of_ble_eq_true rfl), (Nat.le_of_ble_eq_true rfl)⟩ G [] rfl rfl rfl hl.1 rfl (Nat.le_of_ble_eq_true rfl) dX10_worker_161 ⟨Nat.zero_le _, Nat.zero_le _⟩) rfl ?_
          obtain ⟨r63, hcr63, hf⟩ := bd_some hf
          refine p_R (st1 := [.int r63]) (run_S (rest := []) X (ctX10_flag hZ hcr63) mk_X10_flag ml_X10_164 ⟨(Nat.le_of_ble_eq_true rfl), (Nat.le_of_ble_eq_true rfl)⟩ G [] rfl rfl rfl hl.1 rfl (Nat.le_of_ble_eq_true rfl) dX10_worker_164 ⟨Nat.zero_le _, Nat.zero_le _⟩) rfl ?_
          cases hf
          exact e_mi X G dX10_worker_167
        replace hf := if_f hf c61
        by_cases c64 : v2 = (8 : Int32)
        · replace hf := if_t hf c64
          refine r_tsw X (tgt := 168) dX10_worker_33 (by rw [c64]; decide +kernel) (by rw [c64]; decide +kernel) ?_
          refine lv_aload_n hx hb dX10_worker_168 rfl (lv_at hl 1 rfl) ?_
          refine lv_iload_n hx hb dX10_worker_169 rfl (lv_at hl 2 rfl) ?_
          refine lv_iload_n hx hb dX10_worker_170 rfl (lv_at hl 0 rfl) ?_
          obtain ⟨r65, hcr65, hf⟩ := bd_some hf
          refine p_R (st1 := [.int (bI r65)]) (run_V (rest := []) X (ctX10_isSoft hZ ot aMO hcr65) mk_X10_isSoft ml_X10_125 ⟨(Nat.le_of_ble_eq_true rfl), (Nat.le_of_ble_eq_true rfl)⟩ G [0, 1, 2, 3, 4, 5, 6, 7] rfl rfl 0 rfl rfl rfl hl.1 rfl (Nat.le_of_ble_eq_true rfl) dX10_worker_171 ⟨Nat.zero_le _, Nat.zero_le _⟩) rfl ?_
          obtain ⟨r66, hcr66, hf⟩ := bd_some hf
          refine p_R (st1 := [.int r66]) (run_S (rest := []) X (ctX10_flag hZ hcr66) mk_X10_flag ml_X10_164 ⟨(Nat.le_of_ble_eq_true rfl), (Nat.le_of_ble_eq_true rfl)⟩ G [] rfl rfl rfl hl.1 rfl (Nat.le_of_ble_eq_true rfl) dX10_worker_174 ⟨Nat.zero_le _, Nat.zero_le _⟩) rfl ?_
          cases hf
          exact e_mi X G dX10_worker_177
        replace hf := if_f hf c64
        by_cases c67 : v2 = (9 : Int32)
        · replace hf := if_t hf c67
          refine r_tsw X (tgt := 178) dX10_worker_33 (by rw [c67]; decide +kernel) (by rw [c67]; decide +kernel) ?_
          refine lv_aload_n hx hb dX10_worker_178 rfl (lv_at hl 1 rfl) ?_
          refine lv_iload_n hx hb dX10_worker_179 rfl (lv_at hl 2 rfl) ?_
          obtain ⟨r68, hcr68, hf⟩ := bd_some hf
          refine p_R (st1 := [.int (bI r68)]) (run_V (rest := []) X (ctX10_isSlow hZ ot aMO hcr68) mk_X10_isSlow ml_X10_128 ⟨(Nat.le_of_ble_eq_true rfl), (Nat.le_of_ble_eq_true rfl)⟩ G [0, 1, 2, 3, 4, 5, 6, 7] rfl rfl 0 rfl rfl rfl hl.1 rfl (Nat.le_of_ble_eq_true rfl) dX10_worker_180 ⟨Nat.zero_le _, Nat.zero_le _⟩) rfl ?_
          obtain ⟨r69, hcr69, hf⟩ := bd_some hf
          refine p_R (st1 := [.int r69]) (run_S (rest := []) X (ctX10_flag hZ hcr69) mk_X10_flag ml_X10_164 ⟨(Nat.le_of_ble_eq_true rfl), (Nat.le_of_ble_eq_true rfl)⟩ G [] rfl rfl rfl hl.1 rfl (Nat.le_of_ble_eq_true rfl) dX10_worker_183 ⟨Nat.zero_le _, Nat.zero_le _⟩) rfl ?_
          cases hf
          exact e_mi X G dX10_worker_186
        replace hf := if_f hf c67
        by_cases c70 : v2 = (10 : Int32)
        · replace hf := if_t hf c70
          refine r_tsw X (tgt := 187) dX10_worker_33 (by rw [c70]; decide +kernel) (by rw [c70]; decide +kernel) ?_
          refine lv_aload_n hx hb dX10_worker_187 rfl (lv_at hl 1 rfl) ?_
          refine lv_iload_n hx hb dX10_worker_188 rfl (lv_at hl 2 rfl) ?_
          refine lv_iload_n hx hb dX10_worker_189 rfl (lv_at hl 0 rfl) ?_
          obtain ⟨r71, hcr71, hf⟩ := bd_some hf
          refine p_N (st1 := [.int (r71.1)]) (wr := []) (ws' := kMo k ot aMO (r71.2)) (run_V (rest := []) X (ctX10_blocker hZ ot aMO hcr71) mk_X10_blocker ml_X10_119 ⟨(Nat.le_of_ble_eq_true rfl), (Nat.le_of_ble_eq_true rfl)⟩ G [0, 1, 2, 3, 4, 5, 6, 7] rfl rfl 0 rfl rfl rfl hl.1 rfl (Nat.le_of_ble_eq_true rfl) dX10_worker_190 ⟨Nat.zero_le _, Nat.zero_le _⟩) rfl G [0, 1, 2, 3, 4, 5, 6, 7] [] 8 rfl rfl rfl rfl rfl (by decide) (by decide) rfl (fun H locs G => ?_)
          cases hf
          exact e_mi X G dX10_worker_193
        replace hf := if_f hf c70
        by_cases c72 : v2 = (11 : Int32)
        · replace hf := if_t hf c72
          refine r_tsw X (tgt := 194) dX10_worker_33 (by rw [c72]; decide +kernel) (by rw [c72]; decide +kernel) ?_
          refine lv_aload_n hx hb dX10_worker_194 rfl (lv_at hl 1 rfl) ?_
          refine lv_iload_n hx hb dX10_worker_195 rfl (lv_at hl 2 rfl) ?_
          refine lv_iload_n hx hb dX10_worker_196 rfl (lv_at hl 0 rfl) ?_
          obtain ⟨r73, hcr73, hf⟩ := bd_some hf
          refine p_R (st1 := [.int r73]) (run_V (rest := []) X (ctX10_neighbour hZ ot aMO hcr73) mk_X10_neighbour ml_X10_122 ⟨(Nat.le_of_ble_eq_true rfl), (Nat.le_of_ble_eq_true rfl)⟩ G [0, 1, 2, 3, 4, 5, 6, 7] rfl rfl 0 rfl rfl rfl hl.1 rfl (Nat.le_of_ble_eq_true rfl) dX10_worker_197 ⟨Nat.zero_le _, Nat.zero_le _⟩) rfl ?_
          cases hf
          exact e_mi X G dX10_worker_200
        replace hf := if_f hf c72
        by_cases c74 : v2 = (12 : Int32)
        · replace hf := if_t hf c74
          refine r_tsw X (tgt := 201) dX10_worker_33 (by rw [c74]; decide +kernel) (by rw [c74]; decide +kernel) ?_
          refine lv_aload_n hx hb dX10_worker_201 rfl (lv_at hl 1 rfl) ?_
          refine lv_iload_n hx hb dX10_worker_202 rfl (lv_at hl 2 rfl) ?_
          obtain ⟨r75, hcr75, hf⟩ := bd_some hf
          refine p_R (st1 := [.int r75]) (run_V (rest := []) X (ctX10_locks hZ ot aMO hcr75) mk_X10_locks ml_X10_168 ⟨(Nat.le_of_ble_eq_true rfl), (Nat.le_of_ble_eq_true rfl)⟩ G [0, 1, 2, 3, 4, 5, 6, 7] rfl rfl 0 rfl rfl rfl hl.1 rfl (Nat.le_of_ble_eq_true rfl) dX10_worker_203 ⟨Nat.zero_le _, Nat.zero_le _⟩) rfl ?_
          cases hf
          exact e_mi X G dX10_worker_206
        replace hf := if_f hf c74
        by_cases c76 : v2 = (13 : Int32)
        · replace hf := if_t hf c76
          refine r_tsw X (tgt := 207) dX10_worker_33 (by rw [c76]; decide +kernel) (by rw [c76]; decide +kernel) ?_
          refine lv_aload_n hx hb dX10_worker_207 rfl (lv_at hl 1 rfl) ?_
          refine r_get X inw_X10 G 0 rfl rfl 0 (by decide) fl_X10_7 (v := .ref (aMO 0)) rfl dX10_worker_208 ?_
          refine lv_bipush (v := 7) hx hb dX10_worker_211 (by decide) ?_
          refine lv_iload_n hx hb dX10_worker_213 rfl (lv_at hl 2 rfl) ?_
          refine lv_iadd hx hb dX10_worker_214 ?_
          obtain ⟨x77, ex77, hf⟩ := nm_some hf
          refine r_top (congrArg Value.int ex77) ?_
          obtain ⟨h78, hf⟩ := ix_some hf
          refine r_iald X G 1 rfl h78 dX10_worker_215 ?_
          cases hf
          exact e_mi X G dX10_worker_216
        replace hf := if_f hf c76
        have hd := tsw_d (x := v2) (lo' := 0) (hi' := 13) (dflt := 184) (offs := #[71, 77, 83, 89, 100, 106, 117, 126, 135, 145, 154, 161, 168, 174]) [(0 : Int32), (1 : Int32), (2 : Int32), (3 : Int32), (4 : Int32), (5 : Int32), (6 : Int32), (7 : Int32), (8 : Int32), (9 : Int32), (10 : Int32), (11 : Int32), (12 : Int32), (13 : Int32)] (by
            intro k hk
            simp only [List.mem_cons, List.not_mem_nil, or_false] at hk
            rcases hk with rfl | rfl | rfl | rfl | rfl | rfl | rfl | rfl | rfl | rfl | rfl | rfl | rfl | rfl
            · exact c44
            · exact c46
            · exact c48
            · exact c50
            · exact c53
            · exact c55
            · exact c58
            · exact c61
            · exact c64
            · exact c67
            · exact c70
            · exact c72
            · exact c74
            · exact c76
            ) 13 (by decide) (by decide +kernel)
        refine r_tsw X (tgt := 217) dX10_worker_33 (by rw [hd.1]; rfl) hd.2 ?_
        refine lv_iconst (v := -1) hx hb dX10_worker_217 (by decide) ?_
        cases hf
        exact e_mi X G dX10_worker_218
      · replace hf := if_f hf c42
        refine lv_iconst (v := -1) hx hb dX10_worker_25 (by decide) ?_
        cases hf
        exact e_mi X G dX10_worker_26
theorem mk_X10_worker : MV yX10_worker cX10_worker 4 (some .int) 2 := ⟨co_X10_worker, in_X10, im_X10_worker, se_X10_worker, by decide +kernel, by decide +kernel⟩
noncomputable def FX10_step (MO : MoT) (v1 : Int32) (v2 : Int32) (v3 : Int32) : Option (Int32) :=
  (FX10_isWorker MO v1).bind fun r1 =>
  if (bI r1) = 0 then (
    some (-1 : Int32)
  ) else (
    nm ((7 : Int32) + v1) fun x3 =>
    ix x3 9519 <|
    (FX10_isIn v2 (0 : Int32) ((Mo_all MO (Int32.toNatClampNeg x3)) - (1 : Int32))).bind fun r5 =>
    if (bI r5) = 0 then (
      some (-1 : Int32)
    ) else (
      if v3 = 0 then (
        (FX10_sort MO v1 v2).bind fun r8 =>
        some r8
      ) else (
        (FX10_number MO v1 v2).bind fun r9 =>
        some r9
      )
    )
  )
set_option maxHeartbeats 4000000 in
set_option maxRecDepth 100000 in
theorem ctX10_step {l : Launch} {D : va_G} {k : Nat → ClassId} {Z : ZT} (hZ : ZOK Z) (ot : Nat) (aMO : Nat → Nat) {MO : MoT} {v1 : Int32} {v2 : Int32} {v3 : Int32} {q : Int32} (hf : FX10_step MO v1 v2 v3 = some q) :
    CR l D k Z yX10_step cX10_step 4 (some .int) 2 43 [.ref ot, .int v1, .int v2, .int v3] (some (.int q)) (kMo k ot aMO (MO)) := by
  refine CR.start hZ (by decide) (Nat.le_of_ble_eq_true rfl) ?_
  intro p e s m below meth c ls X hl G
  have hx := X.1
  have hb := X.2.1
  have hl : lv_has ls 4 [(0, .ref ot), (1, .int v1), (2, .int v2), (3, .int v3)] := hl
  unfold FX10_step at hf
  refine lv_aload_n hx hb dX10_step_0 rfl (lv_at hl 0 rfl) ?_
  refine lv_iload_n hx hb dX10_step_1 rfl (lv_at hl 1 rfl) ?_
  obtain ⟨r1, hcr1, hf⟩ := bd_some hf
  refine p_R (st1 := [.int (bI r1)]) (run_V (rest := []) X (ctX10_isWorker hZ ot aMO hcr1) mk_X10_isWorker ml_X10_155 ⟨(Nat.le_of_ble_eq_true rfl), (Nat.le_of_ble_eq_true rfl)⟩ G [0, 1, 2, 3, 4, 5, 6, 7] rfl rfl 0 rfl rfl rfl hl.1 rfl (Nat.le_of_ble_eq_true rfl) dX10_step_2 ⟨Nat.zero_le _, Nat.zero_le _⟩) rfl ?_
  refine lv_if_eq (tgt := 27) hx hb dX10_step_5 (by decide) (fun c2 => ?_) (fun c2 => ?_)
  · replace hf := if_t hf c2
    refine lv_iconst (v := -1) hx hb dX10_step_27 (by decide) ?_
    cases hf
    exact e_ri X dX10_step_28
  · replace hf := if_f hf c2
    refine lv_iload_n hx hb dX10_step_8 rfl (lv_at hl 2 rfl) ?_
    refine lv_iconst (v := 0) hx hb dX10_step_9 (by decide) ?_
    refine lv_aload_n hx hb dX10_step_10 rfl (lv_at hl 0 rfl) ?_
    refine r_get X inw_X10 G 0 rfl rfl 0 (by decide) fl_X10_7 (v := .ref (aMO 0)) rfl dX10_step_11 ?_
    refine lv_bipush (v := 7) hx hb dX10_step_14 (by decide) ?_
    refine lv_iload_n hx hb dX10_step_16 rfl (lv_at hl 1 rfl) ?_
    refine lv_iadd hx hb dX10_step_17 ?_
    obtain ⟨x3, ex3, hf⟩ := nm_some hf
    refine r_top (congrArg Value.int ex3) ?_
    obtain ⟨h4, hf⟩ := ix_some hf
    refine r_iald X G 1 rfl h4 dX10_step_18 ?_
    refine lv_iconst (v := 1) hx hb dX10_step_19 (by decide) ?_
    refine lv_isub hx hb dX10_step_20 ?_
    obtain ⟨r5, hcr5, hf⟩ := bd_some hf
    refine p_R (st1 := [.int (bI r5)]) (run_S (rest := []) X (ctX10_isIn hZ hcr5) mk_X10_isIn ml_X10_47 ⟨(Nat.le_of_ble_eq_true rfl), (Nat.le_of_ble_eq_true rfl)⟩ G [] rfl rfl rfl hl.1 rfl (Nat.le_of_ble_eq_true rfl) dX10_step_21 ⟨Nat.zero_le _, Nat.zero_le _⟩) rfl ?_
    refine lv_if_ne (tgt := 29) hx hb dX10_step_24 (by decide) (fun c6 => ?_) (fun c6 => ?_)
    · replace hf := if_f hf c6
      refine lv_iload_n hx hb dX10_step_29 rfl (lv_at hl 3 rfl) ?_
      refine lv_if_eq (tgt := 42) hx hb dX10_step_30 (by decide) (fun c7 => ?_) (fun c7 => ?_)
      · replace hf := if_t hf c7
        refine lv_aload_n hx hb dX10_step_42 rfl (lv_at hl 0 rfl) ?_
        refine lv_iload_n hx hb dX10_step_43 rfl (lv_at hl 1 rfl) ?_
        refine lv_iload_n hx hb dX10_step_44 rfl (lv_at hl 2 rfl) ?_
        obtain ⟨r8, hcr8, hf⟩ := bd_some hf
        refine p_R (st1 := [.int r8]) (run_V (rest := []) X (ctX10_sort hZ ot aMO hcr8) mk_X10_sort ml_X10_55 ⟨(Nat.le_of_ble_eq_true rfl), (Nat.le_of_ble_eq_true rfl)⟩ G [0, 1, 2, 3, 4, 5, 6, 7] rfl rfl 0 rfl rfl rfl hl.1 rfl (Nat.le_of_ble_eq_true rfl) dX10_step_45 ⟨Nat.zero_le _, Nat.zero_le _⟩) rfl ?_
        cases hf
        exact e_ri X dX10_step_48
      · replace hf := if_f hf c7
        refine lv_aload_n hx hb dX10_step_33 rfl (lv_at hl 0 rfl) ?_
        refine lv_iload_n hx hb dX10_step_34 rfl (lv_at hl 1 rfl) ?_
        refine lv_iload_n hx hb dX10_step_35 rfl (lv_at hl 2 rfl) ?_
        obtain ⟨r9, hcr9, hf⟩ := bd_some hf
        refine p_R (st1 := [.int r9]) (run_V (rest := []) X (ctX10_number hZ ot aMO hcr9) mk_X10_number ml_X10_59 ⟨(Nat.le_of_ble_eq_true rfl), (Nat.le_of_ble_eq_true rfl)⟩ G [0, 1, 2, 3, 4, 5, 6, 7] rfl rfl 0 rfl rfl rfl hl.1 rfl (Nat.le_of_ble_eq_true rfl) dX10_step_36 ⟨Nat.zero_le _, Nat.zero_le _⟩) rfl ?_
        refine lv_goto (tgt := 48) hx hb dX10_step_39 (by decide) ?_
        cases hf
        exact e_ri X dX10_step_48
    · replace hf := if_t hf c6
      refine lv_iconst (v := -1) hx hb dX10_step_27 (by decide) ?_
      cases hf
      exact e_ri X dX10_step_28
theorem mk_X10_step : MV yX10_step cX10_step 4 (some .int) 3 := ⟨co_X10_step, in_X10, im_X10_step, se_X10_step, by decide +kernel, by decide +kernel⟩
noncomputable def FX10_holder (MO : MoT) (v1 : Int32) : Option (Int32) :=
  (FX10_isIn v1 (0 : Int32) (5 : Int32)).bind fun r1 =>
  if (bI r1) = 0 then (
    some (-1 : Int32)
  ) else (
    nm ((240 : Int32) + v1) fun x3 =>
    ix x3 9519 <|
    some (Mo_all MO (Int32.toNatClampNeg x3))
  )
set_option maxHeartbeats 4000000 in
set_option maxRecDepth 100000 in
theorem ctX10_holder {l : Launch} {D : va_G} {k : Nat → ClassId} {Z : ZT} (hZ : ZOK Z) (ot : Nat) (aMO : Nat → Nat) {MO : MoT} {v1 : Int32} {q : Int32} (hf : FX10_holder MO v1 = some q) :
    CR l D k Z yX10_holder cX10_holder 2 (some .int) 1 22 [.ref ot, .int v1] (some (.int q)) (kMo k ot aMO (MO)) := by
  refine CR.start hZ (by decide) (Nat.le_of_ble_eq_true rfl) ?_
  intro p e s m below meth c ls X hl G
  have hx := X.1
  have hb := X.2.1
  have hl : lv_has ls 2 [(0, .ref ot), (1, .int v1)] := hl
  unfold FX10_holder at hf
  refine lv_iload_n hx hb dX10_holder_0 rfl (lv_at hl 1 rfl) ?_
  refine lv_iconst (v := 0) hx hb dX10_holder_1 (by decide) ?_
  refine lv_iconst (v := 5) hx hb dX10_holder_2 (by decide) ?_
  obtain ⟨r1, hcr1, hf⟩ := bd_some hf
  refine p_R (st1 := [.int (bI r1)]) (run_S (rest := []) X (ctX10_isIn hZ hcr1) mk_X10_isIn ml_X10_47 ⟨(Nat.le_of_ble_eq_true rfl), (Nat.le_of_ble_eq_true rfl)⟩ G [] rfl rfl rfl hl.1 rfl (Nat.le_of_ble_eq_true rfl) dX10_holder_3 ⟨Nat.zero_le _, Nat.zero_le _⟩) rfl ?_
  refine lv_if_eq (tgt := 22) hx hb dX10_holder_6 (by decide) (fun c2 => ?_) (fun c2 => ?_)
  · replace hf := if_t hf c2
    refine lv_iconst (v := -1) hx hb dX10_holder_22 (by decide) ?_
    cases hf
    exact e_ri X dX10_holder_23
  · replace hf := if_f hf c2
    refine lv_aload_n hx hb dX10_holder_9 rfl (lv_at hl 0 rfl) ?_
    refine r_get X inw_X10 G 0 rfl rfl 0 (by decide) fl_X10_7 (v := .ref (aMO 0)) rfl dX10_holder_10 ?_
    refine lv_sipush (v := 240) hx hb dX10_holder_13 (by decide) ?_
    refine lv_iload_n hx hb dX10_holder_16 rfl (lv_at hl 1 rfl) ?_
    refine lv_iadd hx hb dX10_holder_17 ?_
    obtain ⟨x3, ex3, hf⟩ := nm_some hf
    refine r_top (congrArg Value.int ex3) ?_
    obtain ⟨h4, hf⟩ := ix_some hf
    refine r_iald X G 1 rfl h4 dX10_holder_18 ?_
    refine lv_goto (tgt := 23) hx hb dX10_holder_19 (by decide) ?_
    cases hf
    exact e_ri X dX10_holder_23
theorem mk_X10_holder : MV yX10_holder cX10_holder 2 (some .int) 1 := ⟨co_X10_holder, in_X10, im_X10_holder, se_X10_holder, by decide +kernel, by decide +kernel⟩
noncomputable def FX10_pipe (MO : MoT) (v1 : Int32) (v2 : Int32) : Option (Int32) :=
  (FX10_isIn v1 (0 : Int32) (3 : Int32)).bind fun r1 =>
  if (bI r1) = 0 then (
    some (-1 : Int32)
  ) else (
    if v2 = 0 then (
      nm ((246 : Int32) + v1) fun x4 =>
      ix x4 9519 <|
      some (Mo_all MO (Int32.toNatClampNeg x4))
    ) else (
      nm ((3 : Int32) + v1) fun x6 =>
      ix x6 9519 <|
      some (Mo_all MO (Int32.toNatClampNeg x6))
    )
  )
set_option maxHeartbeats 4000000 in
set_option maxRecDepth 100000 in
theorem ctX10_pipe {l : Launch} {D : va_G} {k : Nat → ClassId} {Z : ZT} (hZ : ZOK Z) (ot : Nat) (aMO : Nat → Nat) {MO : MoT} {v1 : Int32} {v2 : Int32} {q : Int32} (hf : FX10_pipe MO v1 v2 = some q) :
    CR l D k Z yX10_pipe cX10_pipe 3 (some .int) 1 22 [.ref ot, .int v1, .int v2] (some (.int q)) (kMo k ot aMO (MO)) := by
  refine CR.start hZ (by decide) (Nat.le_of_ble_eq_true rfl) ?_
  intro p e s m below meth c ls X hl G
  have hx := X.1
  have hb := X.2.1
  have hl : lv_has ls 3 [(0, .ref ot), (1, .int v1), (2, .int v2)] := hl
  unfold FX10_pipe at hf
  refine lv_iload_n hx hb dX10_pipe_0 rfl (lv_at hl 1 rfl) ?_
  refine lv_iconst (v := 0) hx hb dX10_pipe_1 (by decide) ?_
  refine lv_iconst (v := 3) hx hb dX10_pipe_2 (by decide) ?_
  obtain ⟨r1, hcr1, hf⟩ := bd_some hf
  refine p_R (st1 := [.int (bI r1)]) (run_S (rest := []) X (ctX10_isIn hZ hcr1) mk_X10_isIn ml_X10_47 ⟨(Nat.le_of_ble_eq_true rfl), (Nat.le_of_ble_eq_true rfl)⟩ G [] rfl rfl rfl hl.1 rfl (Nat.le_of_ble_eq_true rfl) dX10_pipe_3 ⟨Nat.zero_le _, Nat.zero_le _⟩) rfl ?_
  refine lv_if_eq (tgt := 30) hx hb dX10_pipe_6 (by decide) (fun c2 => ?_) (fun c2 => ?_)
  · replace hf := if_t hf c2
    refine lv_iconst (v := -1) hx hb dX10_pipe_30 (by decide) ?_
    cases hf
    exact e_ri X dX10_pipe_31
  · replace hf := if_f hf c2
    refine lv_aload_n hx hb dX10_pipe_9 rfl (lv_at hl 0 rfl) ?_
    refine r_get X inw_X10 G 0 rfl rfl 0 (by decide) fl_X10_7 (v := .ref (aMO 0)) rfl dX10_pipe_10 ?_
    refine lv_iload_n hx hb dX10_pipe_13 rfl (lv_at hl 2 rfl) ?_
    refine lv_if_eq (tgt := 21) hx hb dX10_pipe_14 (by decide) (fun c3 => ?_) (fun c3 => ?_)
    · replace hf := if_t hf c3
      refine lv_sipush (v := 246) hx hb dX10_pipe_21 (by decide) ?_
      refine lv_iload_n hx hb dX10_pipe_24 rfl (lv_at hl 1 rfl) ?_
      refine lv_iadd hx hb dX10_pipe_25 ?_
      obtain ⟨x4, ex4, hf⟩ := nm_some hf
      refine r_top (congrArg Value.int ex4) ?_
      obtain ⟨h5, hf⟩ := ix_some hf
      refine r_iald X G 1 rfl h5 dX10_pipe_26 ?_
      refine lv_goto (tgt := 31) hx hb dX10_pipe_27 (by decide) ?_
      cases hf
      exact e_ri X dX10_pipe_31
    · replace hf := if_f hf c3
      refine lv_iconst (v := 3) hx hb dX10_pipe_17 (by decide) ?_
      refine lv_goto (tgt := 24) hx hb dX10_pipe_18 (by decide) ?_
      refine lv_iload_n hx hb dX10_pipe_24 rfl (lv_at hl 1 rfl) ?_
      refine lv_iadd hx hb dX10_pipe_25 ?_
      obtain ⟨x6, ex6, hf⟩ := nm_some hf
      refine r_top (congrArg Value.int ex6) ?_
      obtain ⟨h7, hf⟩ := ix_some hf
      refine r_iald X G 1 rfl h7 dX10_pipe_26 ?_
      refine lv_goto (tgt := 31) hx hb dX10_pipe_27 (by decide) ?_
      cases hf
      exact e_ri X dX10_pipe_31
theorem mk_X10_pipe : MV yX10_pipe cX10_pipe 3 (some .int) 2 := ⟨co_X10_pipe, in_X10, im_X10_pipe, se_X10_pipe, by decide +kernel, by decide +kernel⟩
noncomputable def FX10_messages (MO : MoT) (v1 : Int32) (v2 : Int32) : Option (Int32) :=
  (FX10_isWorker MO v1).bind fun r1 =>
  if (bI r1) = 0 then (
    some (-1 : Int32)
  ) else (
    (FX10_isWorker MO v2).bind fun r3 =>
    if (bI r3) = 0 then (
      some (-1 : Int32)
    ) else (
      (FX10_messageAt MO v1 v2).bind fun r5 =>
      ix r5 9519 <|
      some (Mo_all MO (Int32.toNatClampNeg r5))
    )
  )
set_option maxHeartbeats 4000000 in
set_option maxRecDepth 100000 in
theorem ctX10_messages {l : Launch} {D : va_G} {k : Nat → ClassId} {Z : ZT} (hZ : ZOK Z) (ot : Nat) (aMO : Nat → Nat) {MO : MoT} {v1 : Int32} {v2 : Int32} {q : Int32} (hf : FX10_messages MO v1 v2 = some q) :
    CR l D k Z yX10_messages cX10_messages 3 (some .int) 2 43 [.ref ot, .int v1, .int v2] (some (.int q)) (kMo k ot aMO (MO)) := by
  refine CR.start hZ (by decide) (Nat.le_of_ble_eq_true rfl) ?_
  intro p e s m below meth c ls X hl G
  have hx := X.1
  have hb := X.2.1
  have hl : lv_has ls 3 [(0, .ref ot), (1, .int v1), (2, .int v2)] := hl
  unfold FX10_messages at hf
  refine lv_aload_n hx hb dX10_messages_0 rfl (lv_at hl 0 rfl) ?_
  refine lv_iload_n hx hb dX10_messages_1 rfl (lv_at hl 1 rfl) ?_
  obtain ⟨r1, hcr1, hf⟩ := bd_some hf
  refine p_R (st1 := [.int (bI r1)]) (run_V (rest := []) X (ctX10_isWorker hZ ot aMO hcr1) mk_X10_isWorker ml_X10_155 ⟨(Nat.le_of_ble_eq_true rfl), (Nat.le_of_ble_eq_true rfl)⟩ G [0, 1, 2, 3, 4, 5, 6, 7] rfl rfl 0 rfl rfl rfl hl.1 rfl (Nat.le_of_ble_eq_true rfl) dX10_messages_2 ⟨Nat.zero_le _, Nat.zero_le _⟩) rfl ?_
  refine lv_if_eq (tgt := 30) hx hb dX10_messages_5 (by decide) (fun c2 => ?_) (fun c2 => ?_)
  · replace hf := if_t hf c2
    refine lv_iconst (v := -1) hx hb dX10_messages_30 (by decide) ?_
    cases hf
    exact e_ri X dX10_messages_31
  · replace hf := if_f hf c2
    refine lv_aload_n hx hb dX10_messages_8 rfl (lv_at hl 0 rfl) ?_
    refine lv_iload_n hx hb dX10_messages_9 rfl (lv_at hl 2 rfl) ?_
    obtain ⟨r3, hcr3, hf⟩ := bd_some hf
    refine p_R (st1 := [.int (bI r3)]) (run_V (rest := []) X (ctX10_isWorker hZ ot aMO hcr3) mk_X10_isWorker ml_X10_155 ⟨(Nat.le_of_ble_eq_true rfl), (Nat.le_of_ble_eq_true rfl)⟩ G [0, 1, 2, 3, 4, 5, 6, 7] rfl rfl 0 rfl rfl rfl hl.1 rfl (Nat.le_of_ble_eq_true rfl) dX10_messages_10 ⟨Nat.zero_le _, Nat.zero_le _⟩) rfl ?_
    refine lv_if_eq (tgt := 30) hx hb dX10_messages_13 (by decide) (fun c4 => ?_) (fun c4 => ?_)
    · replace hf := if_t hf c4
      refine lv_iconst (v := -1) hx hb dX10_messages_30 (by decide) ?_
      cases hf
      exact e_ri X dX10_messages_31
    · replace hf := if_f hf c4
      refine lv_aload_n hx hb dX10_messages_16 rfl (lv_at hl 0 rfl) ?_
      refine r_get X inw_X10 G 0 rfl rfl 0 (by decide) fl_X10_7 (v := .ref (aMO 0)) rfl dX10_messages_17 ?_
      refine lv_aload_n hx hb dX10_messages_20 rfl (lv_at hl 0 rfl) ?_
      refine lv_iload_n hx hb dX10_messages_21 rfl (lv_at hl 1 rfl) ?_
      refine lv_iload_n hx hb dX10_messages_22 rfl (lv_at hl 2 rfl) ?_
      obtain ⟨r5, hcr5, hf⟩ := bd_some hf
      refine p_R (st1 := [.int r5, .ref (aMO 0)]) (run_V (rest := [.ref (aMO 0)]) X (ctX10_messageAt hZ ot aMO hcr5) mk_X10_messageAt ml_X10_71 ⟨(Nat.le_of_ble_eq_true rfl), (Nat.le_of_ble_eq_true rfl)⟩ G [0, 1, 2, 3, 4, 5, 6, 7] rfl rfl 0 rfl rfl rfl hl.1 rfl (Nat.le_of_ble_eq_true rfl) dX10_messages_23 ⟨Nat.zero_le _, Nat.zero_le _⟩) rfl ?_
      obtain ⟨h6, hf⟩ := ix_some hf
      refine r_iald X G 1 rfl h6 dX10_messages_26 ?_
      refine lv_goto (tgt := 31) hx hb dX10_messages_27 (by decide) ?_
      cases hf
      exact e_ri X dX10_messages_31
theorem mk_X10_messages : MV yX10_messages cX10_messages 3 (some .int) 2 := ⟨co_X10_messages, in_X10, im_X10_messages, se_X10_messages, by decide +kernel, by decide +kernel⟩
noncomputable def FX10_waits (MO : MoT) (v1 : Int32) : Option (Int32) :=
  (FX10_isWorker MO v1).bind fun r1 =>
  if (bI r1) = 0 then (
    some (-1 : Int32)
  ) else (
    (FX10_waitsFor MO v1).bind fun r3 =>
    some r3
  )
set_option maxHeartbeats 4000000 in
set_option maxRecDepth 100000 in
theorem ctX10_waits {l : Launch} {D : va_G} {k : Nat → ClassId} {Z : ZT} (hZ : ZOK Z) (ot : Nat) (aMO : Nat → Nat) {MO : MoT} {v1 : Int32} {q : Int32} (hf : FX10_waits MO v1 = some q) :
    CR l D k Z yX10_waits cX10_waits 2 (some .int) 5 111 [.ref ot, .int v1] (some (.int q)) (kMo k ot aMO (MO)) := by
  refine CR.start hZ (by decide) (Nat.le_of_ble_eq_true rfl) ?_
  intro p e s m below meth c ls X hl G
  have hx := X.1
  have hb := X.2.1
  have hl : lv_has ls 2 [(0, .ref ot), (1, .int v1)] := hl
  unfold FX10_waits at hf
  refine lv_aload_n hx hb dX10_waits_0 rfl (lv_at hl 0 rfl) ?_
  refine lv_iload_n hx hb dX10_waits_1 rfl (lv_at hl 1 rfl) ?_
  obtain ⟨r1, hcr1, hf⟩ := bd_some hf
  refine p_R (st1 := [.int (bI r1)]) (run_V (rest := []) X (ctX10_isWorker hZ ot aMO hcr1) mk_X10_isWorker ml_X10_155 ⟨(Nat.le_of_ble_eq_true rfl), (Nat.le_of_ble_eq_true rfl)⟩ G [0, 1, 2, 3, 4, 5, 6, 7] rfl rfl 0 rfl rfl rfl hl.1 rfl (Nat.le_of_ble_eq_true rfl) dX10_waits_2 ⟨Nat.zero_le _, Nat.zero_le _⟩) rfl ?_
  refine lv_if_eq (tgt := 16) hx hb dX10_waits_5 (by decide) (fun c2 => ?_) (fun c2 => ?_)
  · replace hf := if_t hf c2
    refine lv_iconst (v := -1) hx hb dX10_waits_16 (by decide) ?_
    cases hf
    exact e_ri X dX10_waits_17
  · replace hf := if_f hf c2
    refine lv_aload_n hx hb dX10_waits_8 rfl (lv_at hl 0 rfl) ?_
    refine lv_iload_n hx hb dX10_waits_9 rfl (lv_at hl 1 rfl) ?_
    obtain ⟨r3, hcr3, hf⟩ := bd_some hf
    refine p_R (st1 := [.int r3]) (run_V (rest := []) X (ctX10_waitsFor hZ ot aMO hcr3) mk_X10_waitsFor ml_X10_90 ⟨(Nat.le_of_ble_eq_true rfl), (Nat.le_of_ble_eq_true rfl)⟩ G [0, 1, 2, 3, 4, 5, 6, 7] rfl rfl 0 rfl rfl rfl hl.1 rfl (Nat.le_of_ble_eq_true rfl) dX10_waits_10 ⟨Nat.zero_le _, Nat.zero_le _⟩) rfl ?_
    refine lv_goto (tgt := 17) hx hb dX10_waits_13 (by decide) ?_
    cases hf
    exact e_ri X dX10_waits_17
theorem mk_X10_waits : MV yX10_waits cX10_waits 2 (some .int) 1 := ⟨co_X10_waits, in_X10, im_X10_waits, se_X10_waits, by decide +kernel, by decide +kernel⟩
noncomputable def FX10_goesWay_21 (stL3 : Int32 × Int32 × MoT) : (Int32 × MoT) → Option ((Int32 × MoT) ⊕ (MoT)) := fun stL5 =>
  if (Mo_wayMany stL5.2) ≤ stL5.1 then (
    some (.inr stL5.2)
  ) else (
    ix stL5.1 9 <|
    if (Mo_way stL5.2 (Int32.toNatClampNeg stL5.1)) = stL3.1 then (
      nm (sMo_ringFrom stL5.2 stL5.1) fun MO10 =>
      nm (stL5.1 + 1) fun x11 =>
      some (.inl (x11, MO10))
    ) else (
      nm (stL5.1 + 1) fun x9 =>
      some (.inl (x9, stL5.2))
    )
  )
noncomputable def FX10_goesWay_114 (vJ17 : Int32) (vJ18 : Int32) : Int32 → Option ((Int32) ⊕ (Int32)) := fun stL19 =>
  if vJ18 = 0 then (
    some (.inr stL19)
  ) else (
    (FX10_has vJ17 stL19).bind fun r21 =>
    if (bI r21) = 0 then (
      nm (stL19 + 1) fun x23 =>
      some (.inl x23)
    ) else (
      some (.inr stL19)
    )
  )
noncomputable def FX10_goesWay_j111 (MO15 : MoT) (vJ17 : Int32) (vJ18 : Int32) : Option ((Int32 × Int32 × MoT) ⊕ ((MoT) ⊕ (MoT))) :=
  (itr (FX10_goesWay_114 vJ17 vJ18) (0 : Int32)).bind fun uL19 =>
  some (.inl (uL19, vJ18, MO15))
noncomputable def FX10_goesWay_j99 (MO15 : MoT) (vJ17 : Int32) : Option ((Int32 × Int32 × MoT) ⊕ ((MoT) ⊕ (MoT))) :=
  if vJ17 = 0 then (
    FX10_goesWay_j111 MO15 vJ17 (0 : Int32)
  ) else (
    FX10_goesWay_j111 MO15 vJ17 (1 : Int32)
  )
noncomputable def FX10_goesWay_14  : (Int32 × Int32 × MoT) → Option ((Int32 × Int32 × MoT) ⊕ ((MoT) ⊕ (MoT))) := fun stL3 =>
  if stL3.2.1 = 0 then (
    some (.inr (.inl stL3.2.2))
  ) else (
    (itr (FX10_goesWay_21 stL3) ((0 : Int32), stL3.2.2)).bind fun uL5 =>
    if (Mo_ringFrom uL5) = (-1 : Int32) then (
      ix (Mo_wayMany uL5) 9 <|
      nm (sMo_way uL5 (upd (Mo_way uL5) (Int32.toNatClampNeg (Mo_wayMany uL5)) stL3.1)) fun MO14 =>
      nm (sMo_wayMany MO14 ((Mo_wayMany MO14) + (1 : Int32))) fun MO15 =>
      (FX10_isEnded MO15 stL3.1).bind fun r16 =>
      if (bI r16) = 0 then (
        (FX10_waitsFor MO15 stL3.1).bind fun r26 =>
        FX10_goesWay_j99 MO15 r26
      ) else (
        FX10_goesWay_j99 MO15 (0 : Int32)
      )
    ) else (
      some (.inr (.inr (uL5)))
    )
  )
noncomputable def FX10_goesWay (MO : MoT) (v1 : Int32) : Option (MoT) :=
  nm (sMo_wayMany MO (0 : Int32)) fun MO1 =>
  nm (sMo_ringFrom MO1 (-1 : Int32)) fun MO2 =>
  (itr FX10_goesWay_14 (v1, (1 : Int32), MO2)).bind fun exL3 =>
  Sum.elim (fun uL3 =>
    some uL3
  )
  (fun uL3 =>
    some uL3
  ) exL3
set_option maxHeartbeats 4000000 in
set_option maxRecDepth 100000 in
theorem ctX10_goesWay {l : Launch} {D : va_G} {k : Nat → ClassId} {Z : ZT} (hZ : ZOK Z) (ot : Nat) (aMO : Nat → Nat) {MO : MoT} {v1 : Int32} {q : MoT} (hf : FX10_goesWay MO v1 = some q) :
    CM l D k Z yX10_goesWay cX10_goesWay 5 none 5 111 [.ref ot, .int v1] none (kMo k ot aMO (MO)) (kMo k ot aMO (q)) := by
  refine CM.start hZ (by decide) (Nat.le_of_ble_eq_true rfl) ?_
  intro p e s m below meth c ls X hl G
  have hx := X.1
  have hb := X.2.1
  have hl : lv_has ls 5 [(0, .ref ot), (1, .int v1)] := hl
  unfold FX10_goesWay at hf
  refine lv_aload_n hx hb dX10_goesWay_0 rfl (lv_at hl 0 rfl) ?_
  refine lv_iconst (v := 0) hx hb dX10_goesWay_1 (by decide) ?_
  obtain ⟨MO1, eMO1, hf⟩ := nm_some hf
  refine r_put X inw_X10 tyX10 tyX10_ok nmX10 G 0 rfl rfl 9 (by decide) fl_X10_171 rfl rfl rfl (Nat.le_of_ble_eq_true rfl) (ws' := kMo k ot aMO (MO1)) (by subst eMO1; rfl) dX10_goesWay_2 (fun H locs G => ?_)
  refine lv_aload_n hx hb dX10_goesWay_5 rfl (lv_at hl 0 rfl) ?_
  refine lv_iconst (v := -1) hx hb dX10_goesWay_6 (by decide) ?_
  obtain ⟨MO2, eMO2, hf⟩ := nm_some hf
  refine r_put X inw_X10 tyX10 tyX10_ok nmX10 G 0 rfl rfl 10 (by decide) fl_X10_174 rfl rfl rfl (Nat.le_of_ble_eq_true rfl) (ws' := kMo k ot aMO (MO2)) (by subst eMO2; rfl) dX10_goesWay_7 (fun H locs G => ?_)
  refine lv_iload_n hx hb dX10_goesWay_10 rfl (lv_at hl 1 rfl) ?_
  refine lv_istore_n (lv' := [(2, .int v1), (0, .ref ot), (1, .int v1)]) hx hb dX10_goesWay_11 rfl hl (by decide) rfl (fun ls hl => ?_)
  refine lv_iconst (v := 1) hx hb dX10_goesWay_12 (by decide) ?_
  refine lv_istore_n (lv' := [(3, .int (1 : Int32)), (2, .int v1), (0, .ref ot), (1, .int v1)]) hx hb dX10_goesWay_13 rfl hl (by decide) rfl (fun ls hl => ?_)
  obtain ⟨exL3, hitL3, hfL3⟩ := bd_some hf
  obtain ⟨nL3, hitL3⟩ := itr_ex hitL3
  have KL3_0 : ∀ (u : MoT) (H : Heap) (locs : List Loc) (ls : Array Slot), exL3 = Sum.inl u → Wo D (wA (kMo k ot aMO (MO))) s.heap (kMo k ot aMO (u)) H locs → lv_has ls 5 [] → W p l e (rmz 5 111) s m [.ref ot, .int v1].toArray below meth c H locs 0 0 (MQ below (Qm D none (kMo k ot aMO (MO)) (kMo k ot aMO (q))) [.ref ot, .int v1].toArray s 0 0 (wA (kMo k ot aMO (MO)))) (F0 m 136 ls []) := by
    intro uL3 H locs ls hex G hl
    rw [hex] at hfL3
    have hf := hfL3
    replace hf := sl_l hf
    cases hf
    exact e_mv X G dX10_goesWay_136
  have KL3_1 : ∀ (u : MoT) (H : Heap) (locs : List Loc) (ls : Array Slot), exL3 = Sum.inr (u) → Wo D (wA (kMo k ot aMO (MO))) s.heap (kMo k ot aMO (u)) H locs → lv_has ls 5 [] → W p l e (rmz 5 111) s m [.ref ot, .int v1].toArray below meth c H locs 0 0 (MQ below (Qm D none (kMo k ot aMO (MO)) (kMo k ot aMO (q))) [.ref ot, .int v1].toArray s 0 0 (wA (kMo k ot aMO (MO)))) (F0 m 61 ls []) := by
    intro uL3 H locs ls hex G hl
    rw [hex] at hfL3
    have hf := hfL3
    replace hf := sl_r hf
    cases hf
    exact e_mv X G dX10_goesWay_61
  have LL3 : ∀ (n : Nat) (stL3 : Int32 × Int32 × MoT) (H : Heap) (locs : List Loc) (ls : Array Slot), Wo D (wA (kMo k ot aMO (MO))) s.heap (kMo k ot aMO (stL3.2.2)) H locs → lv_has ls 5 [(0, .ref ot), (2, .int (stL3.1)), (3, .int (stL3.2.1))] → it FX10_goesWay_14 n stL3 = some exL3 → W p l e (rmz 5 111) s m [.ref ot, .int v1].toArray below meth c H locs 0 0 (MQ below (Qm D none (kMo k ot aMO (MO)) (kMo k ot aMO (q))) [.ref ot, .int v1].toArray s 0 0 (wA (kMo k ot aMO (MO)))) (F0 m 14 ls []) := by
    intro n
    induction n with
    | zero =>
      intro stL3 H locs ls G hl hit
      exact (it_zero hit).elim
    | succ n ih =>
      intro stL3 H locs ls G hl hit
      obtain ⟨oL3, hf, hoL3⟩ := it_bd hit
      unfold FX10_goesWay_14 at hf
      refine lv_iload_n hx hb dX10_goesWay_14 rfl (lv_at hl 2 rfl) ?_
      refine lv_if_eq (tgt := 136) hx hb dX10_goesWay_15 (by decide) (fun c4 => ?_) (fun c4 => ?_)
      · replace hf := if_t hf c4
        cases hf
        exact KL3_0 stL3.2.2 _ _ _ (it_out hoL3) G (lv_sub hl [] rfl)
      · replace hf := if_f hf c4
        refine lv_iconst (v := 0) hx hb dX10_goesWay_18 (by decide) ?_
        refine lv_istore (lv' := [(4, .int (0 : Int32)), (0, .ref ot), (2, .int (stL3.1)), (3, .int (stL3.2.1))]) hx hb dX10_goesWay_19 hl (by decide) rfl (fun ls hl => ?_)
        obtain ⟨exL5, hitL5, hfL5⟩ := bd_some hf
        obtain ⟨nL5, hitL5⟩ := itr_ex hitL5
        have KL5_0 : ∀ (u : MoT) (H : Heap) (locs : List Loc) (ls : Array Slot), exL5 = u → Wo D (wA (kMo k ot aMO (MO))) s.heap (kMo k ot aMO (u)) H locs → lv_has ls 5 [(0, .ref ot), (2, .int (stL3.1))] → W p l e (rmz 5 111) s m [.ref ot, .int v1].toArray below meth c H locs 0 0 (MQ below (Qm D none (kMo k ot aMO (MO)) (kMo k ot aMO (q))) [.ref ot, .int v1].toArray s 0 0 (wA (kMo k ot aMO (MO)))) (F0 m 53 ls []) := by
          intro uL5 H locs ls hex G hl
          rw [hex] at hfL5
          have hf := hfL5
          refine lv_aload_n hx hb dX10_goesWay_53 rfl (lv_at hl 0 rfl) ?_
          refine r_get X inw_X10 G 0 rfl rfl 10 (by decide) fl_X10_174 (v := .int (Mo_ringFrom uL5)) rfl dX10_goesWay_54 ?_
          refine lv_iconst (v := -1) hx hb dX10_goesWay_57 (by decide) ?_
          refine lv_icmp_eq (tgt := 62) hx hb dX10_goesWay_58 (by decide) (fun c12 => ?_) (fun c12 => ?_)
          · replace hf := if_t hf c12
            refine lv_aload_n hx hb dX10_goesWay_62 rfl (lv_at hl 0 rfl) ?_
            refine r_get X inw_X10 G 0 rfl rfl 8 (by decide) fl_X10_24 (v := .ref (aMO 3)) rfl dX10_goesWay_63 ?_
            refine lv_aload_n hx hb dX10_goesWay_66 rfl (lv_at hl 0 rfl) ?_
            refine r_get X inw_X10 G 0 rfl rfl 9 (by decide) fl_X10_171 (v := .int (Mo_wayMany uL5)) rfl dX10_goesWay_67 ?_
            refine lv_iload_n hx hb dX10_goesWay_70 rfl (lv_at hl 1 rfl) ?_
            obtain ⟨h13, hf⟩ := ix_some hf
            obtain ⟨MO14, eMO14, hf⟩ := nm_some hf
            refine r_iast X G 4 rfl h13 (ws' := kMo k ot aMO (MO14)) (by subst eMO14; rfl) dX10_goesWay_71 (fun H locs G => ?_)
            refine lv_aload_n hx hb dX10_goesWay_72 rfl (lv_at hl 0 rfl) ?_
            refine lv_dup hx hb dX10_goesWay_73 rfl ?_
            refine r_get X inw_X10 G 0 rfl rfl 9 (by decide) fl_X10_171 (v := .int (Mo_wayMany MO14)) rfl dX10_goesWay_74 ?_
            refine lv_iconst (v := 1) hx hb dX10_goesWay_77 (by decide) ?_
            refine lv_iadd hx hb dX10_goesWay_78 ?_
            obtain ⟨MO15, eMO15, hf⟩ := nm_some hf
            refine r_put X inw_X10 tyX10 tyX10_ok nmX10 G 0 rfl rfl 9 (by decide) fl_X10_171 rfl rfl rfl (Nat.le_of_ble_eq_true rfl) (ws' := kMo k ot aMO (MO15)) (by subst eMO15; rfl) dX10_goesWay_79 (fun H locs G => ?_)
            refine lv_aload_n hx hb dX10_goesWay_82 rfl (lv_at hl 0 rfl) ?_
            refine lv_iload_n hx hb dX10_goesWay_83 rfl (lv_at hl 1 rfl) ?_
            obtain ⟨r16, hcr16, hf⟩ := bd_some hf
            refine p_R (st1 := [.int (bI r16)]) (run_V (rest := []) X (ctX10_isEnded hZ ot aMO hcr16) mk_X10_isEnded ml_X10_81 ⟨(Nat.le_of_ble_eq_true rfl), (Nat.le_of_ble_eq_true rfl)⟩ G [0, 1, 2, 3, 4, 5, 6, 7] rfl rfl 0 rfl rfl rfl hl.1 rfl (Nat.le_of_ble_eq_true rfl) dX10_goesWay_84 ⟨Nat.zero_le _, Nat.zero_le _⟩) rfl ?_
            have JJ17 : ∀ (vJ17 : Int32) (H : Heap) (locs : List Loc) (ls : Array Slot), Wo D (wA (kMo k ot aMO (MO))) s.heap (kMo k ot aMO (MO15)) H locs → lv_has ls 5 [(0, .ref ot)] → FX10_goesWay_j99 MO15 vJ17 = some oL3 → W p l e (rmz 5 111) s m [.ref ot, .int v1].toArray below meth c H locs 0 0 (MQ below (Qm D none (kMo k ot aMO (MO)) (kMo k ot aMO (q))) [.ref ot, .int v1].toArray s 0 0 (wA (kMo k ot aMO (MO)))) (F0 m 99 ls [.int vJ17]) := by
              intro vJ17 H locs ls G hl hf
              unfold FX10_goesWay_j99 at hf
              refine lv_istore (lv' := [(4, .int vJ17), (0, .ref ot)]) hx hb dX10_goesWay_99 hl (by decide) rfl (fun ls hl => ?_)
              refine lv_iload hx hb dX10_goesWay_101 (lv_at hl 0 rfl) ?_
              have JJ18 : ∀ (vJ18 : Int32) (H : Heap) (locs : List Loc) (ls : Array Slot), Wo D (wA (kMo k ot aMO (MO))) s.heap (kMo k ot aMO (MO15)) H locs → lv_has ls 5 [(0, .ref ot), (4, .int vJ17)] → FX10_goesWay_j111 MO15 vJ17 vJ18 = some oL3 → W p l e (rmz 5 111) s m [.ref ot, .int v1].toArray below meth c H locs 0 0 (MQ below (Qm D none (kMo k ot aMO (MO)) (kMo k ot aMO (q))) [.ref ot, .int v1].toArray s 0 0 (wA (kMo k ot aMO (MO)))) (F0 m 111 ls [.int vJ18]) := by
                intro vJ18 H locs ls G hl hf
                unfold FX10_goesWay_j111 at hf
                refine lv_istore_n (lv' := [(3, .int vJ18), (0, .ref ot), (4, .int vJ17)]) hx hb dX10_goesWay_111 rfl hl (by decide) rfl (fun ls hl => ?_)
                refine lv_iconst (v := 0) hx hb dX10_goesWay_112 (by decide) ?_
                refine lv_istore_n (lv' := [(2, .int (0 : Int32)), (3, .int vJ18), (0, .ref ot), (4, .int vJ17)]) hx hb dX10_goesWay_113 rfl hl (by decide) rfl (fun ls hl => ?_)
                obtain ⟨exL19, hitL19, hfL19⟩ := bd_some hf
                obtain ⟨nL19, hitL19⟩ := itr_ex hitL19
                have KL19_0 : ∀ (u : Int32) (H : Heap) (locs : List Loc) (ls : Array Slot), exL19 = u → Wo D (wA (kMo k ot aMO (MO))) s.heap (kMo k ot aMO (MO15)) H locs → lv_has ls 5 [(0, .ref ot), (2, .int u), (3, .int vJ18)] → W p l e (rmz 5 111) s m [.ref ot, .int v1].toArray below meth c H locs 0 0 (MQ below (Qm D none (kMo k ot aMO (MO)) (kMo k ot aMO (q))) [.ref ot, .int v1].toArray s 0 0 (wA (kMo k ot aMO (MO)))) (F0 m 133 ls []) := by
                  intro uL19 H locs ls hex G hl
                  rw [hex] at hfL19
                  have hf := hfL19
                  refine lv_goto (tgt := 14) hx hb dX10_goesWay_133 (by decide) ?_
                  cases hf
                  exact ih (uL19, vJ18, MO15) _ _ _ G (lv_sub hl [0, 1, 2] rfl) hoL3
                have LL19 : ∀ (n : Nat) (stL19 : Int32) (H : Heap) (locs : List Loc) (ls : Array Slot), Wo D (wA (kMo k ot aMO (MO))) s.heap (kMo k ot aMO (MO15)) H locs → lv_has ls 5 [(0, .ref ot), (2, .int stL19), (3, .int vJ18), (4, .int vJ17)] → it (FX10_goesWay_114 vJ17 vJ18) n stL19 = some exL19 → W p l e (rmz 5 111) s m [.ref ot, .int v1].toArray below meth c H locs 0 0 (MQ below (Qm D none (kMo k ot aMO (MO)) (kMo k ot aMO (q))) [.ref ot, .int v1].toArray s 0 0 (wA (kMo k ot aMO (MO)))) (F0 m 114 ls []) := by
                  intro n
                  induction n with
                  | zero =>
                    intro stL19 H locs ls G hl hit
                    exact (it_zero hit).elim
                  | succ n ih =>
                    intro stL19 H locs ls G hl hit
                    obtain ⟨oL19, hf, hoL19⟩ := it_bd hit
                    unfold FX10_goesWay_114 at hf
                    refine lv_iload_n hx hb dX10_goesWay_114 rfl (lv_at hl 2 rfl) ?_
                    refine lv_if_eq (tgt := 133) hx hb dX10_goesWay_115 (by decide) (fun c20 => ?_) (fun c20 => ?_)
                    · replace hf := if_t hf c20
                      cases hf
                      exact KL19_0 stL19 _ _ _ (it_out hoL19) G (lv_sub hl [0, 1, 2] rfl)
                    · replace hf := if_f hf c20
                      refine lv_iload hx hb dX10_goesWay_118 (lv_at hl 3 rfl) ?_
                      refine lv_iload_n hx hb dX10_goesWay_120 rfl (lv_at hl 1 rfl) ?_
                      obtain ⟨r21, hcr21, hf⟩ := bd_some hf
                      refine p_R (st1 := [.int (bI r21)]) (run_S (rest := []) X (ctX10_has hZ hcr21) mk_X10_has ml_X10_96 ⟨(Nat.le_of_ble_eq_true rfl), (Nat.le_of_ble_eq_true rfl)⟩ G [] rfl rfl rfl hl.1 rfl (Nat.le_of_ble_eq_true rfl) dX10_goesWay_121 ⟨Nat.zero_le _, Nat.zero_le _⟩) rfl ?_
                      refine lv_if_ne (tgt := 133) hx hb dX10_goesWay_124 (by decide) (fun c22 => ?_) (fun c22 => ?_)
                      · replace hf := if_f hf c22
                        cases hf
                        exact KL19_0 stL19 _ _ _ (it_out hoL19) G (lv_sub hl [0, 1, 2] rfl)
                      · replace hf := if_t hf c22
                        obtain ⟨x23, ex23, hf⟩ := nm_some hf
                        refine lv_iinc (v := x23) (lv' := [(2, .int x23), (0, .ref ot), (3, .int vJ18), (4, .int vJ17)]) hx hb dX10_goesWay_127 hl (k := 1) rfl (by subst ex23; rfl) (by decide) rfl (fun ls hl => ?_)
                        refine lv_goto (tgt := 114) hx hb dX10_goesWay_130 (by decide) ?_
                        cases hf
                        exact ih x23 _ _ _ G (lv_sub hl [1, 0, 2, 3] rfl) hoL19
                exact LL19 nL19 (0 : Int32) _ _ _ G (lv_sub hl [2, 0, 1, 3] rfl) hitL19
              refine lv_if_eq (tgt := 110) hx hb dX10_goesWay_103 (by decide) (fun c24 => ?_) (fun c24 => ?_)
              · replace hf := if_t hf c24
                refine lv_iconst (v := 0) hx hb dX10_goesWay_110 (by decide) ?_
                exact JJ18 (0 : Int32) _ _ _ G (lv_sub hl [1, 0] rfl) hf
              · replace hf := if_f hf c24
                refine lv_iconst (v := 1) hx hb dX10_goesWay_106 (by decide) ?_
                refine lv_goto (tgt := 111) hx hb dX10_goesWay_107 (by decide) ?_
                exact JJ18 (1 : Int32) _ _ _ G (lv_sub hl [1, 0] rfl) hf
            refine lv_if_eq (tgt := 94) hx hb dX10_goesWay_87 (by decide) (fun c25 => ?_) (fun c25 => ?_)
            · replace hf := if_t hf c25
              refine lv_aload_n hx hb dX10_goesWay_94 rfl (lv_at hl 0 rfl) ?_
              refine lv_iload_n hx hb dX10_goesWay_95 rfl (lv_at hl 1 rfl) ?_
              obtain ⟨r26, hcr26, hf⟩ := bd_some hf
              refine p_R (st1 := [.int r26]) (run_V (rest := []) X (ctX10_waitsFor hZ ot aMO hcr26) mk_X10_waitsFor ml_X10_90 ⟨(Nat.le_of_ble_eq_true rfl), (Nat.le_of_ble_eq_true rfl)⟩ G [0, 1, 2, 3, 4, 5, 6, 7] rfl rfl 0 rfl rfl rfl hl.1 rfl (Nat.le_of_ble_eq_true rfl) dX10_goesWay_96 ⟨Nat.zero_le _, Nat.zero_le _⟩) rfl ?_
              exact JJ17 r26 _ _ _ G (lv_sub hl [0] rfl) hf
            · replace hf := if_f hf c25
              refine lv_iconst (v := 0) hx hb dX10_goesWay_90 (by decide) ?_
              refine lv_goto (tgt := 99) hx hb dX10_goesWay_91 (by decide) ?_
              exact JJ17 (0 : Int32) _ _ _ G (lv_sub hl [0] rfl) hf
          · replace hf := if_f hf c12
            cases hf
            exact KL3_1 uL5 _ _ _ (it_out hoL3) G (lv_sub hl [] rfl)
        have LL5 : ∀ (n : Nat) (stL5 : Int32 × MoT) (H : Heap) (locs : List Loc) (ls : Array Slot), Wo D (wA (kMo k ot aMO (MO))) s.heap (kMo k ot aMO (stL5.2)) H locs → lv_has ls 5 [(0, .ref ot), (2, .int (stL3.1)), (4, .int (stL5.1))] → it (FX10_goesWay_21 stL3) n stL5 = some exL5 → W p l e (rmz 5 111) s m [.ref ot, .int v1].toArray below meth c H locs 0 0 (MQ below (Qm D none (kMo k ot aMO (MO)) (kMo k ot aMO (q))) [.ref ot, .int v1].toArray s 0 0 (wA (kMo k ot aMO (MO)))) (F0 m 21 ls []) := by
          intro n
          induction n with
          | zero =>
            intro stL5 H locs ls G hl hit
            exact (it_zero hit).elim
          | succ n ih =>
            intro stL5 H locs ls G hl hit
            obtain ⟨oL5, hf, hoL5⟩ := it_bd hit
            unfold FX10_goesWay_21 at hf
            refine lv_iload hx hb dX10_goesWay_21 (lv_at hl 2 rfl) ?_
            refine lv_aload_n hx hb dX10_goesWay_23 rfl (lv_at hl 0 rfl) ?_
            refine r_get X inw_X10 G 0 rfl rfl 9 (by decide) fl_X10_171 (v := .int (Mo_wayMany stL5.2)) rfl dX10_goesWay_24 ?_
            refine lv_icmp_ge (tgt := 53) hx hb dX10_goesWay_27 (by decide) (fun c6 => ?_) (fun c6 => ?_)
            · replace hf := if_t hf c6
              cases hf
              exact KL5_0 stL5.2 _ _ _ (it_out hoL5) G (lv_sub hl [0, 1] rfl)
            · replace hf := if_f hf c6
              refine lv_aload_n hx hb dX10_goesWay_30 rfl (lv_at hl 0 rfl) ?_
              refine r_get X inw_X10 G 0 rfl rfl 8 (by decide) fl_X10_24 (v := .ref (aMO 3)) rfl dX10_goesWay_31 ?_
              refine lv_iload hx hb dX10_goesWay_34 (lv_at hl 2 rfl) ?_
              obtain ⟨h7, hf⟩ := ix_some hf
              refine r_iald X G 4 rfl h7 dX10_goesWay_36 ?_
              refine lv_iload_n hx hb dX10_goesWay_37 rfl (lv_at hl 1 rfl) ?_
              refine lv_icmp_ne (tgt := 47) hx hb dX10_goesWay_38 (by decide) (fun c8 => ?_) (fun c8 => ?_)
              · replace hf := if_f hf c8
                obtain ⟨x9, ex9, hf⟩ := nm_some hf
                refine lv_iinc (v := x9) (lv' := [(4, .int x9), (0, .ref ot), (2, .int (stL3.1))]) hx hb dX10_goesWay_47 hl (k := 2) rfl (by subst ex9; rfl) (by decide) rfl (fun ls hl => ?_)
                refine lv_goto (tgt := 21) hx hb dX10_goesWay_50 (by decide) ?_
                cases hf
                exact ih (x9, stL5.2) _ _ _ G (lv_sub hl [1, 2, 0] rfl) hoL5
              · replace hf := if_t hf c8
                refine lv_aload_n hx hb dX10_goesWay_41 rfl (lv_at hl 0 rfl) ?_
                refine lv_iload hx hb dX10_goesWay_42 (lv_at hl 2 rfl) ?_
                obtain ⟨MO10, eMO10, hf⟩ := nm_some hf
                refine r_put X inw_X10 tyX10 tyX10_ok nmX10 G 0 rfl rfl 10 (by decide) fl_X10_174 rfl rfl rfl (Nat.le_of_ble_eq_true rfl) (ws' := kMo k ot aMO (MO10)) (by subst eMO10; rfl) dX10_goesWay_44 (fun H locs G => ?_)
                obtain ⟨x11, ex11, hf⟩ := nm_some hf
                refine lv_iinc (v := x11) (lv' := [(4, .int x11), (0, .ref ot), (2, .int (stL3.1))]) hx hb dX10_goesWay_47 hl (k := 2) rfl (by subst ex11; rfl) (by decide) rfl (fun ls hl => ?_)
                refine lv_goto (tgt := 21) hx hb dX10_goesWay_50 (by decide) ?_
                cases hf
                exact ih (x11, MO10) _ _ _ G (lv_sub hl [1, 2, 0] rfl) hoL5
        exact LL5 nL5 ((0 : Int32), stL3.2.2) _ _ _ G (lv_sub hl [1, 2, 0] rfl) hitL5
  exact LL3 nL3 (v1, (1 : Int32), MO2) _ _ _ G (lv_sub hl [2, 1, 0] rfl) hitL3
theorem mk_X10_goesWay : MV yX10_goesWay cX10_goesWay 5 none 1 := ⟨co_X10_goesWay, in_X10, im_X10_goesWay, se_X10_goesWay, by decide +kernel, by decide +kernel⟩
noncomputable def FX10_way (MO : MoT) (v1 : Int32) (v2 : Int32) : Option (Int32 × MoT) :=
  (FX10_isWorker MO v1).bind fun r1 =>
  if (bI r1) = 0 then (
    some ((-1 : Int32), MO)
  ) else (
    (FX10_isHeldUp MO v1).bind fun r3 =>
    if (bI r3) = 0 then (
      some ((-1 : Int32), MO)
    ) else (
      (FX10_goesWay MO v1).bind fun r5 =>
      if v2 = (-1 : Int32) then (
        some (Mo_wayMany r5, r5)
      ) else (
        (FX10_isIn v2 (0 : Int32) ((Mo_wayMany r5) - (1 : Int32))).bind fun r7 =>
        if (bI r7) = 0 then (
          some ((-1 : Int32), r5)
        ) else (
          ix v2 9 <|
          some (Mo_way r5 (Int32.toNatClampNeg v2), r5)
        )
      )
    )
  )
set_option maxHeartbeats 4000000 in
set_option maxRecDepth 100000 in
theorem ctX10_way {l : Launch} {D : va_G} {k : Nat → ClassId} {Z : ZT} (hZ : ZOK Z) (ot : Nat) (aMO : Nat → Nat) {MO : MoT} {v1 : Int32} {v2 : Int32} {q : Int32 × MoT} (hf : FX10_way MO v1 v2 = some q) :
    CM l D k Z yX10_way cX10_way 3 (some .int) 6 135 [.ref ot, .int v1, .int v2] (some (.int q.1)) (kMo k ot aMO (MO)) (kMo k ot aMO (q.2)) := by
  refine CM.start hZ (by decide) (Nat.le_of_ble_eq_true rfl) ?_
  intro p e s m below meth c ls X hl G
  have hx := X.1
  have hb := X.2.1
  have hl : lv_has ls 3 [(0, .ref ot), (1, .int v1), (2, .int v2)] := hl
  unfold FX10_way at hf
  refine lv_aload_n hx hb dX10_way_0 rfl (lv_at hl 0 rfl) ?_
  refine lv_iload_n hx hb dX10_way_1 rfl (lv_at hl 1 rfl) ?_
  obtain ⟨r1, hcr1, hf⟩ := bd_some hf
  refine p_R (st1 := [.int (bI r1)]) (run_V (rest := []) X (ctX10_isWorker hZ ot aMO hcr1) mk_X10_isWorker ml_X10_155 ⟨(Nat.le_of_ble_eq_true rfl), (Nat.le_of_ble_eq_true rfl)⟩ G [0, 1, 2, 3, 4, 5, 6, 7] rfl rfl 0 rfl rfl rfl hl.1 rfl (Nat.le_of_ble_eq_true rfl) dX10_way_2 ⟨Nat.zero_le _, Nat.zero_le _⟩) rfl ?_
  refine lv_if_eq (tgt := 16) hx hb dX10_way_5 (by decide) (fun c2 => ?_) (fun c2 => ?_)
  · replace hf := if_t hf c2
    refine lv_iconst (v := -1) hx hb dX10_way_16 (by decide) ?_
    cases hf
    exact e_mi X G dX10_way_17
  · replace hf := if_f hf c2
    refine lv_aload_n hx hb dX10_way_8 rfl (lv_at hl 0 rfl) ?_
    refine lv_iload_n hx hb dX10_way_9 rfl (lv_at hl 1 rfl) ?_
    obtain ⟨r3, hcr3, hf⟩ := bd_some hf
    refine p_R (st1 := [.int (bI r3)]) (run_V (rest := []) X (ctX10_isHeldUp hZ ot aMO hcr3) mk_X10_isHeldUp ml_X10_84 ⟨(Nat.le_of_ble_eq_true rfl), (Nat.le_of_ble_eq_true rfl)⟩ G [0, 1, 2, 3, 4, 5, 6, 7] rfl rfl 0 rfl rfl rfl hl.1 rfl (Nat.le_of_ble_eq_true rfl) dX10_way_10 ⟨Nat.zero_le _, Nat.zero_le _⟩) rfl ?_
    refine lv_if_ne (tgt := 18) hx hb dX10_way_13 (by decide) (fun c4 => ?_) (fun c4 => ?_)
    · replace hf := if_f hf c4
      refine lv_aload_n hx hb dX10_way_18 rfl (lv_at hl 0 rfl) ?_
      refine lv_iload_n hx hb dX10_way_19 rfl (lv_at hl 1 rfl) ?_
      obtain ⟨r5, hcr5, hf⟩ := bd_some hf
      refine p_N (st1 := []) (wr := []) (ws' := kMo k ot aMO (r5)) (run_V (rest := []) X (ctX10_goesWay hZ ot aMO hcr5) mk_X10_goesWay ml_X10_177 ⟨(Nat.le_of_ble_eq_true rfl), (Nat.le_of_ble_eq_true rfl)⟩ G [0, 1, 2, 3, 4, 5, 6, 7] rfl rfl 0 rfl rfl rfl hl.1 rfl (Nat.le_of_ble_eq_true rfl) dX10_way_20 ⟨Nat.zero_le _, Nat.zero_le _⟩) rfl G [0, 1, 2, 3, 4, 5, 6, 7] [] 8 rfl rfl rfl rfl rfl (by decide) (by decide) rfl (fun H locs G => ?_)
      refine lv_iload_n hx hb dX10_way_23 rfl (lv_at hl 2 rfl) ?_
      refine lv_iconst (v := -1) hx hb dX10_way_24 (by decide) ?_
      refine lv_icmp_ne (tgt := 35) hx hb dX10_way_25 (by decide) (fun c6 => ?_) (fun c6 => ?_)
      · replace hf := if_f hf c6
        refine lv_iload_n hx hb dX10_way_35 rfl (lv_at hl 2 rfl) ?_
        refine lv_iconst (v := 0) hx hb dX10_way_36 (by decide) ?_
        refine lv_aload_n hx hb dX10_way_37 rfl (lv_at hl 0 rfl) ?_
        refine r_get X inw_X10 G 0 rfl rfl 9 (by decide) fl_X10_171 (v := .int (Mo_wayMany r5)) rfl dX10_way_38 ?_
        refine lv_iconst (v := 1) hx hb dX10_way_41 (by decide) ?_
        refine lv_isub hx hb dX10_way_42 ?_
        obtain ⟨r7, hcr7, hf⟩ := bd_some hf
        refine p_R (st1 := [.int (bI r7)]) (run_S (rest := []) X (ctX10_isIn hZ hcr7) mk_X10_isIn ml_X10_47 ⟨(Nat.le_of_ble_eq_true rfl), (Nat.le_of_ble_eq_true rfl)⟩ G [] rfl rfl rfl hl.1 rfl (Nat.le_of_ble_eq_true rfl) dX10_way_43 ⟨Nat.zero_le _, Nat.zero_le _⟩) rfl ?_
        refine lv_if_eq (tgt := 58) hx hb dX10_way_46 (by decide) (fun c8 => ?_) (fun c8 => ?_)
        · replace hf := if_t hf c8
          refine lv_iconst (v := -1) hx hb dX10_way_58 (by decide) ?_
          cases hf
          exact e_mi X G dX10_way_59
        · replace hf := if_f hf c8
          refine lv_aload_n hx hb dX10_way_49 rfl (lv_at hl 0 rfl) ?_
          refine r_get X inw_X10 G 0 rfl rfl 8 (by decide) fl_X10_24 (v := .ref (aMO 3)) rfl dX10_way_50 ?_
          refine lv_iload_n hx hb dX10_way_53 rfl (lv_at hl 2 rfl) ?_
          obtain ⟨h9, hf⟩ := ix_some hf
          refine r_iald X G 4 rfl h9 dX10_way_54 ?_
          refine lv_goto (tgt := 59) hx hb dX10_way_55 (by decide) ?_
          cases hf
          exact e_mi X G dX10_way_59
      · replace hf := if_t hf c6
        refine lv_aload_n hx hb dX10_way_28 rfl (lv_at hl 0 rfl) ?_
        refine r_get X inw_X10 G 0 rfl rfl 9 (by decide) fl_X10_171 (v := .int (Mo_wayMany r5)) rfl dX10_way_29 ?_
        refine lv_goto (tgt := 59) hx hb dX10_way_32 (by decide) ?_
        cases hf
        exact e_mi X G dX10_way_59
    · replace hf := if_t hf c4
      refine lv_iconst (v := -1) hx hb dX10_way_16 (by decide) ?_
      cases hf
      exact e_mi X G dX10_way_17
theorem mk_X10_way : MV yX10_way cX10_way 3 (some .int) 2 := ⟨co_X10_way, in_X10, im_X10_way, se_X10_way, by decide +kernel, by decide +kernel⟩
noncomputable def FX10_ring (MO : MoT) (v1 : Int32) : Option (Int32 × MoT) :=
  (FX10_isWorker MO v1).bind fun r1 =>
  if (bI r1) = 0 then (
    some ((-1 : Int32), MO)
  ) else (
    (FX10_isHeldUp MO v1).bind fun r3 =>
    if (bI r3) = 0 then (
      some ((-1 : Int32), MO)
    ) else (
      (FX10_goesWay MO v1).bind fun r5 =>
      if (Mo_ringFrom r5) = (-1 : Int32) then (
        some ((0 : Int32), r5)
      ) else (
        some ((Mo_wayMany r5) - (Mo_ringFrom r5), r5)
      )
    )
  )
set_option maxHeartbeats 4000000 in
set_option maxRecDepth 100000 in
theorem ctX10_ring {l : Launch} {D : va_G} {k : Nat → ClassId} {Z : ZT} (hZ : ZOK Z) (ot : Nat) (aMO : Nat → Nat) {MO : MoT} {v1 : Int32} {q : Int32 × MoT} (hf : FX10_ring MO v1 = some q) :
    CM l D k Z yX10_ring cX10_ring 2 (some .int) 6 135 [.ref ot, .int v1] (some (.int q.1)) (kMo k ot aMO (MO)) (kMo k ot aMO (q.2)) := by
  refine CM.start hZ (by decide) (Nat.le_of_ble_eq_true rfl) ?_
  intro p e s m below meth c ls X hl G
  have hx := X.1
  have hb := X.2.1
  have hl : lv_has ls 2 [(0, .ref ot), (1, .int v1)] := hl
  unfold FX10_ring at hf
  refine lv_aload_n hx hb dX10_ring_0 rfl (lv_at hl 0 rfl) ?_
  refine lv_iload_n hx hb dX10_ring_1 rfl (lv_at hl 1 rfl) ?_
  obtain ⟨r1, hcr1, hf⟩ := bd_some hf
  refine p_R (st1 := [.int (bI r1)]) (run_V (rest := []) X (ctX10_isWorker hZ ot aMO hcr1) mk_X10_isWorker ml_X10_155 ⟨(Nat.le_of_ble_eq_true rfl), (Nat.le_of_ble_eq_true rfl)⟩ G [0, 1, 2, 3, 4, 5, 6, 7] rfl rfl 0 rfl rfl rfl hl.1 rfl (Nat.le_of_ble_eq_true rfl) dX10_ring_2 ⟨Nat.zero_le _, Nat.zero_le _⟩) rfl ?_
  refine lv_if_eq (tgt := 16) hx hb dX10_ring_5 (by decide) (fun c2 => ?_) (fun c2 => ?_)
  · replace hf := if_t hf c2
    refine lv_iconst (v := -1) hx hb dX10_ring_16 (by decide) ?_
    cases hf
    exact e_mi X G dX10_ring_17
  · replace hf := if_f hf c2
    refine lv_aload_n hx hb dX10_ring_8 rfl (lv_at hl 0 rfl) ?_
    refine lv_iload_n hx hb dX10_ring_9 rfl (lv_at hl 1 rfl) ?_
    obtain ⟨r3, hcr3, hf⟩ := bd_some hf
    refine p_R (st1 := [.int (bI r3)]) (run_V (rest := []) X (ctX10_isHeldUp hZ ot aMO hcr3) mk_X10_isHeldUp ml_X10_84 ⟨(Nat.le_of_ble_eq_true rfl), (Nat.le_of_ble_eq_true rfl)⟩ G [0, 1, 2, 3, 4, 5, 6, 7] rfl rfl 0 rfl rfl rfl hl.1 rfl (Nat.le_of_ble_eq_true rfl) dX10_ring_10 ⟨Nat.zero_le _, Nat.zero_le _⟩) rfl ?_
    refine lv_if_ne (tgt := 18) hx hb dX10_ring_13 (by decide) (fun c4 => ?_) (fun c4 => ?_)
    · replace hf := if_f hf c4
      refine lv_aload_n hx hb dX10_ring_18 rfl (lv_at hl 0 rfl) ?_
      refine lv_iload_n hx hb dX10_ring_19 rfl (lv_at hl 1 rfl) ?_
      obtain ⟨r5, hcr5, hf⟩ := bd_some hf
      refine p_N (st1 := []) (wr := []) (ws' := kMo k ot aMO (r5)) (run_V (rest := []) X (ctX10_goesWay hZ ot aMO hcr5) mk_X10_goesWay ml_X10_177 ⟨(Nat.le_of_ble_eq_true rfl), (Nat.le_of_ble_eq_true rfl)⟩ G [0, 1, 2, 3, 4, 5, 6, 7] rfl rfl 0 rfl rfl rfl hl.1 rfl (Nat.le_of_ble_eq_true rfl) dX10_ring_20 ⟨Nat.zero_le _, Nat.zero_le _⟩) rfl G [0, 1, 2, 3, 4, 5, 6, 7] [] 8 rfl rfl rfl rfl rfl (by decide) (by decide) rfl (fun H locs G => ?_)
      refine lv_aload_n hx hb dX10_ring_23 rfl (lv_at hl 0 rfl) ?_
      refine r_get X inw_X10 G 0 rfl rfl 10 (by decide) fl_X10_174 (v := .int (Mo_ringFrom r5)) rfl dX10_ring_24 ?_
      refine lv_iconst (v := -1) hx hb dX10_ring_27 (by decide) ?_
      refine lv_icmp_ne (tgt := 35) hx hb dX10_ring_28 (by decide) (fun c6 => ?_) (fun c6 => ?_)
      · replace hf := if_f hf c6
        refine lv_aload_n hx hb dX10_ring_35 rfl (lv_at hl 0 rfl) ?_
        refine r_get X inw_X10 G 0 rfl rfl 9 (by decide) fl_X10_171 (v := .int (Mo_wayMany r5)) rfl dX10_ring_36 ?_
        refine lv_aload_n hx hb dX10_ring_39 rfl (lv_at hl 0 rfl) ?_
        refine r_get X inw_X10 G 0 rfl rfl 10 (by decide) fl_X10_174 (v := .int (Mo_ringFrom r5)) rfl dX10_ring_40 ?_
        refine lv_isub hx hb dX10_ring_43 ?_
        cases hf
        exact e_mi X G dX10_ring_44
      · replace hf := if_t hf c6
        refine lv_iconst (v := 0) hx hb dX10_ring_31 (by decide) ?_
        refine lv_goto (tgt := 44) hx hb dX10_ring_32 (by decide) ?_
        cases hf
        exact e_mi X G dX10_ring_44
    · replace hf := if_t hf c4
      refine lv_iconst (v := -1) hx hb dX10_ring_16 (by decide) ?_
      cases hf
      exact e_mi X G dX10_ring_17
theorem mk_X10_ring : MV yX10_ring cX10_ring 2 (some .int) 1 := ⟨co_X10_ring, in_X10, im_X10_ring, se_X10_ring, by decide +kernel, by decide +kernel⟩
noncomputable def FX10_stall (MO : MoT) (v1 : Int32) (v2 : Int32) : Option (Int32) :=
  ix (322 : Int32) 9519 <|
  (FX10_isIn v1 (0 : Int32) ((Mo_all MO (Int32.toNatClampNeg (322 : Int32))) - (1 : Int32))).bind fun r2 =>
  if (bI r2) = 0 then (
    some (-1 : Int32)
  ) else (
    (FX10_isIn v2 (0 : Int32) (4 : Int32)).bind fun r4 =>
    if (bI r4) = 0 then (
      some (-1 : Int32)
    ) else (
      nm (((324 : Int32) + ((5 : Int32) * v1)) + v2) fun x6 =>
      ix x6 9519 <|
      some (Mo_all MO (Int32.toNatClampNeg x6))
    )
  )
set_option maxHeartbeats 4000000 in
set_option maxRecDepth 100000 in
theorem ctX10_stall {l : Launch} {D : va_G} {k : Nat → ClassId} {Z : ZT} (hZ : ZOK Z) (ot : Nat) (aMO : Nat → Nat) {MO : MoT} {v1 : Int32} {v2 : Int32} {q : Int32} (hf : FX10_stall MO v1 v2 = some q) :
    CR l D k Z yX10_stall cX10_stall 3 (some .int) 1 22 [.ref ot, .int v1, .int v2] (some (.int q)) (kMo k ot aMO (MO)) := by
  refine CR.start hZ (by decide) (Nat.le_of_ble_eq_true rfl) ?_
  intro p e s m below meth c ls X hl G
  have hx := X.1
  have hb := X.2.1
  have hl : lv_has ls 3 [(0, .ref ot), (1, .int v1), (2, .int v2)] := hl
  unfold FX10_stall at hf
  refine lv_iload_n hx hb dX10_stall_0 rfl (lv_at hl 1 rfl) ?_
  refine lv_iconst (v := 0) hx hb dX10_stall_1 (by decide) ?_
  refine lv_aload_n hx hb dX10_stall_2 rfl (lv_at hl 0 rfl) ?_
  refine r_get X inw_X10 G 0 rfl rfl 0 (by decide) fl_X10_7 (v := .ref (aMO 0)) rfl dX10_stall_3 ?_
  refine lv_sipush (v := 322) hx hb dX10_stall_6 (by decide) ?_
  obtain ⟨h1, hf⟩ := ix_some hf
  refine r_iald X G 1 rfl h1 dX10_stall_9 ?_
  refine lv_iconst (v := 1) hx hb dX10_stall_10 (by decide) ?_
  refine lv_isub hx hb dX10_stall_11 ?_
  obtain ⟨r2, hcr2, hf⟩ := bd_some hf
  refine p_R (st1 := [.int (bI r2)]) (run_S (rest := []) X (ctX10_isIn hZ hcr2) mk_X10_isIn ml_X10_47 ⟨(Nat.le_of_ble_eq_true rfl), (Nat.le_of_ble_eq_true rfl)⟩ G [] rfl rfl rfl hl.1 rfl (Nat.le_of_ble_eq_true rfl) dX10_stall_12 ⟨Nat.zero_le _, Nat.zero_le _⟩) rfl ?_
  refine lv_if_eq (tgt := 44) hx hb dX10_stall_15 (by decide) (fun c3 => ?_) (fun c3 => ?_)
  · replace hf := if_t hf c3
    refine lv_iconst (v := -1) hx hb dX10_stall_44 (by decide) ?_
    cases hf
    exact e_ri X dX10_stall_45
  · replace hf := if_f hf c3
    refine lv_iload_n hx hb dX10_stall_18 rfl (lv_at hl 2 rfl) ?_
    refine lv_iconst (v := 0) hx hb dX10_stall_19 (by decide) ?_
    refine lv_iconst (v := 4) hx hb dX10_stall_20 (by decide) ?_
    obtain ⟨r4, hcr4, hf⟩ := bd_some hf
    refine p_R (st1 := [.int (bI r4)]) (run_S (rest := []) X (ctX10_isIn hZ hcr4) mk_X10_isIn ml_X10_47 ⟨(Nat.le_of_ble_eq_true rfl), (Nat.le_of_ble_eq_true rfl)⟩ G [] rfl rfl rfl hl.1 rfl (Nat.le_of_ble_eq_true rfl) dX10_stall_21 ⟨Nat.zero_le _, Nat.zero_le _⟩) rfl ?_
    refine lv_if_eq (tgt := 44) hx hb dX10_stall_24 (by decide) (fun c5 => ?_) (fun c5 => ?_)
    · replace hf := if_t hf c5
      refine lv_iconst (v := -1) hx hb dX10_stall_44 (by decide) ?_
      cases hf
      exact e_ri X dX10_stall_45
    · replace hf := if_f hf c5
      refine lv_aload_n hx hb dX10_stall_27 rfl (lv_at hl 0 rfl) ?_
      refine r_get X inw_X10 G 0 rfl rfl 0 (by decide) fl_X10_7 (v := .ref (aMO 0)) rfl dX10_stall_28 ?_
      refine lv_sipush (v := 324) hx hb dX10_stall_31 (by decide) ?_
      refine lv_iconst (v := 5) hx hb dX10_stall_34 (by decide) ?_
      refine lv_iload_n hx hb dX10_stall_35 rfl (lv_at hl 1 rfl) ?_
      refine lv_imul hx hb dX10_stall_36 ?_
      refine lv_iadd hx hb dX10_stall_37 ?_
      refine lv_iload_n hx hb dX10_stall_38 rfl (lv_at hl 2 rfl) ?_
      refine lv_iadd hx hb dX10_stall_39 ?_
      obtain ⟨x6, ex6, hf⟩ := nm_some hf
      refine r_top (congrArg Value.int ex6) ?_
      obtain ⟨h7, hf⟩ := ix_some hf
      refine r_iald X G 1 rfl h7 dX10_stall_40 ?_
      refine lv_goto (tgt := 45) hx hb dX10_stall_41 (by decide) ?_
      cases hf
      exact e_ri X dX10_stall_45
theorem mk_X10_stall : MV yX10_stall cX10_stall 3 (some .int) 2 := ⟨co_X10_stall, in_X10, im_X10_stall, se_X10_stall, by decide +kernel, by decide +kernel⟩
noncomputable def FX10_freed (MO : MoT) (v1 : Int32) : Option (Int32 × MoT) :=
  (FX10_isWorker MO v1).bind fun r1 =>
  if (bI r1) = 0 then (
    some ((-1 : Int32), MO)
  ) else (
    (FX10_isHeldUp MO v1).bind fun r3 =>
    if (bI r3) = 0 then (
      some ((-1 : Int32), MO)
    ) else (
      (FX10_hard MO).bind fun r5 =>
      (FX10_freedBy MO v1 r5).bind fun r6 =>
      some (r6.1, r6.2)
    )
  )
set_option maxHeartbeats 4000000 in
set_option maxRecDepth 100000 in
theorem ctX10_freed {l : Launch} {D : va_G} {k : Nat → ClassId} {Z : ZT} (hZ : ZOK Z) (ot : Nat) (aMO : Nat → Nat) {MO : MoT} {v1 : Int32} {q : Int32 × MoT} (hf : FX10_freed MO v1 = some q) :
    CM l D k Z yX10_freed cX10_freed 2 (some .int) 8 180 [.ref ot, .int v1] (some (.int q.1)) (kMo k ot aMO (MO)) (kMo k ot aMO (q.2)) := by
  refine CM.start hZ (by decide) (Nat.le_of_ble_eq_true rfl) ?_
  intro p e s m below meth c ls X hl G
  have hx := X.1
  have hb := X.2.1
  have hl : lv_has ls 2 [(0, .ref ot), (1, .int v1)] := hl
  unfold FX10_freed at hf
  refine lv_aload_n hx hb dX10_freed_0 rfl (lv_at hl 0 rfl) ?_
  refine lv_iload_n hx hb dX10_freed_1 rfl (lv_at hl 1 rfl) ?_
  obtain ⟨r1, hcr1, hf⟩ := bd_some hf
  refine p_R (st1 := [.int (bI r1)]) (run_V (rest := []) X (ctX10_isWorker hZ ot aMO hcr1) mk_X10_isWorker ml_X10_155 ⟨(Nat.le_of_ble_eq_true rfl), (Nat.le_of_ble_eq_true rfl)⟩ G [0, 1, 2, 3, 4, 5, 6, 7] rfl rfl 0 rfl rfl rfl hl.1 rfl (Nat.le_of_ble_eq_true rfl) dX10_freed_2 ⟨Nat.zero_le _, Nat.zero_le _⟩) rfl ?_
  refine lv_if_eq (tgt := 28) hx hb dX10_freed_5 (by decide) (fun c2 => ?_) (fun c2 => ?_)
  · replace hf := if_t hf c2
    refine lv_iconst (v := -1) hx hb dX10_freed_28 (by decide) ?_
    cases hf
    exact e_mi X G dX10_freed_29
  · replace hf := if_f hf c2
    refine lv_aload_n hx hb dX10_freed_8 rfl (lv_at hl 0 rfl) ?_
    refine lv_iload_n hx hb dX10_freed_9 rfl (lv_at hl 1 rfl) ?_
    obtain ⟨r3, hcr3, hf⟩ := bd_some hf
    refine p_R (st1 := [.int (bI r3)]) (run_V (rest := []) X (ctX10_isHeldUp hZ ot aMO hcr3) mk_X10_isHeldUp ml_X10_84 ⟨(Nat.le_of_ble_eq_true rfl), (Nat.le_of_ble_eq_true rfl)⟩ G [0, 1, 2, 3, 4, 5, 6, 7] rfl rfl 0 rfl rfl rfl hl.1 rfl (Nat.le_of_ble_eq_true rfl) dX10_freed_10 ⟨Nat.zero_le _, Nat.zero_le _⟩) rfl ?_
    refine lv_if_eq (tgt := 28) hx hb dX10_freed_13 (by decide) (fun c4 => ?_) (fun c4 => ?_)
    · replace hf := if_t hf c4
      refine lv_iconst (v := -1) hx hb dX10_freed_28 (by decide) ?_
      cases hf
      exact e_mi X G dX10_freed_29
    · replace hf := if_f hf c4
      refine lv_aload_n hx hb dX10_freed_16 rfl (lv_at hl 0 rfl) ?_
      refine lv_iload_n hx hb dX10_freed_17 rfl (lv_at hl 1 rfl) ?_
      refine lv_aload_n hx hb dX10_freed_18 rfl (lv_at hl 0 rfl) ?_
      obtain ⟨r5, hcr5, hf⟩ := bd_some hf
      refine p_R (st1 := [.int r5, .int v1, .ref ot]) (run_V (rest := [.int v1, .ref ot]) X (ctX10_hard hZ ot aMO hcr5) mk_X10_hard ml_X10_110 ⟨(Nat.le_of_ble_eq_true rfl), (Nat.le_of_ble_eq_true rfl)⟩ G [0, 1, 2, 3, 4, 5, 6, 7] rfl rfl 0 rfl rfl rfl hl.1 rfl (Nat.le_of_ble_eq_true rfl) dX10_freed_19 ⟨Nat.zero_le _, Nat.zero_le _⟩) rfl ?_
      obtain ⟨r6, hcr6, hf⟩ := bd_some hf
      refine p_N (st1 := [.int (r6.1)]) (wr := []) (ws' := kMo k ot aMO (r6.2)) (run_V (rest := []) X (ctX10_freedBy hZ ot aMO hcr6) mk_X10_freedBy ml_X10_116 ⟨(Nat.le_of_ble_eq_true rfl), (Nat.le_of_ble_eq_true rfl)⟩ G [0, 1, 2, 3, 4, 5, 6, 7] rfl rfl 0 rfl rfl rfl hl.1 rfl (Nat.le_of_ble_eq_true rfl) dX10_freed_22 ⟨Nat.zero_le _, Nat.zero_le _⟩) rfl G [0, 1, 2, 3, 4, 5, 6, 7] [] 8 rfl rfl rfl rfl rfl (by decide) (by decide) rfl (fun H locs G => ?_)
      refine lv_goto (tgt := 29) hx hb dX10_freed_25 (by decide) ?_
      cases hf
      exact e_mi X G dX10_freed_29
theorem mk_X10_freed : MV yX10_freed cX10_freed 2 (some .int) 1 := ⟨co_X10_freed, in_X10, im_X10_freed, se_X10_freed, by decide +kernel, by decide +kernel⟩
noncomputable def FX10_laysAside (MO : MoT) : Option (MoT) :=
  (FX10_copies MO (0 : Int32) (474 : Int32) (474 : Int32)).bind fun r1 =>
  nm (sMo_b r1 (474 : Int32)) fun MO2 =>
  some MO2
set_option maxHeartbeats 4000000 in
set_option maxRecDepth 100000 in
theorem ctX10_laysAside {l : Launch} {D : va_G} {k : Nat → ClassId} {Z : ZT} (hZ : ZOK Z) (ot : Nat) (aMO : Nat → Nat) {MO : MoT} {q : MoT} (hf : FX10_laysAside MO = some q) :
    CM l D k Z yX10_laysAside cX10_laysAside 1 none 1 24 [.ref ot] none (kMo k ot aMO (MO)) (kMo k ot aMO (q)) := by
  refine CM.start hZ (by decide) (Nat.le_of_ble_eq_true rfl) ?_
  intro p e s m below meth c ls X hl G
  have hx := X.1
  have hb := X.2.1
  have hl : lv_has ls 1 [(0, .ref ot)] := hl
  unfold FX10_laysAside at hf
  refine lv_aload_n hx hb dX10_laysAside_0 rfl (lv_at hl 0 rfl) ?_
  refine lv_iconst (v := 0) hx hb dX10_laysAside_1 (by decide) ?_
  refine lv_sipush (v := 474) hx hb dX10_laysAside_2 (by decide) ?_
  refine lv_sipush (v := 474) hx hb dX10_laysAside_5 (by decide) ?_
  obtain ⟨r1, hcr1, hf⟩ := bd_some hf
  refine p_N (st1 := []) (wr := []) (ws' := kMo k ot aMO (r1)) (run_V (rest := []) X (ctX10_copies hZ ot aMO hcr1) mk_X10_copies ml_X10_103 ⟨(Nat.le_of_ble_eq_true rfl), (Nat.le_of_ble_eq_true rfl)⟩ G [0, 1, 2, 3, 4, 5, 6, 7] rfl rfl 0 rfl rfl rfl hl.1 rfl (Nat.le_of_ble_eq_true rfl) dX10_laysAside_8 ⟨Nat.zero_le _, Nat.zero_le _⟩) rfl G [0, 1, 2, 3, 4, 5, 6, 7] [] 8 rfl rfl rfl rfl rfl (by decide) (by decide) rfl (fun H locs G => ?_)
  refine lv_aload_n hx hb dX10_laysAside_11 rfl (lv_at hl 0 rfl) ?_
  refine lv_sipush (v := 474) hx hb dX10_laysAside_12 (by decide) ?_
  obtain ⟨MO2, eMO2, hf⟩ := nm_some hf
  refine r_put X inw_X10 tyX10 tyX10_ok nmX10 G 0 rfl rfl 7 (by decide) fl_X10_40 rfl rfl rfl (Nat.le_of_ble_eq_true rfl) (ws' := kMo k ot aMO (MO2)) (by subst eMO2; rfl) dX10_laysAside_15 (fun H locs G => ?_)
  cases hf
  exact e_mv X G dX10_laysAside_18
theorem mk_X10_laysAside : MV yX10_laysAside cX10_laysAside 1 none 0 := ⟨co_X10_laysAside, in_X10, im_X10_laysAside, se_X10_laysAside, by decide +kernel, by decide +kernel⟩
noncomputable def FX10_later (MO : MoT) (v1 : Int32) (v2 : Int32) : Option (Int32 × MoT) :=
  (FX10_isIn v1 (0 : Int32) (200 : Int32)).bind fun r1 =>
  if (bI r1) = 0 then (
    some ((-1 : Int32), MO)
  ) else (
    if v2 = (1 : Int32) then (
      (FX10_laysAside MO).bind fun r4 =>
      (FX10_ticksOf r4 v1).bind fun r5 =>
      if v2 = (1 : Int32) then (
        (FX10_ended r5.2).bind fun r9 =>
        nm (sMo_b r5.2 (0 : Int32)) fun MO10 =>
        some (r9, MO10)
      ) else (
        (FX10_counted r5.2 v2).bind fun r7 =>
        nm (sMo_b r5.2 (0 : Int32)) fun MO8 =>
        some (r7, MO8)
      )
    ) else (
      (FX10_isIn v2 (5 : Int32) (9 : Int32)).bind fun r11 =>
      if (bI r11) = 0 then (
        some ((-1 : Int32), MO)
      ) else (
        (FX10_laysAside MO).bind fun r13 =>
        (FX10_ticksOf r13 v1).bind fun r14 =>
        if v2 = (1 : Int32) then (
          (FX10_ended r14.2).bind fun r18 =>
          nm (sMo_b r14.2 (0 : Int32)) fun MO19 =>
          some (r18, MO19)
        ) else (
          (FX10_counted r14.2 v2).bind fun r16 =>
          nm (sMo_b r14.2 (0 : Int32)) fun MO17 =>
          some (r16, MO17)
        )
      )
    )
  )
set_option maxHeartbeats 4000000 in
set_option maxRecDepth 100000 in
theorem ctX10_later {l : Launch} {D : va_G} {k : Nat → ClassId} {Z : ZT} (hZ : ZOK Z) (ot : Nat) (aMO : Nat → Nat) {MO : MoT} {v1 : Int32} {v2 : Int32} {q : Int32 × MoT} (hf : FX10_later MO v1 v2 = some q) :
    CM l D k Z yX10_later cX10_later 5 (some .int) 12 276 [.ref ot, .int v1, .int v2] (some (.int q.1)) (kMo k ot aMO (MO)) (kMo k ot aMO (q.2)) := by
  refine CM.start hZ (by decide) (Nat.le_of_ble_eq_true rfl) ?_
  intro p e s m below meth c ls X hl G
  have hx := X.1
  have hb := X.2.1
  have hl : lv_has ls 5 [(0, .ref ot), (1, .int v1), (2, .int v2)] := hl
  unfold FX10_later at hf
  refine lv_iload_n hx hb dX10_later_0 rfl (lv_at hl 1 rfl) ?_
  refine lv_iconst (v := 0) hx hb dX10_later_1 (by decide) ?_
  refine lv_sipush (v := 200) hx hb dX10_later_2 (by decide) ?_
  obtain ⟨r1, hcr1, hf⟩ := bd_some hf
  refine p_R (st1 := [.int (bI r1)]) (run_S (rest := []) X (ctX10_isIn hZ hcr1) mk_X10_isIn ml_X10_47 ⟨(Nat.le_of_ble_eq_true rfl), (Nat.le_of_ble_eq_true rfl)⟩ G [] rfl rfl rfl hl.1 rfl (Nat.le_of_ble_eq_true rfl) dX10_later_5 ⟨Nat.zero_le _, Nat.zero_le _⟩) rfl ?_
  refine lv_if_eq (tgt := 26) hx hb dX10_later_8 (by decide) (fun c2 => ?_) (fun c2 => ?_)
  · replace hf := if_t hf c2
    refine lv_iconst (v := -1) hx hb dX10_later_26 (by decide) ?_
    cases hf
    exact e_mi X G dX10_later_27
  · replace hf := if_f hf c2
    refine lv_iload_n hx hb dX10_later_11 rfl (lv_at hl 2 rfl) ?_
    refine lv_iconst (v := 1) hx hb dX10_later_12 (by decide) ?_
    refine lv_icmp_eq (tgt := 28) hx hb dX10_later_13 (by decide) (fun c3 => ?_) (fun c3 => ?_)
    · replace hf := if_t hf c3
      refine lv_aload_n hx hb dX10_later_28 rfl (lv_at hl 0 rfl) ?_
      obtain ⟨r4, hcr4, hf⟩ := bd_some hf
      refine p_N (st1 := []) (wr := []) (ws' := kMo k ot aMO (r4)) (run_V (rest := []) X (ctX10_laysAside hZ ot aMO hcr4) mk_X10_laysAside ml_X10_180 ⟨(Nat.le_of_ble_eq_true rfl), (Nat.le_of_ble_eq_true rfl)⟩ G [0, 1, 2, 3, 4, 5, 6, 7] rfl rfl 0 rfl rfl rfl hl.1 rfl (Nat.le_of_ble_eq_true rfl) dX10_later_29 ⟨Nat.zero_le _, Nat.zero_le _⟩) rfl G [0, 1, 2, 3, 4, 5, 6, 7] [] 8 rfl rfl rfl rfl rfl (by decide) (by decide) rfl (fun H locs G => ?_)
      refine lv_aload_n hx hb dX10_later_32 rfl (lv_at hl 0 rfl) ?_
      refine lv_iload_n hx hb dX10_later_33 rfl (lv_at hl 1 rfl) ?_
      obtain ⟨r5, hcr5, hf⟩ := bd_some hf
      refine p_N (st1 := [.int (r5.1)]) (wr := []) (ws' := kMo k ot aMO (r5.2)) (run_V (rest := []) X (ctX10_ticksOf hZ ot aMO hcr5) mk_X10_ticksOf ml_X10_149 ⟨(Nat.le_of_ble_eq_true rfl), (Nat.le_of_ble_eq_true rfl)⟩ G [0, 1, 2, 3, 4, 5, 6, 7] rfl rfl 0 rfl rfl rfl hl.1 rfl (Nat.le_of_ble_eq_true rfl) dX10_later_34 ⟨Nat.zero_le _, Nat.zero_le _⟩) rfl G [0, 1, 2, 3, 4, 5, 6, 7] [] 8 rfl rfl rfl rfl rfl (by decide) (by decide) rfl (fun H locs G => ?_)
      refine lv_istore_n (lv' := [(3, .int (r5.1)), (0, .ref ot), (1, .int v1), (2, .int v2)]) hx hb dX10_later_37 rfl hl (by decide) rfl (fun ls hl => ?_)
      refine lv_iload_n hx hb dX10_later_38 rfl (lv_at hl 3 rfl) ?_
      refine lv_iconst (v := 1) hx hb dX10_later_39 (by decide) ?_
      refine lv_icmp_ne (tgt := 50) hx hb dX10_later_40 (by decide) (fun c6 => ?_) (fun c6 => ?_)
      · replace hf := if_f hf c6
        refine lv_aload_n hx hb dX10_later_50 rfl (lv_at hl 1 rfl) ?_
        refine lv_iload_n hx hb dX10_later_51 rfl (lv_at hl 3 rfl) ?_
        obtain ⟨r7, hcr7, hf⟩ := bd_some hf
        refine p_R (st1 := [.int r7]) (run_V (rest := []) X (ctX10_counted hZ ot aMO hcr7) mk_X10_counted ml_X10_161 ⟨(Nat.le_of_ble_eq_true rfl), (Nat.le_of_ble_eq_true rfl)⟩ G [0, 1, 2, 3, 4, 5, 6, 7] rfl rfl 0 rfl rfl rfl hl.1 rfl (Nat.le_of_ble_eq_true rfl) dX10_later_52 ⟨Nat.zero_le _, Nat.zero_le _⟩) rfl ?_
        refine lv_istore (lv' := [(4, .int r7), (3, .int (r5.1)), (0, .ref ot), (1, .int v1), (2, .int v2)]) hx hb dX10_later_55 hl (by decide) rfl (fun ls hl => ?_)
        refine lv_aload_n hx hb dX10_later_57 rfl (lv_at hl 2 rfl) ?_
        refine lv_iconst (v := 0) hx hb dX10_later_58 (by decide) ?_
        obtain ⟨MO8, eMO8, hf⟩ := nm_some hf
        refine r_put X inw_X10 tyX10 tyX10_ok nmX10 G 0 rfl rfl 7 (by decide) fl_X10_40 rfl rfl rfl (Nat.le_of_ble_eq_true rfl) (ws' := kMo k ot aMO (MO8)) (by subst eMO8; rfl) dX10_later_59 (fun H locs G => ?_)
        refine lv_iload hx hb dX10_later_62 (lv_at hl 0 rfl) ?_
        cases hf
        exact e_mi X G dX10_later_64
      · replace hf := if_t hf c6
        refine lv_aload_n hx hb dX10_later_43 rfl (lv_at hl 1 rfl) ?_
        obtain ⟨r9, hcr9, hf⟩ := bd_some hf
        refine p_R (st1 := [.int r9]) (run_V (rest := []) X (ctX10_ended hZ ot aMO hcr9) mk_X10_ended ml_X10_152 ⟨(Nat.le_of_ble_eq_true rfl), (Nat.le_of_ble_eq_true rfl)⟩ G [0, 1, 2, 3, 4, 5, 6, 7] rfl rfl 0 rfl rfl rfl hl.1 rfl (Nat.le_of_ble_eq_true rfl) dX10_later_44 ⟨Nat.zero_le _, Nat.zero_le _⟩) rfl ?_
        refine lv_goto (tgt := 55) hx hb dX10_later_47 (by decide) ?_
        refine lv_istore (lv' := [(4, .int r9), (3, .int (r5.1)), (0, .ref ot), (1, .int v1), (2, .int v2)]) hx hb dX10_later_55 hl (by decide) rfl (fun ls hl => ?_)
        refine lv_aload_n hx hb dX10_later_57 rfl (lv_at hl 2 rfl) ?_
        refine lv_iconst (v := 0) hx hb dX10_later_58 (by decide) ?_
        obtain ⟨MO10, eMO10, hf⟩ := nm_some hf
        refine r_put X inw_X10 tyX10 tyX10_ok nmX10 G 0 rfl rfl 7 (by decide) fl_X10_40 rfl rfl rfl (Nat.le_of_ble_eq_true rfl) (ws' := kMo k ot aMO (MO10)) (by subst eMO10; rfl) dX10_later_59 (fun H locs G => ?_)
        refine lv_iload hx hb dX10_later_62 (lv_at hl 0 rfl) ?_
        cases hf
        exact e_mi X G dX10_later_64
    · replace hf := if_f hf c3
      refine lv_iload_n hx hb dX10_later_16 rfl (lv_at hl 2 rfl) ?_
      refine lv_iconst (v := 5) hx hb dX10_later_17 (by decide) ?_
      refine lv_bipush (v := 9) hx hb dX10_later_18 (by decide) ?_
      obtain ⟨r11, hcr11, hf⟩ := bd_some hf
      refine p_R (st1 := [.int (bI r11)]) (run_S (rest := []) X (ctX10_isIn hZ hcr11) mk_X10_isIn ml_X10_47 ⟨(Nat.le_of_ble_eq_true rfl), (Nat.le_of_ble_eq_true rfl)⟩ G [] rfl rfl rfl hl.1 rfl (Nat.le_of_ble_eq_true rfl) dX10_later_20 ⟨Nat.zero_le _, Nat.zero_le _⟩) rfl ?_
      refine lv_if_ne (tgt := 28) hx hb dX10_later_23 (by decide) (fun c12 => ?_) (fun c12 => ?_)
      · replace hf := if_f hf c12
        refine lv_aload_n hx hb dX10_later_28 rfl (lv_at hl 0 rfl) ?_
        obtain ⟨r13, hcr13, hf⟩ := bd_some hf
        refine p_N (st1 := []) (wr := []) (ws' := kMo k ot aMO (r13)) (run_V (rest := []) X (ctX10_laysAside hZ ot aMO hcr13) mk_X10_laysAside ml_X10_180 ⟨(Nat.le_of_ble_eq_true rfl), (Nat.le_of_ble_eq_true rfl)⟩ G [0, 1, 2, 3, 4, 5, 6, 7] rfl rfl 0 rfl rfl rfl hl.1 rfl (Nat.le_of_ble_eq_true rfl) dX10_later_29 ⟨Nat.zero_le _, Nat.zero_le _⟩) rfl G [0, 1, 2, 3, 4, 5, 6, 7] [] 8 rfl rfl rfl rfl rfl (by decide) (by decide) rfl (fun H locs G => ?_)
        refine lv_aload_n hx hb dX10_later_32 rfl (lv_at hl 0 rfl) ?_
        refine lv_iload_n hx hb dX10_later_33 rfl (lv_at hl 1 rfl) ?_
        obtain ⟨r14, hcr14, hf⟩ := bd_some hf
        refine p_N (st1 := [.int (r14.1)]) (wr := []) (ws' := kMo k ot aMO (r14.2)) (run_V (rest := []) X (ctX10_ticksOf hZ ot aMO hcr14) mk_X10_ticksOf ml_X10_149 ⟨(Nat.le_of_ble_eq_true rfl), (Nat.le_of_ble_eq_true rfl)⟩ G [0, 1, 2, 3, 4, 5, 6, 7] rfl rfl 0 rfl rfl rfl hl.1 rfl (Nat.le_of_ble_eq_true rfl) dX10_later_34 ⟨Nat.zero_le _, Nat.zero_le _⟩) rfl G [0, 1, 2, 3, 4, 5, 6, 7] [] 8 rfl rfl rfl rfl rfl (by decide) (by decide) rfl (fun H locs G => ?_)
        refine lv_istore_n (lv' := [(3, .int (r14.1)), (0, .ref ot), (1, .int v1), (2, .int v2)]) hx hb dX10_later_37 rfl hl (by decide) rfl (fun ls hl => ?_)
        refine lv_iload_n hx hb dX10_later_38 rfl (lv_at hl 3 rfl) ?_
        refine lv_iconst (v := 1) hx hb dX10_later_39 (by decide) ?_
        refine lv_icmp_ne (tgt := 50) hx hb dX10_later_40 (by decide) (fun c15 => ?_) (fun c15 => ?_)
        · replace hf := if_f hf c15
          refine lv_aload_n hx hb dX10_later_50 rfl (lv_at hl 1 rfl) ?_
          refine lv_iload_n hx hb dX10_later_51 rfl (lv_at hl 3 rfl) ?_
          obtain ⟨r16, hcr16, hf⟩ := bd_some hf
          refine p_R (st1 := [.int r16]) (run_V (rest := []) X (ctX10_counted hZ ot aMO hcr16) mk_X10_counted ml_X10_161 ⟨(Nat.le_of_ble_eq_true rfl), (Nat.le_of_ble_eq_true rfl)⟩ G [0, 1, 2, 3, 4, 5, 6, 7] rfl rfl 0 rfl rfl rfl hl.1 rfl (Nat.le_of_ble_eq_true rfl) dX10_later_52 ⟨Nat.zero_le _, Nat.zero_le _⟩) rfl ?_
          refine lv_istore (lv' := [(4, .int r16), (3, .int (r14.1)), (0, .ref ot), (1, .int v1), (2, .int v2)]) hx hb dX10_later_55 hl (by decide) rfl (fun ls hl => ?_)
          refine lv_aload_n hx hb dX10_later_57 rfl (lv_at hl 2 rfl) ?_
          refine lv_iconst (v := 0) hx hb dX10_later_58 (by decide) ?_
          obtain ⟨MO17, eMO17, hf⟩ := nm_some hf
          refine r_put X inw_X10 tyX10 tyX10_ok nmX10 G 0 rfl rfl 7 (by decide) fl_X10_40 rfl rfl rfl (Nat.le_of_ble_eq_true rfl) (ws' := kMo k ot aMO (MO17)) (by subst eMO17; rfl) dX10_later_59 (fun H locs G => ?_)
          refine lv_iload hx hb dX10_later_62 (lv_at hl 0 rfl) ?_
          cases hf
          exact e_mi X G dX10_later_64
        · replace hf := if_t hf c15
          refine lv_aload_n hx hb dX10_later_43 rfl (lv_at hl 1 rfl) ?_
          obtain ⟨r18, hcr18, hf⟩ := bd_some hf
          refine p_R (st1 := [.int r18]) (run_V (rest := []) X (ctX10_ended hZ ot aMO hcr18) mk_X10_ended ml_X10_152 ⟨(Nat.le_of_ble_eq_true rfl), (Nat.le_of_ble_eq_true rfl)⟩ G [0, 1, 2, 3, 4, 5, 6, 7] rfl rfl 0 rfl rfl rfl hl.1 rfl (Nat.le_of_ble_eq_true rfl) dX10_later_44 ⟨Nat.zero_le _, Nat.zero_le _⟩) rfl ?_
          refine lv_goto (tgt := 55) hx hb dX10_later_47 (by decide) ?_
          refine lv_istore (lv' := [(4, .int r18), (3, .int (r14.1)), (0, .ref ot), (1, .int v1), (2, .int v2)]) hx hb dX10_later_55 hl (by decide) rfl (fun ls hl => ?_)
          refine lv_aload_n hx hb dX10_later_57 rfl (lv_at hl 2 rfl) ?_
          refine lv_iconst (v := 0) hx hb dX10_later_58 (by decide) ?_
          obtain ⟨MO19, eMO19, hf⟩ := nm_some hf
          refine r_put X inw_X10 tyX10 tyX10_ok nmX10 G 0 rfl rfl 7 (by decide) fl_X10_40 rfl rfl rfl (Nat.le_of_ble_eq_true rfl) (ws' := kMo k ot aMO (MO19)) (by subst eMO19; rfl) dX10_later_59 (fun H locs G => ?_)
          refine lv_iload hx hb dX10_later_62 (lv_at hl 0 rfl) ?_
          cases hf
          exact e_mi X G dX10_later_64
      · replace hf := if_t hf c12
        refine lv_iconst (v := -1) hx hb dX10_later_26 (by decide) ?_
        cases hf
        exact e_mi X G dX10_later_27
theorem mk_X10_later : MV yX10_later cX10_later 5 (some .int) 2 := ⟨co_X10_later, in_X10, im_X10_later, se_X10_later, by decide +kernel, by decide +kernel⟩
noncomputable def FX10_ends_16 (v1 : Int32) : (Int32 × MoT) → Option ((Int32 × MoT) ⊕ (Int32 × MoT)) := fun stL4 =>
  if (200 : Int32) ≤ stL4.1 then (
    some (.inr (stL4.1, stL4.2))
  ) else (
    (FX10_isEnded stL4.2 v1).bind fun r6 =>
    if (bI r6) = 0 then (
      (FX10_ticksOnce stL4.2).bind fun r8 =>
      nm (stL4.1 + 1) fun x9 =>
      some (.inl (x9, r8))
    ) else (
      some (.inr (stL4.1, stL4.2))
    )
  )
noncomputable def FX10_ends (MO : MoT) (v1 : Int32) : Option (Int32 × MoT) :=
  (FX10_isWorker MO v1).bind fun r1 =>
  if (bI r1) = 0 then (
    some ((-1 : Int32), MO)
  ) else (
    (FX10_laysAside MO).bind fun r3 =>
    (itr (FX10_ends_16 v1) ((0 : Int32), r3)).bind fun uL4 =>
    (FX10_isEnded uL4.2 v1).bind fun r10 =>
    nm (bI r10) fun x11 =>
    nm (sMo_b uL4.2 (0 : Int32)) fun MO12 =>
    if x11 = 0 then (
      some ((-1 : Int32), MO12)
    ) else (
      some (uL4.1, MO12)
    )
  )
set_option maxHeartbeats 4000000 in
set_option maxRecDepth 100000 in
theorem ctX10_ends {l : Launch} {D : va_G} {k : Nat → ClassId} {Z : ZT} (hZ : ZOK Z) (ot : Nat) (aMO : Nat → Nat) {MO : MoT} {v1 : Int32} {q : Int32 × MoT} (hf : FX10_ends MO v1 = some q) :
    CM l D k Z yX10_ends cX10_ends 4 (some .int) 11 253 [.ref ot, .int v1] (some (.int q.1)) (kMo k ot aMO (MO)) (kMo k ot aMO (q.2)) := by
  refine CM.start hZ (by decide) (Nat.le_of_ble_eq_true rfl) ?_
  intro p e s m below meth c ls X hl G
  have hx := X.1
  have hb := X.2.1
  have hl : lv_has ls 4 [(0, .ref ot), (1, .int v1)] := hl
  unfold FX10_ends at hf
  refine lv_aload_n hx hb dX10_ends_0 rfl (lv_at hl 0 rfl) ?_
  refine lv_iload_n hx hb dX10_ends_1 rfl (lv_at hl 1 rfl) ?_
  obtain ⟨r1, hcr1, hf⟩ := bd_some hf
  refine p_R (st1 := [.int (bI r1)]) (run_V (rest := []) X (ctX10_isWorker hZ ot aMO hcr1) mk_X10_isWorker ml_X10_155 ⟨(Nat.le_of_ble_eq_true rfl), (Nat.le_of_ble_eq_true rfl)⟩ G [0, 1, 2, 3, 4, 5, 6, 7] rfl rfl 0 rfl rfl rfl hl.1 rfl (Nat.le_of_ble_eq_true rfl) dX10_ends_2 ⟨Nat.zero_le _, Nat.zero_le _⟩) rfl ?_
  refine lv_if_ne (tgt := 10) hx hb dX10_ends_5 (by decide) (fun c2 => ?_) (fun c2 => ?_)
  · replace hf := if_f hf c2
    refine lv_aload_n hx hb dX10_ends_10 rfl (lv_at hl 0 rfl) ?_
    obtain ⟨r3, hcr3, hf⟩ := bd_some hf
    refine p_N (st1 := []) (wr := []) (ws' := kMo k ot aMO (r3)) (run_V (rest := []) X (ctX10_laysAside hZ ot aMO hcr3) mk_X10_laysAside ml_X10_180 ⟨(Nat.le_of_ble_eq_true rfl), (Nat.le_of_ble_eq_true rfl)⟩ G [0, 1, 2, 3, 4, 5, 6, 7] rfl rfl 0 rfl rfl rfl hl.1 rfl (Nat.le_of_ble_eq_true rfl) dX10_ends_11 ⟨Nat.zero_le _, Nat.zero_le _⟩) rfl G [0, 1, 2, 3, 4, 5, 6, 7] [] 8 rfl rfl rfl rfl rfl (by decide) (by decide) rfl (fun H locs G => ?_)
    refine lv_iconst (v := 0) hx hb dX10_ends_14 (by decide) ?_
    refine lv_istore_n (lv' := [(2, .int (0 : Int32)), (0, .ref ot), (1, .int v1)]) hx hb dX10_ends_15 rfl hl (by decide) rfl (fun ls hl => ?_)
    obtain ⟨exL4, hitL4, hfL4⟩ := bd_some hf
    obtain ⟨nL4, hitL4⟩ := itr_ex hitL4
    have KL4_0 : ∀ (u : Int32 × MoT) (H : Heap) (locs : List Loc) (ls : Array Slot), exL4 = u → Wo D (wA (kMo k ot aMO (MO))) s.heap (kMo k ot aMO (u.2)) H locs → lv_has ls 4 [(0, .ref ot), (1, .int v1), (2, .int (u.1))] → W p l e (rmz 11 253) s m [.ref ot, .int v1].toArray below meth c H locs 0 0 (MQ below (Qm D (some (.int q.1)) (kMo k ot aMO (MO)) (kMo k ot aMO (q.2))) [.ref ot, .int v1].toArray s 0 0 (wA (kMo k ot aMO (MO)))) (F0 m 41 ls []) := by
      intro uL4 H locs ls hex G hl
      rw [hex] at hfL4
      have hf := hfL4
      refine lv_aload_n hx hb dX10_ends_41 rfl (lv_at hl 0 rfl) ?_
      refine lv_iload_n hx hb dX10_ends_42 rfl (lv_at hl 1 rfl) ?_
      obtain ⟨r10, hcr10, hf⟩ := bd_some hf
      refine p_R (st1 := [.int (bI r10)]) (run_V (rest := []) X (ctX10_isEnded hZ ot aMO hcr10) mk_X10_isEnded ml_X10_81 ⟨(Nat.le_of_ble_eq_true rfl), (Nat.le_of_ble_eq_true rfl)⟩ G [0, 1, 2, 3, 4, 5, 6, 7] rfl rfl 0 rfl rfl rfl hl.1 rfl (Nat.le_of_ble_eq_true rfl) dX10_ends_43 ⟨Nat.zero_le _, Nat.zero_le _⟩) rfl ?_
      obtain ⟨x11, ex11, hf⟩ := nm_some hf
      refine r_top (congrArg Value.int ex11) ?_
      refine lv_istore_n (lv' := [(3, .int x11), (0, .ref ot), (1, .int v1), (2, .int (uL4.1))]) hx hb dX10_ends_46 rfl hl (by decide) rfl (fun ls hl => ?_)
      refine lv_aload_n hx hb dX10_ends_47 rfl (lv_at hl 1 rfl) ?_
      refine lv_iconst (v := 0) hx hb dX10_ends_48 (by decide) ?_
      obtain ⟨MO12, eMO12, hf⟩ := nm_some hf
      refine r_put X inw_X10 tyX10 tyX10_ok nmX10 G 0 rfl rfl 7 (by decide) fl_X10_40 rfl rfl rfl (Nat.le_of_ble_eq_true rfl) (ws' := kMo k ot aMO (MO12)) (by subst eMO12; rfl) dX10_ends_49 (fun H locs G => ?_)
      refine lv_iload_n hx hb dX10_ends_52 rfl (lv_at hl 0 rfl) ?_
      refine lv_if_eq (tgt := 60) hx hb dX10_ends_53 (by decide) (fun c13 => ?_) (fun c13 => ?_)
      · replace hf := if_t hf c13
        refine lv_iconst (v := -1) hx hb dX10_ends_60 (by decide) ?_
        cases hf
        exact e_mi X G dX10_ends_61
      · replace hf := if_f hf c13
        refine lv_iload_n hx hb dX10_ends_56 rfl (lv_at hl 3 rfl) ?_
        refine lv_goto (tgt := 61) hx hb dX10_ends_57 (by decide) ?_
        cases hf
        exact e_mi X G dX10_ends_61
    have LL4 : ∀ (n : Nat) (stL4 : Int32 × MoT) (H : Heap) (locs : List Loc) (ls : Array Slot), Wo D (wA (kMo k ot aMO (MO))) s.heap (kMo k ot aMO (stL4.2)) H locs → lv_has ls 4 [(0, .ref ot), (1, .int v1), (2, .int (stL4.1))] → it (FX10_ends_16 v1) n stL4 = some exL4 → W p l e (rmz 11 253) s m [.ref ot, .int v1].toArray below meth c H locs 0 0 (MQ below (Qm D (some (.int q.1)) (kMo k ot aMO (MO)) (kMo k ot aMO (q.2))) [.ref ot, .int v1].toArray s 0 0 (wA (kMo k ot aMO (MO)))) (F0 m 16 ls []) := by
      intro n
      induction n with
      | zero =>
        intro stL4 H locs ls G hl hit
        exact (it_zero hit).elim
      | succ n ih =>
        intro stL4 H locs ls G hl hit
        obtain ⟨oL4, hf, hoL4⟩ := it_bd hit
        unfold FX10_ends_16 at hf
        refine lv_iload_n hx hb dX10_ends_16 rfl (lv_at hl 2 rfl) ?_
        refine lv_sipush (v := 200) hx hb dX10_ends_17 (by decide) ?_
        refine lv_icmp_ge (tgt := 41) hx hb dX10_ends_20 (by decide) (fun c5 => ?_) (fun c5 => ?_)
        · replace hf := if_t hf c5
          cases hf
          exact KL4_0 (stL4.1, stL4.2) _ _ _ (it_out hoL4) G (lv_sub hl [0, 1, 2] rfl)
        · replace hf := if_f hf c5
          refine lv_aload_n hx hb dX10_ends_23 rfl (lv_at hl 0 rfl) ?_
          refine lv_iload_n hx hb dX10_ends_24 rfl (lv_at hl 1 rfl) ?_
          obtain ⟨r6, hcr6, hf⟩ := bd_some hf
          refine p_R (st1 := [.int (bI r6)]) (run_V (rest := []) X (ctX10_isEnded hZ ot aMO hcr6) mk_X10_isEnded ml_X10_81 ⟨(Nat.le_of_ble_eq_true rfl), (Nat.le_of_ble_eq_true rfl)⟩ G [0, 1, 2, 3, 4, 5, 6, 7] rfl rfl 0 rfl rfl rfl hl.1 rfl (Nat.le_of_ble_eq_true rfl) dX10_ends_25 ⟨Nat.zero_le _, Nat.zero_le _⟩) rfl ?_
          refine lv_if_ne (tgt := 41) hx hb dX10_ends_28 (by decide) (fun c7 => ?_) (fun c7 => ?_)
          · replace hf := if_f hf c7
            cases hf
            exact KL4_0 (stL4.1, stL4.2) _ _ _ (it_out hoL4) G (lv_sub hl [0, 1, 2] rfl)
          · replace hf := if_t hf c7
            refine lv_aload_n hx hb dX10_ends_31 rfl (lv_at hl 0 rfl) ?_
            obtain ⟨r8, hcr8, hf⟩ := bd_some hf
            refine p_N (st1 := []) (wr := []) (ws' := kMo k ot aMO (r8)) (run_V (rest := []) X (ctX10_ticksOnce hZ ot aMO hcr8) mk_X10_ticksOnce ml_X10_140 ⟨(Nat.le_of_ble_eq_true rfl), (Nat.le_of_ble_eq_true rfl)⟩ G [0, 1, 2, 3, 4, 5, 6, 7] rfl rfl 0 rfl rfl rfl hl.1 rfl (Nat.le_of_ble_eq_true rfl) dX10_ends_32 ⟨Nat.zero_le _, Nat.zero_le _⟩) rfl G [0, 1, 2, 3, 4, 5, 6, 7] [] 8 rfl rfl rfl rfl rfl (by decide) (by decide) rfl (fun H locs G => ?_)
            obtain ⟨x9, ex9, hf⟩ := nm_some hf
            refine lv_iinc (v := x9) (lv' := [(2, .int x9), (0, .ref ot), (1, .int v1)]) hx hb dX10_ends_35 hl (k := 2) rfl (by subst ex9; rfl) (by decide) rfl (fun ls hl => ?_)
            refine lv_goto (tgt := 16) hx hb dX10_ends_38 (by decide) ?_
            cases hf
            exact ih (x9, r8) _ _ _ G (lv_sub hl [1, 2, 0] rfl) hoL4
    exact LL4 nL4 ((0 : Int32), r3) _ _ _ G (lv_sub hl [1, 2, 0] rfl) hitL4
  · replace hf := if_t hf c2
    refine lv_iconst (v := -1) hx hb dX10_ends_8 (by decide) ?_
    cases hf
    exact e_mi X G dX10_ends_9
theorem mk_X10_ends : MV yX10_ends cX10_ends 4 (some .int) 1 := ⟨co_X10_ends, in_X10, im_X10_ends, se_X10_ends, by decide +kernel, by decide +kernel⟩
noncomputable def FX10_told (MO : MoT) (v1 : Int32) (v2 : Int32) : Option (Int32 × MoT) :=
  (FX10_isIn v1 (1 : Int32) (200 : Int32)).bind fun r1 =>
  if (bI r1) = 0 then (
    some ((-1 : Int32), MO)
  ) else (
    (FX10_isIn v2 (1 : Int32) (50 : Int32)).bind fun r3 =>
    if (bI r3) = 0 then (
      some ((-1 : Int32), MO)
    ) else (
      (FX10_laysAside MO).bind fun r5 =>
      ix (475 : Int32) 9519 <|
      nm (sMo_all r5 (upd (Mo_all r5) (Int32.toNatClampNeg (475 : Int32)) v2)) fun MO7 =>
      (FX10_ticksOf MO7 v1).bind fun r8 =>
      nm (sMo_b r8.2 (0 : Int32)) fun MO9 =>
      some (r8.1, MO9)
    )
  )
set_option maxHeartbeats 4000000 in
set_option maxRecDepth 100000 in
theorem ctX10_told {l : Launch} {D : va_G} {k : Nat → ClassId} {Z : ZT} (hZ : ZOK Z) (ot : Nat) (aMO : Nat → Nat) {MO : MoT} {v1 : Int32} {v2 : Int32} {q : Int32 × MoT} (hf : FX10_told MO v1 v2 = some q) :
    CM l D k Z yX10_told cX10_told 4 (some .int) 12 276 [.ref ot, .int v1, .int v2] (some (.int q.1)) (kMo k ot aMO (MO)) (kMo k ot aMO (q.2)) := by
  refine CM.start hZ (by decide) (Nat.le_of_ble_eq_true rfl) ?_
  intro p e s m below meth c ls X hl G
  have hx := X.1
  have hb := X.2.1
  have hl : lv_has ls 4 [(0, .ref ot), (1, .int v1), (2, .int v2)] := hl
  unfold FX10_told at hf
  refine lv_iload_n hx hb dX10_told_0 rfl (lv_at hl 1 rfl) ?_
  refine lv_iconst (v := 1) hx hb dX10_told_1 (by decide) ?_
  refine lv_sipush (v := 200) hx hb dX10_told_2 (by decide) ?_
  obtain ⟨r1, hcr1, hf⟩ := bd_some hf
  refine p_R (st1 := [.int (bI r1)]) (run_S (rest := []) X (ctX10_isIn hZ hcr1) mk_X10_isIn ml_X10_47 ⟨(Nat.le_of_ble_eq_true rfl), (Nat.le_of_ble_eq_true rfl)⟩ G [] rfl rfl rfl hl.1 rfl (Nat.le_of_ble_eq_true rfl) dX10_told_5 ⟨Nat.zero_le _, Nat.zero_le _⟩) rfl ?_
  refine lv_if_eq (tgt := 21) hx hb dX10_told_8 (by decide) (fun c2 => ?_) (fun c2 => ?_)
  · replace hf := if_t hf c2
    refine lv_iconst (v := -1) hx hb dX10_told_21 (by decide) ?_
    cases hf
    exact e_mi X G dX10_told_22
  · replace hf := if_f hf c2
    refine lv_iload_n hx hb dX10_told_11 rfl (lv_at hl 2 rfl) ?_
    refine lv_iconst (v := 1) hx hb dX10_told_12 (by decide) ?_
    refine lv_bipush (v := 50) hx hb dX10_told_13 (by decide) ?_
    obtain ⟨r3, hcr3, hf⟩ := bd_some hf
    refine p_R (st1 := [.int (bI r3)]) (run_S (rest := []) X (ctX10_isIn hZ hcr3) mk_X10_isIn ml_X10_47 ⟨(Nat.le_of_ble_eq_true rfl), (Nat.le_of_ble_eq_true rfl)⟩ G [] rfl rfl rfl hl.1 rfl (Nat.le_of_ble_eq_true rfl) dX10_told_15 ⟨Nat.zero_le _, Nat.zero_le _⟩) rfl ?_
    refine lv_if_ne (tgt := 23) hx hb dX10_told_18 (by decide) (fun c4 => ?_) (fun c4 => ?_)
    · replace hf := if_f hf c4
      refine lv_aload_n hx hb dX10_told_23 rfl (lv_at hl 0 rfl) ?_
      obtain ⟨r5, hcr5, hf⟩ := bd_some hf
      refine p_N (st1 := []) (wr := []) (ws' := kMo k ot aMO (r5)) (run_V (rest := []) X (ctX10_laysAside hZ ot aMO hcr5) mk_X10_laysAside ml_X10_180 ⟨(Nat.le_of_ble_eq_true rfl), (Nat.le_of_ble_eq_true rfl)⟩ G [0, 1, 2, 3, 4, 5, 6, 7] rfl rfl 0 rfl rfl rfl hl.1 rfl (Nat.le_of_ble_eq_true rfl) dX10_told_24 ⟨Nat.zero_le _, Nat.zero_le _⟩) rfl G [0, 1, 2, 3, 4, 5, 6, 7] [] 8 rfl rfl rfl rfl rfl (by decide) (by decide) rfl (fun H locs G => ?_)
      refine lv_aload_n hx hb dX10_told_27 rfl (lv_at hl 0 rfl) ?_
      refine r_get X inw_X10 G 0 rfl rfl 0 (by decide) fl_X10_7 (v := .ref (aMO 0)) rfl dX10_told_28 ?_
      refine lv_sipush (v := 475) hx hb dX10_told_31 (by decide) ?_
      refine lv_iload_n hx hb dX10_told_34 rfl (lv_at hl 2 rfl) ?_
      obtain ⟨h6, hf⟩ := ix_some hf
      obtain ⟨MO7, eMO7, hf⟩ := nm_some hf
      refine r_iast X G 1 rfl h6 (ws' := kMo k ot aMO (MO7)) (by subst eMO7; rfl) dX10_told_35 (fun H locs G => ?_)
      refine lv_aload_n hx hb dX10_told_36 rfl (lv_at hl 0 rfl) ?_
      refine lv_iload_n hx hb dX10_told_37 rfl (lv_at hl 1 rfl) ?_
      obtain ⟨r8, hcr8, hf⟩ := bd_some hf
      refine p_N (st1 := [.int (r8.1)]) (wr := []) (ws' := kMo k ot aMO (r8.2)) (run_V (rest := []) X (ctX10_ticksOf hZ ot aMO hcr8) mk_X10_ticksOf ml_X10_149 ⟨(Nat.le_of_ble_eq_true rfl), (Nat.le_of_ble_eq_true rfl)⟩ G [0, 1, 2, 3, 4, 5, 6, 7] rfl rfl 0 rfl rfl rfl hl.1 rfl (Nat.le_of_ble_eq_true rfl) dX10_told_38 ⟨Nat.zero_le _, Nat.zero_le _⟩) rfl G [0, 1, 2, 3, 4, 5, 6, 7] [] 8 rfl rfl rfl rfl rfl (by decide) (by decide) rfl (fun H locs G => ?_)
      refine lv_istore_n (lv' := [(3, .int (r8.1)), (0, .ref ot), (1, .int v1), (2, .int v2)]) hx hb dX10_told_41 rfl hl (by decide) rfl (fun ls hl => ?_)
      refine lv_aload_n hx hb dX10_told_42 rfl (lv_at hl 1 rfl) ?_
      refine lv_iconst (v := 0) hx hb dX10_told_43 (by decide) ?_
      obtain ⟨MO9, eMO9, hf⟩ := nm_some hf
      refine r_put X inw_X10 tyX10 tyX10_ok nmX10 G 0 rfl rfl 7 (by decide) fl_X10_40 rfl rfl rfl (Nat.le_of_ble_eq_true rfl) (ws' := kMo k ot aMO (MO9)) (by subst eMO9; rfl) dX10_told_44 (fun H locs G => ?_)
      refine lv_iload_n hx hb dX10_told_47 rfl (lv_at hl 0 rfl) ?_
      cases hf
      exact e_mi X G dX10_told_48
    · replace hf := if_t hf c4
      refine lv_iconst (v := -1) hx hb dX10_told_21 (by decide) ?_
      cases hf
      exact e_mi X G dX10_told_22
theorem mk_X10_told : MV yX10_told cX10_told 4 (some .int) 2 := ⟨co_X10_told, in_X10, im_X10_told, se_X10_told, by decide +kernel, by decide +kernel⟩
noncomputable def FX10_areFreed_6 (v1 : Int32) : (Int32 × MoT) → Option ((Int32 × MoT) ⊕ (MoT)) := fun stL2 =>
  (FX10_workers stL2.2).bind fun r3 =>
  if r3 ≤ stL2.1 then (
    some (.inr stL2.2)
  ) else (
    (FX10_has v1 stL2.1).bind fun r5 =>
    if (bI r5) = 0 then (
      nm (stL2.1 + 1) fun x7 =>
      some (.inl (x7, stL2.2))
    ) else (
      (FX10_isHeldUp stL2.2 stL2.1).bind fun r8 =>
      if (bI r8) = 0 then (
        nm (stL2.1 + 1) fun x10 =>
        some (.inl (x10, stL2.2))
      ) else (
        (FX10_letsGo stL2.2 stL2.1).bind fun r11 =>
        nm (stL2.1 + 1) fun x12 =>
        some (.inl (x12, r11))
      )
    )
  )
noncomputable def FX10_areFreed (MO : MoT) (v1 : Int32) : Option (Bool × MoT) :=
  (FX10_laysAside MO).bind fun r1 =>
  (itr (FX10_areFreed_6 v1) ((0 : Int32), r1)).bind fun uL2 =>
  (FX10_hard uL2).bind fun r13 =>
  if r13 = 0 then (
    nm (sMo_b uL2 (0 : Int32)) fun MO16 =>
    some (true, MO16)
  ) else (
    nm (sMo_b uL2 (0 : Int32)) fun MO15 =>
    some (false, MO15)
  )
set_option maxHeartbeats 4000000 in
set_option maxRecDepth 100000 in
theorem ctX10_areFreed {l : Launch} {D : va_G} {k : Nat → ClassId} {Z : ZT} (hZ : ZOK Z) (ot : Nat) (aMO : Nat → Nat) {MO : MoT} {v1 : Int32} {q : Bool × MoT} (hf : FX10_areFreed MO v1 = some q) :
    CM l D k Z yX10_areFreed cX10_areFreed 3 (some .boolean) 7 156 [.ref ot, .int v1] (some (.int (bI q.1))) (kMo k ot aMO (MO)) (kMo k ot aMO (q.2)) := by
  refine CM.start hZ (by decide) (Nat.le_of_ble_eq_true rfl) ?_
  intro p e s m below meth c ls X hl G
  have hx := X.1
  have hb := X.2.1
  have hl : lv_has ls 3 [(0, .ref ot), (1, .int v1)] := hl
  unfold FX10_areFreed at hf
  refine lv_aload_n hx hb dX10_areFreed_0 rfl (lv_at hl 0 rfl) ?_
  obtain ⟨r1, hcr1, hf⟩ := bd_some hf
  refine p_N (st1 := []) (wr := []) (ws' := kMo k ot aMO (r1)) (run_V (rest := []) X (ctX10_laysAside hZ ot aMO hcr1) mk_X10_laysAside ml_X10_180 ⟨(Nat.le_of_ble_eq_true rfl), (Nat.le_of_ble_eq_true rfl)⟩ G [0, 1, 2, 3, 4, 5, 6, 7] rfl rfl 0 rfl rfl rfl hl.1 rfl (Nat.le_of_ble_eq_true rfl) dX10_areFreed_1 ⟨Nat.zero_le _, Nat.zero_le _⟩) rfl G [0, 1, 2, 3, 4, 5, 6, 7] [] 8 rfl rfl rfl rfl rfl (by decide) (by decide) rfl (fun H locs G => ?_)
  refine lv_iconst (v := 0) hx hb dX10_areFreed_4 (by decide) ?_
  refine lv_istore_n (lv' := [(2, .int (0 : Int32)), (0, .ref ot), (1, .int v1)]) hx hb dX10_areFreed_5 rfl hl (by decide) rfl (fun ls hl => ?_)
  obtain ⟨exL2, hitL2, hfL2⟩ := bd_some hf
  obtain ⟨nL2, hitL2⟩ := itr_ex hitL2
  have KL2_0 : ∀ (u : MoT) (H : Heap) (locs : List Loc) (ls : Array Slot), exL2 = u → Wo D (wA (kMo k ot aMO (MO))) s.heap (kMo k ot aMO (u)) H locs → lv_has ls 3 [(0, .ref ot)] → W p l e (rmz 7 156) s m [.ref ot, .int v1].toArray below meth c H locs 0 0 (MQ below (Qm D (some (.int (bI q.1))) (kMo k ot aMO (MO)) (kMo k ot aMO (q.2))) [.ref ot, .int v1].toArray s 0 0 (wA (kMo k ot aMO (MO)))) (F0 m 41 ls []) := by
    intro uL2 H locs ls hex G hl
    rw [hex] at hfL2
    have hf := hfL2
    refine lv_aload_n hx hb dX10_areFreed_41 rfl (lv_at hl 0 rfl) ?_
    obtain ⟨r13, hcr13, hf⟩ := bd_some hf
    refine p_R (st1 := [.int r13]) (run_V (rest := []) X (ctX10_hard hZ ot aMO hcr13) mk_X10_hard ml_X10_110 ⟨(Nat.le_of_ble_eq_true rfl), (Nat.le_of_ble_eq_true rfl)⟩ G [0, 1, 2, 3, 4, 5, 6, 7] rfl rfl 0 rfl rfl rfl hl.1 rfl (Nat.le_of_ble_eq_true rfl) dX10_areFreed_42 ⟨Nat.zero_le _, Nat.zero_le _⟩) rfl ?_
    refine lv_if_ne (tgt := 52) hx hb dX10_areFreed_45 (by decide) (fun c14 => ?_) (fun c14 => ?_)
    · replace hf := if_f hf c14
      refine lv_iconst (v := 0) hx hb dX10_areFreed_52 (by decide) ?_
      refine lv_istore_n (lv' := [(2, .int (0 : Int32)), (0, .ref ot)]) hx hb dX10_areFreed_53 rfl hl (by decide) rfl (fun ls hl => ?_)
      refine lv_aload_n hx hb dX10_areFreed_54 rfl (lv_at hl 1 rfl) ?_
      refine lv_iconst (v := 0) hx hb dX10_areFreed_55 (by decide) ?_
      obtain ⟨MO15, eMO15, hf⟩ := nm_some hf
      refine r_put X inw_X10 tyX10 tyX10_ok nmX10 G 0 rfl rfl 7 (by decide) fl_X10_40 rfl rfl rfl (Nat.le_of_ble_eq_true rfl) (ws' := kMo k ot aMO (MO15)) (by subst eMO15; rfl) dX10_areFreed_56 (fun H locs G => ?_)
      refine lv_iload_n hx hb dX10_areFreed_59 rfl (lv_at hl 0 rfl) ?_
      cases hf
      exact e_mz _ rfl X G dX10_areFreed_60
    · replace hf := if_t hf c14
      refine lv_iconst (v := 1) hx hb dX10_areFreed_48 (by decide) ?_
      refine lv_goto (tgt := 53) hx hb dX10_areFreed_49 (by decide) ?_
      refine lv_istore_n (lv' := [(2, .int (1 : Int32)), (0, .ref ot)]) hx hb dX10_areFreed_53 rfl hl (by decide) rfl (fun ls hl => ?_)
      refine lv_aload_n hx hb dX10_areFreed_54 rfl (lv_at hl 1 rfl) ?_
      refine lv_iconst (v := 0) hx hb dX10_areFreed_55 (by decide) ?_
      obtain ⟨MO16, eMO16, hf⟩ := nm_some hf
      refine r_put X inw_X10 tyX10 tyX10_ok nmX10 G 0 rfl rfl 7 (by decide) fl_X10_40 rfl rfl rfl (Nat.le_of_ble_eq_true rfl) (ws' := kMo k ot aMO (MO16)) (by subst eMO16; rfl) dX10_areFreed_56 (fun H locs G => ?_)
      refine lv_iload_n hx hb dX10_areFreed_59 rfl (lv_at hl 0 rfl) ?_
      cases hf
      exact e_mz _ rfl X G dX10_areFreed_60
  have LL2 : ∀ (n : Nat) (stL2 : Int32 × MoT) (H : Heap) (locs : List Loc) (ls : Array Slot), Wo D (wA (kMo k ot aMO (MO))) s.heap (kMo k ot aMO (stL2.2)) H locs → lv_has ls 3 [(0, .ref ot), (1, .int v1), (2, .int (stL2.1))] → it (FX10_areFreed_6 v1) n stL2 = some exL2 → W p l e (rmz 7 156) s m [.ref ot, .int v1].toArray below meth c H locs 0 0 (MQ below (Qm D (some (.int (bI q.1))) (kMo k ot aMO (MO)) (kMo k ot aMO (q.2))) [.ref ot, .int v1].toArray s 0 0 (wA (kMo k ot aMO (MO)))) (F0 m 6 ls []) := by
    intro n
    induction n with
    | zero =>
      intro stL2 H locs ls G hl hit
      exact (it_zero hit).elim
    | succ n ih =>
      intro stL2 H locs ls G hl hit
      obtain ⟨oL2, hf, hoL2⟩ := it_bd hit
      unfold FX10_areFreed_6 at hf
      refine lv_iload_n hx hb dX10_areFreed_6 rfl (lv_at hl 2 rfl) ?_
      refine lv_aload_n hx hb dX10_areFreed_7 rfl (lv_at hl 0 rfl) ?_
      obtain ⟨r3, hcr3, hf⟩ := bd_some hf
      refine p_R (st1 := [.int r3, .int (stL2.1)]) (run_V (rest := [.int (stL2.1)]) X (ctX10_workers hZ ot aMO hcr3) mk_X10_workers ml_X10_43 ⟨(Nat.le_of_ble_eq_true rfl), (Nat.le_of_ble_eq_true rfl)⟩ G [0, 1, 2, 3, 4, 5, 6, 7] rfl rfl 0 rfl rfl rfl hl.1 rfl (Nat.le_of_ble_eq_true rfl) dX10_areFreed_8 ⟨Nat.zero_le _, Nat.zero_le _⟩) rfl ?_
      refine lv_icmp_ge (tgt := 41) hx hb dX10_areFreed_11 (by decide) (fun c4 => ?_) (fun c4 => ?_)
      · replace hf := if_t hf c4
        cases hf
        exact KL2_0 stL2.2 _ _ _ (it_out hoL2) G (lv_sub hl [0] rfl)
      · replace hf := if_f hf c4
        refine lv_iload_n hx hb dX10_areFreed_14 rfl (lv_at hl 1 rfl) ?_
        refine lv_iload_n hx hb dX10_areFreed_15 rfl (lv_at hl 2 rfl) ?_
        obtain ⟨r5, hcr5, hf⟩ := bd_some hf
        refine p_R (st1 := [.int (bI r5)]) (run_S (rest := []) X (ctX10_has hZ hcr5) mk_X10_has ml_X10_96 ⟨(Nat.le_of_ble_eq_true rfl), (Nat.le_of_ble_eq_true rfl)⟩ G [] rfl rfl rfl hl.1 rfl (Nat.le_of_ble_eq_true rfl) dX10_areFreed_16 ⟨Nat.zero_le _, Nat.zero_le _⟩) rfl ?_
        refine lv_if_eq (tgt := 35) hx hb dX10_areFreed_19 (by decide) (fun c6 => ?_) (fun c6 => ?_)
        · replace hf := if_t hf c6
          obtain ⟨x7, ex7, hf⟩ := nm_some hf
          refine lv_iinc (v := x7) (lv' := [(2, .int x7), (0, .ref ot), (1, .int v1)]) hx hb dX10_areFreed_35 hl (k := 2) rfl (by subst ex7; rfl) (by decide) rfl (fun ls hl => ?_)
          refine lv_goto (tgt := 6) hx hb dX10_areFreed_38 (by decide) ?_
          cases hf
          exact ih (x7, stL2.2) _ _ _ G (lv_sub hl [1, 2, 0] rfl) hoL2
        · replace hf := if_f hf c6
          refine lv_aload_n hx hb dX10_areFreed_22 rfl (lv_at hl 0 rfl) ?_
          refine lv_iload_n hx hb dX10_areFreed_23 rfl (lv_at hl 2 rfl) ?_
          obtain ⟨r8, hcr8, hf⟩ := bd_some hf
          refine p_R (st1 := [.int (bI r8)]) (run_V (rest := []) X (ctX10_isHeldUp hZ ot aMO hcr8) mk_X10_isHeldUp ml_X10_84 ⟨(Nat.le_of_ble_eq_true rfl), (Nat.le_of_ble_eq_true rfl)⟩ G [0, 1, 2, 3, 4, 5, 6, 7] rfl rfl 0 rfl rfl rfl hl.1 rfl (Nat.le_of_ble_eq_true rfl) dX10_areFreed_24 ⟨Nat.zero_le _, Nat.zero_le _⟩) rfl ?_
          refine lv_if_eq (tgt := 35) hx hb dX10_areFreed_27 (by decide) (fun c9 => ?_) (fun c9 => ?_)
          · replace hf := if_t hf c9
            obtain ⟨x10, ex10, hf⟩ := nm_some hf
            refine lv_iinc (v := x10) (lv' := [(2, .int x10), (0, .ref ot), (1, .int v1)]) hx hb dX10_areFreed_35 hl (k := 2) rfl (by subst ex10; rfl) (by decide) rfl (fun ls hl => ?_)
            refine lv_goto (tgt := 6) hx hb dX10_areFreed_38 (by decide) ?_
            cases hf
            exact ih (x10, stL2.2) _ _ _ G (lv_sub hl [1, 2, 0] rfl) hoL2
          · replace hf := if_f hf c9
            refine lv_aload_n hx hb dX10_areFreed_30 rfl (lv_at hl 0 rfl) ?_
            refine lv_iload_n hx hb dX10_areFreed_31 rfl (lv_at hl 2 rfl) ?_
            obtain ⟨r11, hcr11, hf⟩ := bd_some hf
            refine p_N (st1 := []) (wr := []) (ws' := kMo k ot aMO (r11)) (run_V (rest := []) X (ctX10_letsGo hZ ot aMO hcr11) mk_X10_letsGo ml_X10_107 ⟨(Nat.le_of_ble_eq_true rfl), (Nat.le_of_ble_eq_true rfl)⟩ G [0, 1, 2, 3, 4, 5, 6, 7] rfl rfl 0 rfl rfl rfl hl.1 rfl (Nat.le_of_ble_eq_true rfl) dX10_areFreed_32 ⟨Nat.zero_le _, Nat.zero_le _⟩) rfl G [0, 1, 2, 3, 4, 5, 6, 7] [] 8 rfl rfl rfl rfl rfl (by decide) (by decide) rfl (fun H locs G => ?_)
            obtain ⟨x12, ex12, hf⟩ := nm_some hf
            refine lv_iinc (v := x12) (lv' := [(2, .int x12), (0, .ref ot), (1, .int v1)]) hx hb dX10_areFreed_35 hl (k := 2) rfl (by subst ex12; rfl) (by decide) rfl (fun ls hl => ?_)
            refine lv_goto (tgt := 6) hx hb dX10_areFreed_38 (by decide) ?_
            cases hf
            exact ih (x12, r11) _ _ _ G (lv_sub hl [1, 2, 0] rfl) hoL2
  exact LL2 nL2 ((0 : Int32), r1) _ _ _ G (lv_sub hl [1, 2, 0] rfl) hitL2
theorem mk_X10_areFreed : MV yX10_areFreed cX10_areFreed 3 (some .boolean) 1 := ⟨co_X10_areFreed, in_X10, im_X10_areFreed, se_X10_areFreed, by decide +kernel, by decide +kernel⟩
noncomputable def FX10_fewest_4 (MO : MoT) : (Int32 × Int32) → Option ((Int32 × Int32) ⊕ (Int32)) := fun stL1 =>
  (FX10_workers MO).bind fun r2 =>
  if r2 ≤ stL1.2 then (
    some (.inr stL1.1)
  ) else (
    (FX10_isHeldUp MO stL1.2).bind fun r4 =>
    if (bI r4) = 0 then (
      nm (stL1.1 ||| (0 : Int32)) fun x6 =>
      nm (stL1.2 + 1) fun x7 =>
      some (.inl (x6, x7))
    ) else (
      nm (stL1.1 ||| ((1 : Int32) <<< (stL1.2 &&& 31))) fun x8 =>
      nm (stL1.2 + 1) fun x9 =>
      some (.inl (x8, x9))
    )
  )
noncomputable def FX10_fewest_41 (uL1 : Int32) : (Int32 × Int32 × MoT) → Option ((Int32 × Int32 × MoT) ⊕ (Int32 × MoT)) := fun stL10 =>
  (FX10_workers stL10.2.2).bind fun r11 =>
  if ((1 : Int32) <<< (r11 &&& 31)) ≤ stL10.2.1 then (
    some (.inr (stL10.1, stL10.2.2))
  ) else (
    if (stL10.2.1 &&& (uL1 ^^^ (-1 : Int32))) = 0 then (
      if stL10.1 = (-1 : Int32) then (
        (FX10_areFreed stL10.2.2 stL10.2.1).bind fun r16 =>
        if (bI r16.1) = 0 then (
          nm (stL10.2.1 + 1) fun x19 =>
          some (.inl (stL10.1, x19, r16.2))
        ) else (
          nm (stL10.2.1 + 1) fun x18 =>
          some (.inl (stL10.2.1, x18, r16.2))
        )
      ) else (
        (FX10_bits stL10.2.1).bind fun r20 =>
        (FX10_bits stL10.1).bind fun r21 =>
        if r21 ≤ r20 then (
          nm (stL10.2.1 + 1) fun x23 =>
          some (.inl (stL10.1, x23, stL10.2.2))
        ) else (
          (FX10_areFreed stL10.2.2 stL10.2.1).bind fun r24 =>
          if (bI r24.1) = 0 then (
            nm (stL10.2.1 + 1) fun x27 =>
            some (.inl (stL10.1, x27, r24.2))
          ) else (
            nm (stL10.2.1 + 1) fun x26 =>
            some (.inl (stL10.2.1, x26, r24.2))
          )
        )
      )
    ) else (
      nm (stL10.2.1 + 1) fun x14 =>
      some (.inl (stL10.1, x14, stL10.2.2))
    )
  )
noncomputable def FX10_fewest (MO : MoT) (v1 : Int32) : Option (Int32 × MoT) :=
  (itr (FX10_fewest_4 MO) ((0 : Int32), (0 : Int32))).bind fun uL1 =>
  (itr (FX10_fewest_41 uL1) ((-1 : Int32), (0 : Int32), MO)).bind fun uL10 =>
  if uL10.1 = (-1 : Int32) then (
    some (uL10.1, uL10.2)
  ) else (
    if v1 = 0 then (
      (FX10_bits uL10.1).bind fun r30 =>
      some (r30, uL10.2)
    ) else (
      some (uL10.1, uL10.2)
    )
  )
set_option maxHeartbeats 4000000 in
set_option maxRecDepth 100000 in
theorem ctX10_fewest {l : Launch} {D : va_G} {k : Nat → ClassId} {Z : ZT} (hZ : ZOK Z) (ot : Nat) (aMO : Nat → Nat) {MO : MoT} {v1 : Int32} {q : Int32 × MoT} (hf : FX10_fewest MO v1 = some q) :
    CM l D k Z yX10_fewest cX10_fewest 5 (some .int) 8 178 [.ref ot, .int v1] (some (.int q.1)) (kMo k ot aMO (MO)) (kMo k ot aMO (q.2)) := by
  refine CM.start hZ (by decide) (Nat.le_of_ble_eq_true rfl) ?_
  intro p e s m below meth c ls X hl G
  have hx := X.1
  have hb := X.2.1
  have hl : lv_has ls 5 [(0, .ref ot), (1, .int v1)] := hl
  unfold FX10_fewest at hf
  refine lv_iconst (v := 0) hx hb dX10_fewest_0 (by decide) ?_
  refine lv_istore_n (lv' := [(2, .int (0 : Int32)), (0, .ref ot), (1, .int v1)]) hx hb dX10_fewest_1 rfl hl (by decide) rfl (fun ls hl => ?_)
  refine lv_iconst (v := 0) hx hb dX10_fewest_2 (by decide) ?_
  refine lv_istore_n (lv' := [(3, .int (0 : Int32)), (2, .int (0 : Int32)), (0, .ref ot), (1, .int v1)]) hx hb dX10_fewest_3 rfl hl (by decide) rfl (fun ls hl => ?_)
  obtain ⟨exL1, hitL1, hfL1⟩ := bd_some hf
  obtain ⟨nL1, hitL1⟩ := itr_ex hitL1
  have KL1_0 : ∀ (u : Int32) (H : Heap) (locs : List Loc) (ls : Array Slot), exL1 = u → Wo D (wA (kMo k ot aMO (MO))) s.heap (kMo k ot aMO (MO)) H locs → lv_has ls 5 [(0, .ref ot), (1, .int v1), (2, .int u)] → W p l e (rmz 8 178) s m [.ref ot, .int v1].toArray below meth c H locs 0 0 (MQ below (Qm D (some (.int q.1)) (kMo k ot aMO (MO)) (kMo k ot aMO (q.2))) [.ref ot, .int v1].toArray s 0 0 (wA (kMo k ot aMO (MO)))) (F0 m 36 ls []) := by
    intro uL1 H locs ls hex G hl
    rw [hex] at hfL1
    have hf := hfL1
    refine lv_iconst (v := -1) hx hb dX10_fewest_36 (by decide) ?_
    refine lv_istore_n (lv' := [(3, .int (-1 : Int32)), (0, .ref ot), (1, .int v1), (2, .int uL1)]) hx hb dX10_fewest_37 rfl hl (by decide) rfl (fun ls hl => ?_)
    refine lv_iconst (v := 0) hx hb dX10_fewest_38 (by decide) ?_
    refine lv_istore (lv' := [(4, .int (0 : Int32)), (3, .int (-1 : Int32)), (0, .ref ot), (1, .int v1), (2, .int uL1)]) hx hb dX10_fewest_39 hl (by decide) rfl (fun ls hl => ?_)
    obtain ⟨exL10, hitL10, hfL10⟩ := bd_some hf
    obtain ⟨nL10, hitL10⟩ := itr_ex hitL10
    have KL10_0 : ∀ (u : Int32 × MoT) (H : Heap) (locs : List Loc) (ls : Array Slot), exL10 = u → Wo D (wA (kMo k ot aMO (MO))) s.heap (kMo k ot aMO (u.2)) H locs → lv_has ls 5 [(1, .int v1), (3, .int (u.1))] → W p l e (rmz 8 178) s m [.ref ot, .int v1].toArray below meth c H locs 0 0 (MQ below (Qm D (some (.int q.1)) (kMo k ot aMO (MO)) (kMo k ot aMO (q.2))) [.ref ot, .int v1].toArray s 0 0 (wA (kMo k ot aMO (MO)))) (F0 m 99 ls []) := by
      intro uL10 H locs ls hex G hl
      rw [hex] at hfL10
      have hf := hfL10
      refine lv_iload_n hx hb dX10_fewest_99 rfl (lv_at hl 1 rfl) ?_
      refine lv_iconst (v := -1) hx hb dX10_fewest_100 (by decide) ?_
      refine lv_icmp_eq (tgt := 108) hx hb dX10_fewest_101 (by decide) (fun c28 => ?_) (fun c28 => ?_)
      · replace hf := if_t hf c28
        refine lv_iload_n hx hb dX10_fewest_108 rfl (lv_at hl 1 rfl) ?_
        refine lv_goto (tgt := 116) hx hb dX10_fewest_109 (by decide) ?_
        cases hf
        exact e_mi X G dX10_fewest_116
      · replace hf := if_f hf c28
        refine lv_iload_n hx hb dX10_fewest_104 rfl (lv_at hl 0 rfl) ?_
        refine lv_if_eq (tgt := 112) hx hb dX10_fewest_105 (by decide) (fun c29 => ?_) (fun c29 => ?_)
        · replace hf := if_t hf c29
          refine lv_iload_n hx hb dX10_fewest_112 rfl (lv_at hl 1 rfl) ?_
          obtain ⟨r30, hcr30, hf⟩ := bd_some hf
          refine p_R (st1 := [.int r30]) (run_S (rest := []) X (ctX10_bits hZ hcr30) mk_X10_bits ml_X10_113 ⟨(Nat.le_of_ble_eq_true rfl), (Nat.le_of_ble_eq_true rfl)⟩ G [] rfl rfl rfl hl.1 rfl (Nat.le_of_ble_eq_true rfl) dX10_fewest_113 ⟨Nat.zero_le _, Nat.zero_le _⟩) rfl ?_
          cases hf
          exact e_mi X G dX10_fewest_116
        · replace hf := if_f hf c29
          refine lv_iload_n hx hb dX10_fewest_108 rfl (lv_at hl 1 rfl) ?_
          refine lv_goto (tgt := 116) hx hb dX10_fewest_109 (by decide) ?_
          cases hf
          exact e_mi X G dX10_fewest_116
    have LL10 : ∀ (n : Nat) (stL10 : Int32 × Int32 × MoT) (H : Heap) (locs : List Loc) (ls : Array Slot), Wo D (wA (kMo k ot aMO (MO))) s.heap (kMo k ot aMO (stL10.2.2)) H locs → lv_has ls 5 [(0, .ref ot), (1, .int v1), (2, .int uL1), (3, .int (stL10.1)), (4, .int (stL10.2.1))] → it (FX10_fewest_41 uL1) n stL10 = some exL10 → W p l e (rmz 8 178) s m [.ref ot, .int v1].toArray below meth c H locs 0 0 (MQ below (Qm D (some (.int q.1)) (kMo k ot aMO (MO)) (kMo k ot aMO (q.2))) [.ref ot, .int v1].toArray s 0 0 (wA (kMo k ot aMO (MO)))) (F0 m 41 ls []) := by
      intro n
      induction n with
      | zero =>
        intro stL10 H locs ls G hl hit
        exact (it_zero hit).elim
      | succ n ih =>
        intro stL10 H locs ls G hl hit
        obtain ⟨oL10, hf, hoL10⟩ := it_bd hit
        unfold FX10_fewest_41 at hf
        refine lv_iload hx hb dX10_fewest_41 (lv_at hl 4 rfl) ?_
        refine lv_iconst (v := 1) hx hb dX10_fewest_43 (by decide) ?_
        refine lv_aload_n hx hb dX10_fewest_44 rfl (lv_at hl 0 rfl) ?_
        obtain ⟨r11, hcr11, hf⟩ := bd_some hf
        refine p_R (st1 := [.int r11, .int (1 : Int32), .int (stL10.2.1)]) (run_V (rest := [.int (1 : Int32), .int (stL10.2.1)]) X (ctX10_workers hZ ot aMO hcr11) mk_X10_workers ml_X10_43 ⟨(Nat.le_of_ble_eq_true rfl), (Nat.le_of_ble_eq_true rfl)⟩ G [0, 1, 2, 3, 4, 5, 6, 7] rfl rfl 0 rfl rfl rfl hl.1 rfl (Nat.le_of_ble_eq_true rfl) dX10_fewest_45 ⟨Nat.zero_le _, Nat.zero_le _⟩) rfl ?_
        refine lv_ishl hx hb dX10_fewest_48 ?_
        refine lv_icmp_ge (tgt := 99) hx hb dX10_fewest_49 (by decide) (fun c12 => ?_) (fun c12 => ?_)
        · replace hf := if_t hf c12
          cases hf
          exact KL10_0 (stL10.1, stL10.2.2) _ _ _ (it_out hoL10) G (lv_sub hl [1, 3] rfl)
        · replace hf := if_f hf c12
          refine lv_iload hx hb dX10_fewest_52 (lv_at hl 4 rfl) ?_
          refine lv_iload_n hx hb dX10_fewest_54 rfl (lv_at hl 2 rfl) ?_
          refine lv_iconst (v := -1) hx hb dX10_fewest_55 (by decide) ?_
          refine lv_ixor hx hb dX10_fewest_56 ?_
          refine lv_iand hx hb dX10_fewest_57 ?_
          refine lv_if_ne (tgt := 93) hx hb dX10_fewest_58 (by decide) (fun c13 => ?_) (fun c13 => ?_)
          · replace hf := if_f hf c13
            obtain ⟨x14, ex14, hf⟩ := nm_some hf
            refine lv_iinc (v := x14) (lv' := [(4, .int x14), (0, .ref ot), (1, .int v1), (2, .int uL1), (3, .int (stL10.1))]) hx hb dX10_fewest_93 hl (k := 4) rfl (by subst ex14; rfl) (by decide) rfl (fun ls hl => ?_)
            refine lv_goto (tgt := 41) hx hb dX10_fewest_96 (by decide) ?_
            cases hf
            exact ih (stL10.1, x14, stL10.2.2) _ _ _ G (lv_sub hl [1, 2, 3, 4, 0] rfl) hoL10
          · replace hf := if_t hf c13
            refine lv_iload_n hx hb dX10_fewest_61 rfl (lv_at hl 3 rfl) ?_
            refine lv_iconst (v := -1) hx hb dX10_fewest_62 (by decide) ?_
            refine lv_icmp_eq (tgt := 78) hx hb dX10_fewest_63 (by decide) (fun c15 => ?_) (fun c15 => ?_)
            · replace hf := if_t hf c15
              refine lv_aload_n hx hb dX10_fewest_78 rfl (lv_at hl 0 rfl) ?_
              refine lv_iload hx hb dX10_fewest_79 (lv_at hl 4 rfl) ?_
              obtain ⟨r16, hcr16, hf⟩ := bd_some hf
              refine p_N (st1 := [.int (bI r16.1)]) (wr := []) (ws' := kMo k ot aMO (r16.2)) (run_V (rest := []) X (ctX10_areFreed hZ ot aMO hcr16) mk_X10_areFreed ml_X10_183 ⟨(Nat.le_of_ble_eq_true rfl), (Nat.le_of_ble_eq_true rfl)⟩ G [0, 1, 2, 3, 4, 5, 6, 7] rfl rfl 0 rfl rfl rfl hl.1 rfl (Nat.le_of_ble_eq_true rfl) dX10_fewest_81 ⟨Nat.zero_le _, Nat.zero_le _⟩) rfl G [0, 1, 2, 3, 4, 5, 6, 7] [] 8 rfl rfl rfl rfl rfl (by decide) (by decide) rfl (fun H locs G => ?_)
              refine lv_if_ne (tgt := 90) hx hb dX10_fewest_84 (by decide) (fun c17 => ?_) (fun c17 => ?_)
              · replace hf := if_f hf c17
                refine lv_iload hx hb dX10_fewest_90 (lv_at hl 4 rfl) ?_
                refine lv_istore_n (lv' := [(3, .int (stL10.2.1)), (0, .ref ot), (1, .int v1), (2, .int uL1), (4, .int (stL10.2.1))]) hx hb dX10_fewest_92 rfl hl (by decide) rfl (fun ls hl => ?_)
                obtain ⟨x18, ex18, hf⟩ := nm_some hf
                refine lv_iinc (v := x18) (lv' := [(4, .int x18), (3, .int (stL10.2.1)), (0, .ref ot), (1, .int v1), (2, .int uL1)]) hx hb dX10_fewest_93 hl (k := 4) rfl (by subst ex18; rfl) (by decide) rfl (fun ls hl => ?_)
                refine lv_goto (tgt := 41) hx hb dX10_fewest_96 (by decide) ?_
                cases hf
                exact ih (stL10.2.1, x18, r16.2) _ _ _ G (lv_sub hl [2, 3, 4, 1, 0] rfl) hoL10
              · replace hf := if_t hf c17
                refine lv_goto (tgt := 93) hx hb dX10_fewest_87 (by decide) ?_
                obtain ⟨x19, ex19, hf⟩ := nm_some hf
                refine lv_iinc (v := x19) (lv' := [(4, .int x19), (0, .ref ot), (1, .int v1), (2, .int uL1), (3, .int (stL10.1))]) hx hb dX10_fewest_93 hl (k := 4) rfl (by subst ex19; rfl) (by decide) rfl (fun ls hl => ?_)
                refine lv_goto (tgt := 41) hx hb dX10_fewest_96 (by decide) ?_
                cases hf
                exact ih (stL10.1, x19, r16.2) _ _ _ G (lv_sub hl [1, 2, 3, 4, 0] rfl) hoL10
            · replace hf := if_f hf c15
              refine lv_iload hx hb dX10_fewest_66 (lv_at hl 4 rfl) ?_
              obtain ⟨r20, hcr20, hf⟩ := bd_some hf
              refine p_R (st1 := [.int r20]) (run_S (rest := []) X (ctX10_bits hZ hcr20) mk_X10_bits ml_X10_113 ⟨(Nat.le_of_ble_eq_true rfl), (Nat.le_of_ble_eq_true rfl)⟩ G [] rfl rfl rfl hl.1 rfl (Nat.le_of_ble_eq_true rfl) dX10_fewest_68 ⟨Nat.zero_le _, Nat.zero_le _⟩) rfl ?_
              refine lv_iload_n hx hb dX10_fewest_71 rfl (lv_at hl 3 rfl) ?_
              obtain ⟨r21, hcr21, hf⟩ := bd_some hf
              refine p_R (st1 := [.int r21, .int r20]) (run_S (rest := [.int r20]) X (ctX10_bits hZ hcr21) mk_X10_bits ml_X10_113 ⟨(Nat.le_of_ble_eq_true rfl), (Nat.le_of_ble_eq_true rfl)⟩ G [] rfl rfl rfl hl.1 rfl (Nat.le_of_ble_eq_true rfl) dX10_fewest_72 ⟨Nat.zero_le _, Nat.zero_le _⟩) rfl ?_
              refine lv_icmp_ge (tgt := 93) hx hb dX10_fewest_75 (by decide) (fun c22 => ?_) (fun c22 => ?_)
              · replace hf := if_t hf c22
                obtain ⟨x23, ex23, hf⟩ := nm_some hf
                refine lv_iinc (v := x23) (lv' := [(4, .int x23), (0, .ref ot), (1, .int v1), (2, .int uL1), (3, .int (stL10.1))]) hx hb dX10_fewest_93 hl (k := 4) rfl (by subst ex23; rfl) (by decide) rfl (fun ls hl => ?_)
                refine lv_goto (tgt := 41) hx hb dX10_fewest_96 (by decide) ?_
                cases hf
                exact ih (stL10.1, x23, stL10.2.2) _ _ _ G (lv_sub hl [1, 2, 3, 4, 0] rfl) hoL10
              · replace hf := if_f hf c22
                refine lv_aload_n hx hb dX10_fewest_78 rfl (lv_at hl 0 rfl) ?_
                refine lv_iload hx hb dX10_fewest_79 (lv_at hl 4 rfl) ?_
                obtain ⟨r24, hcr24, hf⟩ := bd_some hf
                refine p_N (st1 := [.int (bI r24.1)]) (wr := []) (ws' := kMo k ot aMO (r24.2)) (run_V (rest := []) X (ctX10_areFreed hZ ot aMO hcr24) mk_X10_areFreed ml_X10_183 ⟨(Nat.le_of_ble_eq_true rfl), (Nat.le_of_ble_eq_true rfl)⟩ G [0, 1, 2, 3, 4, 5, 6, 7] rfl rfl 0 rfl rfl rfl hl.1 rfl (Nat.le_of_ble_eq_true rfl) dX10_fewest_81 ⟨Nat.zero_le _, Nat.zero_le _⟩) rfl G [0, 1, 2, 3, 4, 5, 6, 7] [] 8 rfl rfl rfl rfl rfl (by decide) (by decide) rfl (fun H locs G => ?_)
                refine lv_if_ne (tgt := 90) hx hb dX10_fewest_84 (by decide) (fun c25 => ?_) (fun c25 => ?_)
                · replace hf := if_f hf c25
                  refine lv_iload hx hb dX10_fewest_90 (lv_at hl 4 rfl) ?_
                  refine lv_istore_n (lv' := [(3, .int (stL10.2.1)), (0, .ref ot), (1, .int v1), (2, .int uL1), (4, .int (stL10.2.1))]) hx hb dX10_fewest_92 rfl hl (by decide) rfl (fun ls hl => ?_)
                  obtain ⟨x26, ex26, hf⟩ := nm_some hf
                  refine lv_iinc (v := x26) (lv' := [(4, .int x26), (3, .int (stL10.2.1)), (0, .ref ot), (1, .int v1), (2, .int uL1)]) hx hb dX10_fewest_93 hl (k := 4) rfl (by subst ex26; rfl) (by decide) rfl (fun ls hl => ?_)
                  refine lv_goto (tgt := 41) hx hb dX10_fewest_96 (by decide) ?_
                  cases hf
                  exact ih (stL10.2.1, x26, r24.2) _ _ _ G (lv_sub hl [2, 3, 4, 1, 0] rfl) hoL10
                · replace hf := if_t hf c25
                  refine lv_goto (tgt := 93) hx hb dX10_fewest_87 (by decide) ?_
                  obtain ⟨x27, ex27, hf⟩ := nm_some hf
                  refine lv_iinc (v := x27) (lv' := [(4, .int x27), (0, .ref ot), (1, .int v1), (2, .int uL1), (3, .int (stL10.1))]) hx hb dX10_fewest_93 hl (k := 4) rfl (by subst ex27; rfl) (by decide) rfl (fun ls hl => ?_)
                  refine lv_goto (tgt := 41) hx hb dX10_fewest_96 (by decide) ?_
                  cases hf
                  exact ih (stL10.1, x27, r24.2) _ _ _ G (lv_sub hl [1, 2, 3, 4, 0] rfl) hoL10
    exact LL10 nL10 ((-1 : Int32), (0 : Int32), MO) _ _ _ G (lv_sub hl [2, 3, 4, 1, 0] rfl) hitL10
  have LL1 : ∀ (n : Nat) (stL1 : Int32 × Int32) (H : Heap) (locs : List Loc) (ls : Array Slot), Wo D (wA (kMo k ot aMO (MO))) s.heap (kMo k ot aMO (MO)) H locs → lv_has ls 5 [(0, .ref ot), (1, .int v1), (2, .int (stL1.1)), (3, .int (stL1.2))] → it (FX10_fewest_4 MO) n stL1 = some exL1 → W p l e (rmz 8 178) s m [.ref ot, .int v1].toArray below meth c H locs 0 0 (MQ below (Qm D (some (.int q.1)) (kMo k ot aMO (MO)) (kMo k ot aMO (q.2))) [.ref ot, .int v1].toArray s 0 0 (wA (kMo k ot aMO (MO)))) (F0 m 4 ls []) := by
    intro n
    induction n with
    | zero =>
      intro stL1 H locs ls G hl hit
      exact (it_zero hit).elim
    | succ n ih =>
      intro stL1 H locs ls G hl hit
      obtain ⟨oL1, hf, hoL1⟩ := it_bd hit
      unfold FX10_fewest_4 at hf
      refine lv_iload_n hx hb dX10_fewest_4 rfl (lv_at hl 3 rfl) ?_
      refine lv_aload_n hx hb dX10_fewest_5 rfl (lv_at hl 0 rfl) ?_
      obtain ⟨r2, hcr2, hf⟩ := bd_some hf
      refine p_R (st1 := [.int r2, .int (stL1.2)]) (run_V (rest := [.int (stL1.2)]) X (ctX10_workers hZ ot aMO hcr2) mk_X10_workers ml_X10_43 ⟨(Nat.le_of_ble_eq_true rfl), (Nat.le_of_ble_eq_true rfl)⟩ G [0, 1, 2, 3, 4, 5, 6, 7] rfl rfl 0 rfl rfl rfl hl.1 rfl (Nat.le_of_ble_eq_true rfl) dX10_fewest_6 ⟨Nat.zero_le _, Nat.zero_le _⟩) rfl ?_
      refine lv_icmp_ge (tgt := 36) hx hb dX10_fewest_9 (by decide) (fun c3 => ?_) (fun c3 => ?_)
      · replace hf := if_t hf c3
        cases hf
        exact KL1_0 stL1.1 _ _ _ (it_out hoL1) G (lv_sub hl [0, 1, 2] rfl)
      · replace hf := if_f hf c3
        refine lv_iload_n hx hb dX10_fewest_12 rfl (lv_at hl 2 rfl) ?_
        refine lv_aload_n hx hb dX10_fewest_13 rfl (lv_at hl 0 rfl) ?_
        refine lv_iload_n hx hb dX10_fewest_14 rfl (lv_at hl 3 rfl) ?_
        obtain ⟨r4, hcr4, hf⟩ := bd_some hf
        refine p_R (st1 := [.int (bI r4), .int (stL1.1)]) (run_V (rest := [.int (stL1.1)]) X (ctX10_isHeldUp hZ ot aMO hcr4) mk_X10_isHeldUp ml_X10_84 ⟨(Nat.le_of_ble_eq_true rfl), (Nat.le_of_ble_eq_true rfl)⟩ G [0, 1, 2, 3, 4, 5, 6, 7] rfl rfl 0 rfl rfl rfl hl.1 rfl (Nat.le_of_ble_eq_true rfl) dX10_fewest_15 ⟨Nat.zero_le _, Nat.zero_le _⟩) rfl ?_
        refine lv_if_eq (tgt := 27) hx hb dX10_fewest_18 (by decide) (fun c5 => ?_) (fun c5 => ?_)
        · replace hf := if_t hf c5
          refine lv_iconst (v := 0) hx hb dX10_fewest_27 (by decide) ?_
          refine lv_ior hx hb dX10_fewest_28 ?_
          obtain ⟨x6, ex6, hf⟩ := nm_some hf
          refine r_top (congrArg Value.int ex6) ?_
          refine lv_istore_n (lv' := [(2, .int x6), (0, .ref ot), (1, .int v1), (3, .int (stL1.2))]) hx hb dX10_fewest_29 rfl hl (by decide) rfl (fun ls hl => ?_)
          obtain ⟨x7, ex7, hf⟩ := nm_some hf
          refine lv_iinc (v := x7) (lv' := [(3, .int x7), (2, .int x6), (0, .ref ot), (1, .int v1)]) hx hb dX10_fewest_30 hl (k := 3) rfl (by subst ex7; rfl) (by decide) rfl (fun ls hl => ?_)
          refine lv_goto (tgt := 4) hx hb dX10_fewest_33 (by decide) ?_
          cases hf
          exact ih (x6, x7) _ _ _ G (lv_sub hl [2, 3, 1, 0] rfl) hoL1
        · replace hf := if_f hf c5
          refine lv_iconst (v := 1) hx hb dX10_fewest_21 (by decide) ?_
          refine lv_iload_n hx hb dX10_fewest_22 rfl (lv_at hl 3 rfl) ?_
          refine lv_ishl hx hb dX10_fewest_23 ?_
          refine lv_goto (tgt := 28) hx hb dX10_fewest_24 (by decide) ?_
          refine lv_ior hx hb dX10_fewest_28 ?_
          obtain ⟨x8, ex8, hf⟩ := nm_some hf
          refine r_top (congrArg Value.int ex8) ?_
          refine lv_istore_n (lv' := [(2, .int x8), (0, .ref ot), (1, .int v1), (3, .int (stL1.2))]) hx hb dX10_fewest_29 rfl hl (by decide) rfl (fun ls hl => ?_)
          obtain ⟨x9, ex9, hf⟩ := nm_some hf
          refine lv_iinc (v := x9) (lv' := [(3, .int x9), (2, .int x8), (0, .ref ot), (1, .int v1)]) hx hb dX10_fewest_30 hl (k := 3) rfl (by subst ex9; rfl) (by decide) rfl (fun ls hl => ?_)
          refine lv_goto (tgt := 4) hx hb dX10_fewest_33 (by decide) ?_
          cases hf
          exact ih (x8, x9) _ _ _ G (lv_sub hl [2, 3, 1, 0] rfl) hoL1
  exact LL1 nL1 ((0 : Int32), (0 : Int32)) _ _ _ G (lv_sub hl [2, 3, 1, 0] rfl) hitL1
theorem mk_X10_fewest : MV yX10_fewest cX10_fewest 5 (some .int) 1 := ⟨co_X10_fewest, in_X10, im_X10_fewest, se_X10_fewest, by decide +kernel, by decide +kernel⟩
