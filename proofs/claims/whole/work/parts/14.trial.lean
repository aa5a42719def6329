noncomputable def FX6_isBetter (TR : TrT) (SC : ScT) (v2 : Int32) (v3 : Int32) : Option (Bool) :=
  ix v2 8 <|
  ix v3 8 <|
  if (Tr_frees TR (Int32.toNatClampNeg v2)) = (Tr_frees TR (Int32.toNatClampNeg v3)) then (
    (FX3_quiet SC v2).bind fun r4 =>
    (FX3_quiet SC v3).bind fun r5 =>
    if r4 ≤ r5 then (
      some false
    ) else (
      some true
    )
  ) else (
    ix v2 8 <|
    ix v3 8 <|
    if (Tr_frees TR (Int32.toNatClampNeg v2)) ≤ (Tr_frees TR (Int32.toNatClampNeg v3)) then (
      some false
    ) else (
      some true
    )
  )
set_option maxHeartbeats 4000000 in
set_option maxRecDepth 100000 in
theorem ctX6_isBetter {l : Launch} {D : va_G} {k : Nat → ClassId} {Z : ZT} (hZ : ZOK Z) (ot : Nat) (o1 : Nat) (aTR : Nat → Nat) (aSC : Nat → Nat) {TR : TrT} {SC : ScT} {v2 : Int32} {v3 : Int32} {q : Bool} (hf : FX6_isBetter TR SC v2 v3 = some q) :
    CR l D k Z yX6_isBetter cX6_isBetter 4 (some .boolean) 1 21 [.ref ot, .ref o1, .int v2, .int v3] (some (.int (bI q))) (kTr k ot aTR (TR) ++ (kSc k o1 aSC (SC))) := by
  refine CR.start hZ (by decide) (Nat.le_of_ble_eq_true rfl) ?_
  intro p e s m below meth c ls X hl G
  have hx := X.1
  have hb := X.2.1
  have hl : lv_has ls 4 [(0, .ref ot), (1, .ref o1), (2, .int v2), (3, .int v3)] := hl
  unfold FX6_isBetter at hf
  refine lv_aload_n hx hb dX6_isBetter_0 rfl (lv_at hl 0 rfl) ?_
  refine r_get X inw_X6 G 0 rfl rfl 2 (by decide) fl_X6_25 (v := .ref (aTR 2)) rfl dX6_isBetter_1 ?_
  refine lv_iload_n hx hb dX6_isBetter_4 rfl (lv_at hl 2 rfl) ?_
  obtain ⟨h1, hf⟩ := ix_some hf
  refine r_iald X G 1 rfl h1 dX6_isBetter_5 ?_
  refine lv_aload_n hx hb dX6_isBetter_6 rfl (lv_at hl 0 rfl) ?_
  refine r_get X inw_X6 G 0 rfl rfl 2 (by decide) fl_X6_25 (v := .ref (aTR 2)) rfl dX6_isBetter_7 ?_
  refine lv_iload_n hx hb dX6_isBetter_10 rfl (lv_at hl 3 rfl) ?_
  obtain ⟨h2, hf⟩ := ix_some hf
  refine r_iald X G 1 rfl h2 dX6_isBetter_11 ?_
  refine lv_icmp_eq (tgt := 36) hx hb dX6_isBetter_12 (by decide) (fun c3 => ?_) (fun c3 => ?_)
  · replace hf := if_t hf c3
    refine lv_aload_n hx hb dX6_isBetter_36 rfl (lv_at hl 1 rfl) ?_
    refine lv_iload_n hx hb dX6_isBetter_37 rfl (lv_at hl 2 rfl) ?_
    obtain ⟨r4, hcr4, hf⟩ := bd_some hf
    refine p_R (st1 := [.int r4]) (run_V (rest := []) X (ctX3_quiet hZ o1 aSC hcr4) mk_X3_quiet ml_X6_68 ⟨(Nat.le_of_ble_eq_true rfl), (Nat.le_of_ble_eq_true rfl)⟩ G [2, 3, 4, 5, 6, 7, 8, 9, 10] rfl rfl 2 rfl rfl rfl hl.1 rfl (Nat.le_of_ble_eq_true rfl) dX6_isBetter_38 ⟨Nat.zero_le _, Nat.zero_le _⟩) rfl ?_
    refine lv_aload_n hx hb dX6_isBetter_41 rfl (lv_at hl 1 rfl) ?_
    refine lv_iload_n hx hb dX6_isBetter_42 rfl (lv_at hl 3 rfl) ?_
    obtain ⟨r5, hcr5, hf⟩ := bd_some hf
    refine p_R (st1 := [.int r5, .int r4]) (run_V (rest := [.int r4]) X (ctX3_quiet hZ o1 aSC hcr5) mk_X3_quiet ml_X6_68 ⟨(Nat.le_of_ble_eq_true rfl), (Nat.le_of_ble_eq_true rfl)⟩ G [2, 3, 4, 5, 6, 7, 8, 9, 10] rfl rfl 2 rfl rfl rfl hl.1 rfl (Nat.le_of_ble_eq_true rfl) dX6_isBetter_43 ⟨Nat.zero_le _, Nat.zero_le _⟩) rfl ?_
    refine lv_icmp_le (tgt := 53) hx hb dX6_isBetter_46 (by decide) (fun c6 => ?_) (fun c6 => ?_)
    · replace hf := if_t hf c6
      refine lv_iconst (v := 0) hx hb dX6_isBetter_53 (by decide) ?_
      cases hf
      exact e_rz _ rfl X dX6_isBetter_54
    · replace hf := if_f hf c6
      refine lv_iconst (v := 1) hx hb dX6_isBetter_49 (by decide) ?_
      refine lv_goto (tgt := 54) hx hb dX6_isBetter_50 (by decide) ?_
      cases hf
      exact e_rz _ rfl X dX6_isBetter_54
  · replace hf := if_f hf c3
    refine lv_aload_n hx hb dX6_isBetter_15 rfl (lv_at hl 0 rfl) ?_
    refine r_get X inw_X6 G 0 rfl rfl 2 (by decide) fl_X6_25 (v := .ref (aTR 2)) rfl dX6_isBetter_16 ?_
    refine lv_iload_n hx hb dX6_isBetter_19 rfl (lv_at hl 2 rfl) ?_
    obtain ⟨h7, hf⟩ := ix_some hf
    refine r_iald X G 1 rfl h7 dX6_isBetter_20 ?_
    refine lv_aload_n hx hb dX6_isBetter_21 rfl (lv_at hl 0 rfl) ?_
    refine r_get X inw_X6 G 0 rfl rfl 2 (by decide) fl_X6_25 (v := .ref (aTR 2)) rfl dX6_isBetter_22 ?_
    refine lv_iload_n hx hb dX6_isBetter_25 rfl (lv_at hl 3 rfl) ?_
    obtain ⟨h8, hf⟩ := ix_some hf
    refine r_iald X G 1 rfl h8 dX6_isBetter_26 ?_
    refine lv_icmp_le (tgt := 34) hx hb dX6_isBetter_27 (by decide) (fun c9 => ?_) (fun c9 => ?_)
    · replace hf := if_t hf c9
      refine lv_iconst (v := 0) hx hb dX6_isBetter_34 (by decide) ?_
      cases hf
      exact e_rz _ rfl X dX6_isBetter_35
    · replace hf := if_f hf c9
      refine lv_iconst (v := 1) hx hb dX6_isBetter_30 (by decide) ?_
      refine lv_goto (tgt := 35) hx hb dX6_isBetter_31 (by decide) ?_
      cases hf
      exact e_rz _ rfl X dX6_isBetter_35
theorem mk_X6_isBetter : MV yX6_isBetter cX6_isBetter 4 (some .boolean) 3 := ⟨co_X6_isBetter, in_X6, im_X6_isBetter, se_X6_isBetter, by decide +kernel, by decide +kernel⟩
noncomputable def FX6_blocker_43 (TR : TrT) (SC : ScT) (VW : VwT) (vJ4 : Int32) : (Int32 × Int32) → Option ((Int32 × Int32) ⊕ (Int32)) := fun stL5 =>
  if (Vw_workers VW) ≤ stL5.2 then (
    some (.inr stL5.1)
  ) else (
    (FX9_has vJ4 stL5.2).bind fun r7 =>
    if (bI r7) = 0 then (
      nm (stL5.2 + 1) fun x9 =>
      some (.inl (stL5.1, x9))
    ) else (
      if stL5.1 = (-1 : Int32) then (
        nm (stL5.2 + 1) fun x11 =>
        some (.inl (stL5.2, x11))
      ) else (
        (FX6_isBetter TR SC stL5.2 stL5.1).bind fun r12 =>
        if (bI r12) = 0 then (
          nm (stL5.2 + 1) fun x14 =>
          some (.inl (stL5.1, x14))
        ) else (
          nm (stL5.2 + 1) fun x15 =>
          some (.inl (stL5.2, x15))
        )
      )
    )
  )
noncomputable def FX6_blocker_j35 (TR : TrT) (SC : ScT) (VW : VwT) (vJ4 : Int32) : Option (Int32) :=
  (itr (FX6_blocker_43 TR SC VW vJ4) ((-1 : Int32), (0 : Int32))).bind fun uL5 =>
  some uL5
noncomputable def FX6_blocker (TR : TrT) (SC : ScT) (VW : VwT) (v3 : Int32) : Option (Int32) :=
  (FX9_has (Vw_heldUp VW) v3).bind fun r1 =>
  if (bI r1) = 0 then (
    some (-1 : Int32)
  ) else (
    (FX9_has (Vw_hard VW) v3).bind fun r3 =>
    if (bI r3) = 0 then (
      FX6_blocker_j35 TR SC VW (Vw_heldUp VW)
    ) else (
      FX6_blocker_j35 TR SC VW (Vw_hard VW)
    )
  )
set_option maxHeartbeats 4000000 in
set_option maxRecDepth 100000 in
theorem ctX6_blocker {l : Launch} {D : va_G} {k : Nat → ClassId} {Z : ZT} (hZ : ZOK Z) (ot : Nat) (o1 : Nat) (o2 : Nat) (aTR : Nat → Nat) (aSC : Nat → Nat) (aVW : Nat → Nat) {TR : TrT} {SC : ScT} {VW : VwT} {v3 : Int32} {q : Int32} (hf : FX6_blocker TR SC VW v3 = some q) :
    CR l D k Z yX6_blocker cX6_blocker 7 (some .int) 2 44 [.ref ot, .ref o1, .ref o2, .int v3] (some (.int q)) (kTr k ot aTR (TR) ++ (kSc k o1 aSC (SC) ++ (kVw k o2 aVW (VW)))) := by
  refine CR.start hZ (by decide) (Nat.le_of_ble_eq_true rfl) ?_
  intro p e s m below meth c ls X hl G
  have hx := X.1
  have hb := X.2.1
  have hl : lv_has ls 7 [(0, .ref ot), (1, .ref o1), (2, .ref o2), (3, .int v3)] := hl
  unfold FX6_blocker at hf
  refine lv_aload_n hx hb dX6_blocker_0 rfl (lv_at hl 2 rfl) ?_
  refine r_get X inw_X7 G 11 rfl rfl 2 (by decide) fl_X6_38 (v := .int (Vw_heldUp VW)) rfl dX6_blocker_1 ?_
  refine lv_iload_n hx hb dX6_blocker_4 rfl (lv_at hl 3 rfl) ?_
  obtain ⟨r1, hcr1, hf⟩ := bd_some hf
  refine p_R (st1 := [.int (bI r1)]) (run_N (rest := []) X (ctX9_has hZ hcr1) mk_X9_has mn_X6_41 ⟨(Nat.le_of_ble_eq_true rfl), (Nat.le_of_ble_eq_true rfl)⟩ G [] rfl rfl rfl hl.1 rfl (Nat.le_of_ble_eq_true rfl) dX6_blocker_5 ⟨Nat.zero_le _, Nat.zero_le _⟩) rfl ?_
  refine lv_if_ne (tgt := 13) hx hb dX6_blocker_8 (by decide) (fun c2 => ?_) (fun c2 => ?_)
  · replace hf := if_f hf c2
    refine lv_aload_n hx hb dX6_blocker_13 rfl (lv_at hl 2 rfl) ?_
    refine r_get X inw_X7 G 11 rfl rfl 4 (by decide) fl_X6_35 (v := .int (Vw_hard VW)) rfl dX6_blocker_14 ?_
    refine lv_iload_n hx hb dX6_blocker_17 rfl (lv_at hl 3 rfl) ?_
    obtain ⟨r3, hcr3, hf⟩ := bd_some hf
    refine p_R (st1 := [.int (bI r3)]) (run_N (rest := []) X (ctX9_has hZ hcr3) mk_X9_has mn_X6_41 ⟨(Nat.le_of_ble_eq_true rfl), (Nat.le_of_ble_eq_true rfl)⟩ G [] rfl rfl rfl hl.1 rfl (Nat.le_of_ble_eq_true rfl) dX6_blocker_18 ⟨Nat.zero_le _, Nat.zero_le _⟩) rfl ?_
    have JJ4 : ∀ (vJ4 : Int32) (ls : Array Slot), lv_has ls 7 [(0, .ref ot), (1, .ref o1), (2, .ref o2)] → FX6_blocker_j35 TR SC VW vJ4 = some q → W p l e (rmz 2 44) s m [.ref ot, .ref o1, .ref o2, .int v3].toArray below meth c s.heap [] 0 0 (MQ below (Qr (some (.int q))) [.ref ot, .ref o1, .ref o2, .int v3].toArray s 0 0 (fun _ => False)) (F0 m 35 ls [.int vJ4]) := by
      intro vJ4 ls hl hf
      unfold FX6_blocker_j35 at hf
      refine lv_istore (lv' := [(4, .int vJ4), (0, .ref ot), (1, .ref o1), (2, .ref o2)]) hx hb dX6_blocker_35 hl (by decide) rfl (fun ls hl => ?_)
      refine lv_iconst (v := -1) hx hb dX6_blocker_37 (by decide) ?_
      refine lv_istore (lv' := [(5, .int (-1 : Int32)), (4, .int vJ4), (0, .ref ot), (1, .ref o1), (2, .ref o2)]) hx hb dX6_blocker_38 hl (by decide) rfl (fun ls hl => ?_)
      refine lv_iconst (v := 0) hx hb dX6_blocker_40 (by decide) ?_
      refine lv_istore (lv' := [(6, .int (0 : Int32)), (5, .int (-1 : Int32)), (4, .int vJ4), (0, .ref ot), (1, .ref o1), (2, .ref o2)]) hx hb dX6_blocker_41 hl (by decide) rfl (fun ls hl => ?_)
      obtain ⟨exL5, hitL5, hfL5⟩ := bd_some hf
      obtain ⟨nL5, hitL5⟩ := itr_ex hitL5
      have KL5_0 : ∀ (u : Int32) (ls : Array Slot), exL5 = u → lv_has ls 7 [(5, .int u)] → W p l e (rmz 2 44) s m [.ref ot, .ref o1, .ref o2, .int v3].toArray below meth c s.heap [] 0 0 (MQ below (Qr (some (.int q))) [.ref ot, .ref o1, .ref o2, .int v3].toArray s 0 0 (fun _ => False)) (F0 m 90 ls []) := by
        intro uL5 ls hex hl
        rw [hex] at hfL5
        have hf := hfL5
        refine lv_iload hx hb dX6_blocker_90 (lv_at hl 0 rfl) ?_
        cases hf
        exact e_ri X dX6_blocker_92
      have LL5 : ∀ (n : Nat) (stL5 : Int32 × Int32) (ls : Array Slot), lv_has ls 7 [(0, .ref ot), (1, .ref o1), (2, .ref o2), (4, .int vJ4), (5, .int (stL5.1)), (6, .int (stL5.2))] → it (FX6_blocker_43 TR SC VW vJ4) n stL5 = some exL5 → W p l e (rmz 2 44) s m [.ref ot, .ref o1, .ref o2, .int v3].toArray below meth c s.heap [] 0 0 (MQ below (Qr (some (.int q))) [.ref ot, .ref o1, .ref o2, .int v3].toArray s 0 0 (fun _ => False)) (F0 m 43 ls []) := by
        intro n
        induction n with
        | zero =>
          intro stL5 ls hl hit
          exact (it_zero hit).elim
        | succ n ih =>
          intro stL5 ls hl hit
          obtain ⟨oL5, hf, hoL5⟩ := it_bd hit
          unfold FX6_blocker_43 at hf
          refine lv_iload hx hb dX6_blocker_43 (lv_at hl 5 rfl) ?_
          refine lv_aload_n hx hb dX6_blocker_45 rfl (lv_at hl 2 rfl) ?_
          refine r_get X inw_X7 G 11 rfl rfl 0 (by decide) fl_X6_63 (v := .int (Vw_workers VW)) rfl dX6_blocker_46 ?_
          refine lv_icmp_ge (tgt := 90) hx hb dX6_blocker_49 (by decide) (fun c6 => ?_) (fun c6 => ?_)
          · replace hf := if_t hf c6
            cases hf
            exact KL5_0 stL5.1 _ (it_out hoL5) (lv_sub hl [4] rfl)
          · replace hf := if_f hf c6
            refine lv_iload hx hb dX6_blocker_52 (lv_at hl 3 rfl) ?_
            refine lv_iload hx hb dX6_blocker_54 (lv_at hl 5 rfl) ?_
            obtain ⟨r7, hcr7, hf⟩ := bd_some hf
            refine p_R (st1 := [.int (bI r7)]) (run_N (rest := []) X (ctX9_has hZ hcr7) mk_X9_has mn_X6_41 ⟨(Nat.le_of_ble_eq_true rfl), (Nat.le_of_ble_eq_true rfl)⟩ G [] rfl rfl rfl hl.1 rfl (Nat.le_of_ble_eq_true rfl) dX6_blocker_56 ⟨Nat.zero_le _, Nat.zero_le _⟩) rfl ?_
            refine lv_if_eq (tgt := 84) hx hb dX6_blocker_59 (by decide) (fun c8 => ?_) (fun c8 => ?_)
            · replace hf := if_t hf c8
              obtain ⟨x9, ex9, hf⟩ := nm_some hf
              refine lv_iinc (v := x9) (lv' := [(6, .int x9), (0, .ref ot), (1, .ref o1), (2, .ref o2), (4, .int vJ4), (5, .int (stL5.1))]) hx hb dX6_blocker_84 hl (k := 5) rfl (by subst ex9; rfl) (by decide) rfl (fun ls hl => ?_)
              refine lv_goto (tgt := 43) hx hb dX6_blocker_87 (by decide) ?_
              cases hf
              exact ih (stL5.1, x9) _ (lv_sub hl [1, 2, 3, 4, 5, 0] rfl) hoL5
            · replace hf := if_f hf c8
              refine lv_iload hx hb dX6_blocker_62 (lv_at hl 4 rfl) ?_
              refine lv_iconst (v := -1) hx hb dX6_blocker_64 (by decide) ?_
              refine lv_icmp_eq (tgt := 80) hx hb dX6_blocker_65 (by decide) (fun c10 => ?_) (fun c10 => ?_)
              · replace hf := if_t hf c10
                refine lv_iload hx hb dX6_blocker_80 (lv_at hl 5 rfl) ?_
                refine lv_istore (lv' := [(5, .int (stL5.2)), (0, .ref ot), (1, .ref o1), (2, .ref o2), (4, .int vJ4), (6, .int (stL5.2))]) hx hb dX6_blocker_82 hl (by decide) rfl (fun ls hl => ?_)
                obtain ⟨x11, ex11, hf⟩ := nm_some hf
                refine lv_iinc (v := x11) (lv' := [(6, .int x11), (5, .int (stL5.2)), (0, .ref ot), (1, .ref o1), (2, .ref o2), (4, .int vJ4)]) hx hb dX6_blocker_84 hl (k := 5) rfl (by subst ex11; rfl) (by decide) rfl (fun ls hl => ?_)
                refine lv_goto (tgt := 43) hx hb dX6_blocker_87 (by decide) ?_
                cases hf
                exact ih (stL5.2, x11) _ (lv_sub hl [2, 3, 4, 5, 1, 0] rfl) hoL5
              · replace hf := if_f hf c10
                refine lv_aload_n hx hb dX6_blocker_68 rfl (lv_at hl 0 rfl) ?_
                refine lv_aload_n hx hb dX6_blocker_69 rfl (lv_at hl 1 rfl) ?_
                refine lv_iload hx hb dX6_blocker_70 (lv_at hl 5 rfl) ?_
                refine lv_iload hx hb dX6_blocker_72 (lv_at hl 4 rfl) ?_
                obtain ⟨r12, hcr12, hf⟩ := bd_some hf
                refine p_R (st1 := [.int (bI r12)]) (run_V (rest := []) X (ctX6_isBetter hZ ot o1 aTR aSC hcr12) mk_X6_isBetter ml_X6_64 ⟨(Nat.le_of_ble_eq_true rfl), (Nat.le_of_ble_eq_true rfl)⟩ G [0, 1, 2, 3, 4, 5, 6, 7, 8, 9, 10] rfl rfl 0 rfl rfl rfl hl.1 rfl (Nat.le_of_ble_eq_true rfl) dX6_blocker_74 ⟨Nat.zero_le _, Nat.zero_le _⟩) rfl ?_
                refine lv_if_eq (tgt := 84) hx hb dX6_blocker_77 (by decide) (fun c13 => ?_) (fun c13 => ?_)
                · replace hf := if_t hf c13
                  obtain ⟨x14, ex14, hf⟩ := nm_some hf
                  refine lv_iinc (v := x14) (lv' := [(6, .int x14), (0, .ref ot), (1, .ref o1), (2, .ref o2), (4, .int vJ4), (5, .int (stL5.1))]) hx hb dX6_blocker_84 hl (k := 5) rfl (by subst ex14; rfl) (by decide) rfl (fun ls hl => ?_)
                  refine lv_goto (tgt := 43) hx hb dX6_blocker_87 (by decide) ?_
                  cases hf
                  exact ih (stL5.1, x14) _ (lv_sub hl [1, 2, 3, 4, 5, 0] rfl) hoL5
                · replace hf := if_f hf c13
                  refine lv_iload hx hb dX6_blocker_80 (lv_at hl 5 rfl) ?_
                  refine lv_istore (lv' := [(5, .int (stL5.2)), (0, .ref ot), (1, .ref o1), (2, .ref o2), (4, .int vJ4), (6, .int (stL5.2))]) hx hb dX6_blocker_82 hl (by decide) rfl (fun ls hl => ?_)
                  obtain ⟨x15, ex15, hf⟩ := nm_some hf
                  refine lv_iinc (v := x15) (lv' := [(6, .int x15), (5, .int (stL5.2)), (0, .ref ot), (1, .ref o1), (2, .ref o2), (4, .int vJ4)]) hx hb dX6_blocker_84 hl (k := 5) rfl (by subst ex15; rfl) (by decide) rfl (fun ls hl => ?_)
                  refine lv_goto (tgt := 43) hx hb dX6_blocker_87 (by decide) ?_
                  cases hf
                  exact ih (stL5.2, x15) _ (lv_sub hl [2, 3, 4, 5, 1, 0] rfl) hoL5
      exact LL5 nL5 ((-1 : Int32), (0 : Int32)) _ (lv_sub hl [3, 4, 5, 2, 1, 0] rfl) hitL5
    refine lv_if_eq (tgt := 31) hx hb dX6_blocker_21 (by decide) (fun c16 => ?_) (fun c16 => ?_)
    · replace hf := if_t hf c16
      refine lv_aload_n hx hb dX6_blocker_31 rfl (lv_at hl 2 rfl) ?_
      refine r_get X inw_X7 G 11 rfl rfl 2 (by decide) fl_X6_38 (v := .int (Vw_heldUp VW)) rfl dX6_blocker_32 ?_
      exact JJ4 (Vw_heldUp VW) _ (lv_sub hl [0, 1, 2] rfl) hf
    · replace hf := if_f hf c16
      refine lv_aload_n hx hb dX6_blocker_24 rfl (lv_at hl 2 rfl) ?_
      refine r_get X inw_X7 G 11 rfl rfl 4 (by decide) fl_X6_35 (v := .int (Vw_hard VW)) rfl dX6_blocker_25 ?_
      refine lv_goto (tgt := 35) hx hb dX6_blocker_28 (by decide) ?_
      exact JJ4 (Vw_hard VW) _ (lv_sub hl [0, 1, 2] rfl) hf
  · replace hf := if_t hf c2
    refine lv_iconst (v := -1) hx hb dX6_blocker_11 (by decide) ?_
    cases hf
    exact e_ri X dX6_blocker_12
theorem mk_X6_blocker : MV yX6_blocker cX6_blocker 7 (some .int) 3 := ⟨co_X6_blocker, in_X6, im_X6_blocker, se_X6_blocker, by decide +kernel, by decide +kernel⟩
noncomputable def FX6_weigh_3 (PL : PlT) (SC_2 : ScT) (VW_2 : VwT) : (Int32 × TrT × ScT × VwT) → Option ((Int32 × TrT × ScT × VwT) ⊕ (TrT × ScT × VwT)) := fun stL1 =>
  if (Pl_workers PL) ≤ stL1.1 then (
    some (.inr (stL1.2.1, stL1.2.2.1, stL1.2.2.2))
  ) else (
    ix stL1.1 8 <|
    nm (sTr_frees stL1.2.1 (upd (Tr_frees stL1.2.1) (Int32.toNatClampNeg stL1.1) (0 : Int32))) fun TR4 =>
    if (Vw_hard VW_2) = 0 then (
      nm (stL1.1 + 1) fun x6 =>
      some (.inl (x6, TR4, stL1.2.2.1, stL1.2.2.2))
    ) else (
      (FX9_has (Vw_heldUp VW_2) stL1.1).bind fun r7 =>
      if (bI r7) = 0 then (
        nm (stL1.1 + 1) fun x9 =>
        some (.inl (x9, TR4, stL1.2.2.1, stL1.2.2.2))
      ) else (
        (FX3_take stL1.2.2.1 SC_2).bind fun r10 =>
        (FX3_letGo r10 PL stL1.1).bind fun r11 =>
        (FX7_look stL1.2.2.2 PL r11).bind fun r12 =>
        (FJ6_bitCount_0f7a4 ((Vw_hard VW_2) &&& ((Vw_hard r12) ^^^ (-1 : Int32)))).bind fun r13 =>
        ix stL1.1 8 <|
        nm (sTr_frees TR4 (upd (Tr_frees TR4) (Int32.toNatClampNeg stL1.1) r13)) fun TR15 =>
        nm (stL1.1 + 1) fun x16 =>
        some (.inl (x16, TR15, r11, r12))
      )
    )
  )
noncomputable def FX6_weigh (TR : TrT) (SC : ScT) (VW : VwT) (PL : PlT) (SC_2 : ScT) (VW_2 : VwT) : Option (TrT × ScT × VwT) :=
  (itr (FX6_weigh_3 PL SC_2 VW_2) ((0 : Int32), TR, SC, VW)).bind fun uL1 =>
  some (uL1.1, uL1.2.1, uL1.2.2)
set_option maxHeartbeats 4000000 in
set_option maxRecDepth 100000 in
theorem ctX6_weigh {l : Launch} {D : va_G} {k : Nat → ClassId} {Z : ZT} (hZ : ZOK Z) (ot : Nat) (o1 : Nat) (o2 : Nat) (o3 : Nat) (aTR : Nat → Nat) (aSC : Nat → Nat) (aVW : Nat → Nat) (aPL : Nat → Nat) (aSC_2 : Nat → Nat) (aVW_2 : Nat → Nat) {TR : TrT} {SC : ScT} {VW : VwT} {PL : PlT} {SC_2 : ScT} {VW_2 : VwT} {q : TrT × ScT × VwT} (hf : FX6_weigh TR SC VW PL SC_2 VW_2 = some q) :
    CM l D k Z yX6_weigh cX6_weigh 5 none 4 92 [.ref ot, .ref o1, .ref o2, .ref o3] none (kTr k ot aTR (TR) ++ (kSc k (aTR 0) aSC (SC) ++ (kVw k (aTR 1) aVW (VW) ++ (kPl k o1 aPL (PL) ++ (kSc k o2 aSC_2 (SC_2) ++ (kVw k o3 aVW_2 (VW_2))))))) (kTr k ot aTR (q.1) ++ (kSc k (aTR 0) aSC (q.2.1) ++ (kVw k (aTR 1) aVW (q.2.2) ++ (kPl k o1 aPL (PL) ++ (kSc k o2 aSC_2 (SC_2) ++ (kVw k o3 aVW_2 (VW_2))))))) := by
  refine CM.start hZ (by decide) (Nat.le_of_ble_eq_true rfl) ?_
  intro p e s m below meth c ls X hl G
  have hx := X.1
  have hb := X.2.1
  have hl : lv_has ls 5 [(0, .ref ot), (1, .ref o1), (2, .ref o2), (3, .ref o3)] := hl
  unfold FX6_weigh at hf
  refine lv_iconst (v := 0) hx hb dX6_weigh_0 (by decide) ?_
  refine lv_istore (lv' := [(4, .int (0 : Int32)), (0, .ref ot), (1, .ref o1), (2, .ref o2), (3, .ref o3)]) hx hb dX6_weigh_1 hl (by decide) rfl (fun ls hl => ?_)
  obtain ⟨exL1, hitL1, hfL1⟩ := bd_some hf
  obtain ⟨nL1, hitL1⟩ := itr_ex hitL1
  have KL1_0 : ∀ (u : TrT × ScT × VwT) (H : Heap) (locs : List Loc) (ls : Array Slot), exL1 = u → Wo D (wA (kTr k ot aTR (TR) ++ (kSc k (aTR 0) aSC (SC) ++ (kVw k (aTR 1) aVW (VW) ++ (kPl k o1 aPL (PL) ++ (kSc k o2 aSC_2 (SC_2) ++ (kVw k o3 aVW_2 (VW_2)))))))) s.heap (kTr k ot aTR (u.1) ++ (kSc k (aTR 0) aSC (u.2.1) ++ (kVw k (aTR 1) aVW (u.2.2) ++ (kPl k o1 aPL (PL) ++ (kSc k o2 aSC_2 (SC_2) ++ (kVw k o3 aVW_2 (VW_2))))))) H locs → lv_has ls 5 [] → W p l e (rmz 4 92) s m [.ref ot, .ref o1, .ref o2, .ref o3].toArray below meth c H locs 0 0 (MQ below (Qm D none (kTr k ot aTR (TR) ++ (kSc k (aTR 0) aSC (SC) ++ (kVw k (aTR 1) aVW (VW) ++ (kPl k o1 aPL (PL) ++ (kSc k o2 aSC_2 (SC_2) ++ (kVw k o3 aVW_2 (VW_2))))))) (kTr k ot aTR (q.1) ++ (kSc k (aTR 0) aSC (q.2.1) ++ (kVw k (aTR 1) aVW (q.2.2) ++ (kPl k o1 aPL (PL) ++ (kSc k o2 aSC_2 (SC_2) ++ (kVw k o3 aVW_2 (VW_2)))))))) [.ref ot, .ref o1, .ref o2, .ref o3].toArray s 0 0 (wA (kTr k ot aTR (TR) ++ (kSc k (aTR 0) aSC (SC) ++ (kVw k (aTR 1) aVW (VW) ++ (kPl k o1 aPL (PL) ++ (kSc k o2 aSC_2 (SC_2) ++ (kVw k o3 aVW_2 (VW_2))))))))) (F0 m 99 ls []) := by
    intro uL1 H locs ls hex G hl
    rw [hex] at hfL1
    have hf := hfL1
    cases hf
    exact e_mv X G dX6_weigh_99
  have LL1 : ∀ (n : Nat) (stL1 : Int32 × TrT × ScT × VwT) (H : Heap) (locs : List Loc) (ls : Array Slot), Wo D (wA (kTr k ot aTR (TR) ++ (kSc k (aTR 0) aSC (SC) ++ (kVw k (aTR 1) aVW (VW) ++ (kPl k o1 aPL (PL) ++ (kSc k o2 aSC_2 (SC_2) ++ (kVw k o3 aVW_2 (VW_2)))))))) s.heap (kTr k ot aTR (stL1.2.1) ++ (kSc k (aTR 0) aSC (stL1.2.2.1) ++ (kVw k (aTR 1) aVW (stL1.2.2.2) ++ (kPl k o1 aPL (PL) ++ (kSc k o2 aSC_2 (SC_2) ++ (kVw k o3 aVW_2 (VW_2))))))) H locs → lv_has ls 5 [(0, .ref ot), (1, .ref o1), (2, .ref o2), (3, .ref o3), (4, .int (stL1.1))] → it (FX6_weigh_3 PL SC_2 VW_2) n stL1 = some exL1 → W p l e (rmz 4 92) s m [.ref ot, .ref o1, .ref o2, .ref o3].toArray below meth c H locs 0 0 (MQ below (Qm D none (kTr k ot aTR (TR) ++ (kSc k (aTR 0) aSC (SC) ++ (kVw k (aTR 1) aVW (VW) ++ (kPl k o1 aPL (PL) ++ (kSc k o2 aSC_2 (SC_2) ++ (kVw k o3 aVW_2 (VW_2))))))) (kTr k ot aTR (q.1) ++ (kSc k (aTR 0) aSC (q.2.1) ++ (kVw k (aTR 1) aVW (q.2.2) ++ (kPl k o1 aPL (PL) ++ (kSc k o2 aSC_2 (SC_2) ++ (kVw k o3 aVW_2 (VW_2)))))))) [.ref ot, .ref o1, .ref o2, .ref o3].toArray s 0 0 (wA (kTr k ot aTR (TR) ++ (kSc k (aTR 0) aSC (SC) ++ (kVw k (aTR 1) aVW (VW) ++ (kPl k o1 aPL (PL) ++ (kSc k o2 aSC_2 (SC_2) ++ (kVw k o3 aVW_2 (VW_2))))))))) (F0 m 3 ls []) := by
    intro n
    induction n with
    | zero =>
      intro stL1 H locs ls G hl hit
      exact (it_zero hit).elim
    | succ n ih =>
      intro stL1 H locs ls G hl hit
      obtain ⟨oL1, hf, hoL1⟩ := it_bd hit
      unfold FX6_weigh_3 at hf
      refine lv_iload hx hb dX6_weigh_3 (lv_at hl 4 rfl) ?_
      refine lv_aload_n hx hb dX6_weigh_5 rfl (lv_at hl 1 rfl) ?_
      refine r_get X inw_X1 G 15 rfl rfl 0 (by decide) fl_X6_29 (v := .int (Pl_workers PL)) rfl dX6_weigh_6 ?_
      refine lv_icmp_ge (tgt := 99) hx hb dX6_weigh_9 (by decide) (fun c2 => ?_) (fun c2 => ?_)
      · replace hf := if_t hf c2
        cases hf
        exact KL1_0 (stL1.2.1, stL1.2.2.1, stL1.2.2.2) _ _ _ (it_out hoL1) G (lv_sub hl [] rfl)
      · replace hf := if_f hf c2
        refine lv_aload_n hx hb dX6_weigh_12 rfl (lv_at hl 0 rfl) ?_
        refine r_get X inw_X6 G 0 rfl rfl 2 (by decide) fl_X6_25 (v := .ref (aTR 2)) rfl dX6_weigh_13 ?_
        refine lv_iload hx hb dX6_weigh_16 (lv_at hl 4 rfl) ?_
        refine lv_iconst (v := 0) hx hb dX6_weigh_18 (by decide) ?_
        obtain ⟨h3, hf⟩ := ix_some hf
        obtain ⟨TR4, eTR4, hf⟩ := nm_some hf
        refine r_iast X G 1 rfl h3 (ws' := kTr k ot aTR (TR4) ++ (kSc k (aTR 0) aSC (stL1.2.2.1) ++ (kVw k (aTR 1) aVW (stL1.2.2.2) ++ (kPl k o1 aPL (PL) ++ (kSc k o2 aSC_2 (SC_2) ++ (kVw k o3 aVW_2 (VW_2))))))) (by subst eTR4; rfl) dX6_weigh_19 (fun H locs G => ?_)
        refine lv_aload_n hx hb dX6_weigh_20 rfl (lv_at hl 3 rfl) ?_
        refine r_get X inw_X7 G 30 rfl rfl 4 (by decide) fl_X6_35 (v := .int (Vw_hard VW_2)) rfl dX6_weigh_21 ?_
        refine lv_if_eq (tgt := 93) hx hb dX6_weigh_24 (by decide) (fun c5 => ?_) (fun c5 => ?_)
        · replace hf := if_t hf c5
          obtain ⟨x6, ex6, hf⟩ := nm_some hf
          refine lv_iinc (v := x6) (lv' := [(4, .int x6), (0, .ref ot), (1, .ref o1), (2, .ref o2), (3, .ref o3)]) hx hb dX6_weigh_93 hl (k := 4) rfl (by subst ex6; rfl) (by decide) rfl (fun ls hl => ?_)
          refine lv_goto (tgt := 3) hx hb dX6_weigh_96 (by decide) ?_
          cases hf
          exact ih (x6, TR4, stL1.2.2.1, stL1.2.2.2) _ _ _ G (lv_sub hl [1, 2, 3, 4, 0] rfl) hoL1
        · replace hf := if_f hf c5
          refine lv_aload_n hx hb dX6_weigh_27 rfl (lv_at hl 3 rfl) ?_
          refine r_get X inw_X7 G 30 rfl rfl 2 (by decide) fl_X6_38 (v := .int (Vw_heldUp VW_2)) rfl dX6_weigh_28 ?_
          refine lv_iload hx hb dX6_weigh_31 (lv_at hl 4 rfl) ?_
          obtain ⟨r7, hcr7, hf⟩ := bd_some hf
          refine p_R (st1 := [.int (bI r7)]) (run_N (rest := []) X (ctX9_has hZ hcr7) mk_X9_has mn_X6_41 ⟨(Nat.le_of_ble_eq_true rfl), (Nat.le_of_ble_eq_true rfl)⟩ G [] rfl rfl rfl hl.1 rfl (Nat.le_of_ble_eq_true rfl) dX6_weigh_33 ⟨Nat.zero_le _, Nat.zero_le _⟩) rfl ?_
          refine lv_if_eq (tgt := 93) hx hb dX6_weigh_36 (by decide) (fun c8 => ?_) (fun c8 => ?_)
          · replace hf := if_t hf c8
            obtain ⟨x9, ex9, hf⟩ := nm_some hf
            refine lv_iinc (v := x9) (lv' := [(4, .int x9), (0, .ref ot), (1, .ref o1), (2, .ref o2), (3, .ref o3)]) hx hb dX6_weigh_93 hl (k := 4) rfl (by subst ex9; rfl) (by decide) rfl (fun ls hl => ?_)
            refine lv_goto (tgt := 3) hx hb dX6_weigh_96 (by decide) ?_
            cases hf
            exact ih (x9, TR4, stL1.2.2.1, stL1.2.2.2) _ _ _ G (lv_sub hl [1, 2, 3, 4, 0] rfl) hoL1
          · replace hf := if_f hf c8
            refine lv_aload_n hx hb dX6_weigh_39 rfl (lv_at hl 0 rfl) ?_
            refine r_get X inw_X6 G 0 rfl rfl 0 (by decide) fl_X6_12 (v := .ref (aTR 0)) rfl dX6_weigh_40 ?_
            refine lv_aload_n hx hb dX6_weigh_43 rfl (lv_at hl 2 rfl) ?_
            obtain ⟨r10, hcr10, hf⟩ := bd_some hf
            refine p_N (st1 := []) (wr := kTr k ot aTR (TR4) ++ (kVw k (aTR 1) aVW (stL1.2.2.2) ++ (kPl k o1 aPL (PL) ++ (kVw k o3 aVW_2 (VW_2))))) (ws' := kTr k ot aTR (TR4) ++ (kSc k (aTR 0) aSC (r10) ++ (kVw k (aTR 1) aVW (stL1.2.2.2) ++ (kPl k o1 aPL (PL) ++ (kSc k o2 aSC_2 (SC_2) ++ (kVw k o3 aVW_2 (VW_2))))))) (run_V (rest := []) X (ctX3_take hZ (aTR 0) o2 aSC aSC_2 hcr10) mk_X3_take ml_X6_45 ⟨(Nat.le_of_ble_eq_true rfl), (Nat.le_of_ble_eq_true rfl)⟩ G [2, 3, 4, 5, 6, 7, 8, 9, 10, 21, 22, 23, 24, 25, 26, 27, 28, 29] rfl rfl 2 rfl rfl rfl hl.1 rfl (Nat.le_of_ble_eq_true rfl) dX6_weigh_44 ⟨Nat.zero_le _, Nat.zero_le _⟩) rfl G [2, 3, 4, 5, 6, 7, 8, 9, 10, 21, 22, 23, 24, 25, 26, 27, 28, 29] [0, 1, 11, 12, 13, 14, 15, 16, 17, 18, 19, 20, 30, 31, 32, 33] 34 rfl rfl rfl rfl rfl (by decide) (by decide) rfl (fun H locs G => ?_)
            refine lv_aload_n hx hb dX6_weigh_47 rfl (lv_at hl 0 rfl) ?_
            refine r_get X inw_X6 G 0 rfl rfl 0 (by decide) fl_X6_12 (v := .ref (aTR 0)) rfl dX6_weigh_48 ?_
            refine lv_aload_n hx hb dX6_weigh_51 rfl (lv_at hl 1 rfl) ?_
            refine lv_iload hx hb dX6_weigh_52 (lv_at hl 4 rfl) ?_
            obtain ⟨r11, hcr11, hf⟩ := bd_some hf
            refine p_N (st1 := []) (wr := kTr k ot aTR (TR4) ++ (kVw k (aTR 1) aVW (stL1.2.2.2) ++ (kSc k o2 aSC_2 (SC_2) ++ (kVw k o3 aVW_2 (VW_2))))) (ws' := kTr k ot aTR (TR4) ++ (kSc k (aTR 0) aSC (r11) ++ (kVw k (aTR 1) aVW (stL1.2.2.2) ++ (kPl k o1 aPL (PL) ++ (kSc k o2 aSC_2 (SC_2) ++ (kVw k o3 aVW_2 (VW_2))))))) (run_V (rest := []) X (ctX3_letGo hZ (aTR 0) o1 aSC aPL hcr11) mk_X3_letGo ml_X6_49 ⟨(Nat.le_of_ble_eq_true rfl), (Nat.le_of_ble_eq_true rfl)⟩ G [2, 3, 4, 5, 6, 7, 8, 9, 10, 15, 16, 17, 18, 19, 20] rfl rfl 2 rfl rfl rfl hl.1 rfl (Nat.le_of_ble_eq_true rfl) dX6_weigh_54 ⟨Nat.zero_le _, Nat.zero_le _⟩) rfl G [2, 3, 4, 5, 6, 7, 8, 9, 10, 15, 16, 17, 18, 19, 20] [0, 1, 11, 12, 13, 14, 21, 22, 23, 24, 25, 26, 27, 28, 29, 30, 31, 32, 33] 34 rfl rfl rfl rfl rfl (by decide) (by decide) rfl (fun H locs G => ?_)
            refine lv_aload_n hx hb dX6_weigh_57 rfl (lv_at hl 0 rfl) ?_
            refine r_get X inw_X6 G 0 rfl rfl 1 (by decide) fl_X6_21 (v := .ref (aTR 1)) rfl dX6_weigh_58 ?_
            refine lv_aload_n hx hb dX6_weigh_61 rfl (lv_at hl 1 rfl) ?_
            refine lv_aload_n hx hb dX6_weigh_62 rfl (lv_at hl 0 rfl) ?_
            refine r_get X inw_X6 G 0 rfl rfl 0 (by decide) fl_X6_12 (v := .ref (aTR 0)) rfl dX6_weigh_63 ?_
            obtain ⟨r12, hcr12, hf⟩ := bd_some hf
            refine p_N (st1 := []) (wr := kTr k ot aTR (TR4) ++ (kSc k o2 aSC_2 (SC_2) ++ (kVw k o3 aVW_2 (VW_2)))) (ws' := kTr k ot aTR (TR4) ++ (kSc k (aTR 0) aSC (r11) ++ (kVw k (aTR 1) aVW (r12) ++ (kPl k o1 aPL (PL) ++ (kSc k o2 aSC_2 (SC_2) ++ (kVw k o3 aVW_2 (VW_2))))))) (run_V (rest := []) X (ctX7_look hZ (aTR 1) o1 (aTR 0) aVW aPL aSC hcr12) mk_X7_look ml_X6_53 ⟨(Nat.le_of_ble_eq_true rfl), (Nat.le_of_ble_eq_true rfl)⟩ G [11, 12, 13, 14, 15, 16, 17, 18, 19, 20, 2, 3, 4, 5, 6, 7, 8, 9, 10] rfl rfl 11 rfl rfl rfl hl.1 rfl (Nat.le_of_ble_eq_true rfl) dX6_weigh_66 ⟨Nat.zero_le _, Nat.zero_le _⟩) rfl G [11, 12, 13, 14, 15, 16, 17, 18, 19, 20, 2, 3, 4, 5, 6, 7, 8, 9, 10] [0, 1, 21, 22, 23, 24, 25, 26, 27, 28, 29, 30, 31, 32, 33] 34 rfl rfl rfl rfl rfl (by decide) (by decide) rfl (fun H locs G => ?_)
            refine lv_aload_n hx hb dX6_weigh_69 rfl (lv_at hl 0 rfl) ?_
            refine r_get X inw_X6 G 0 rfl rfl 2 (by decide) fl_X6_25 (v := .ref (aTR 2)) rfl dX6_weigh_70 ?_
            refine lv_iload hx hb dX6_weigh_73 (lv_at hl 4 rfl) ?_
            refine lv_aload_n hx hb dX6_weigh_75 rfl (lv_at hl 3 rfl) ?_
            refine r_get X inw_X7 G 30 rfl rfl 4 (by decide) fl_X6_35 (v := .int (Vw_hard VW_2)) rfl dX6_weigh_76 ?_
            refine lv_aload_n hx hb dX6_weigh_79 rfl (lv_at hl 0 rfl) ?_
            refine r_get X inw_X6 G 0 rfl rfl 1 (by decide) fl_X6_21 (v := .ref (aTR 1)) rfl dX6_weigh_80 ?_
            refine r_get X inw_X7 G 11 rfl rfl 4 (by decide) fl_X6_35 (v := .int (Vw_hard r12)) rfl dX6_weigh_83 ?_
            refine lv_iconst (v := -1) hx hb dX6_weigh_86 (by decide) ?_
            refine lv_ixor hx hb dX6_weigh_87 ?_
            refine lv_iand hx hb dX6_weigh_88 ?_
            obtain ⟨r13, hcr13, hf⟩ := bd_some hf
            refine p_R (st1 := [.int r13, .int (stL1.1), .ref (aTR 2)]) (run_S (rest := [.int (stL1.1), .ref (aTR 2)]) X (ctJ6_bitCount_0f7a4 hZ hcr13) mk_J6_bitCount_0f7a4 ml_X6_57 ⟨(Nat.le_of_ble_eq_true rfl), (Nat.le_of_ble_eq_true rfl)⟩ G [] rfl rfl rfl hl.1 rfl (Nat.le_of_ble_eq_true rfl) dX6_weigh_89 ⟨Nat.zero_le _, Nat.zero_le _⟩) rfl ?_
            obtain ⟨h14, hf⟩ := ix_some hf
            obtain ⟨TR15, eTR15, hf⟩ := nm_some hf
            refine r_iast X G 1 rfl h14 (ws' := kTr k ot aTR (TR15) ++ (kSc k (aTR 0) aSC (r11) ++ (kVw k (aTR 1) aVW (r12) ++ (kPl k o1 aPL (PL) ++ (kSc k o2 aSC_2 (SC_2) ++ (kVw k o3 aVW_2 (VW_2))))))) (by subst eTR15; rfl) dX6_weigh_92 (fun H locs G => ?_)
            obtain ⟨x16, ex16, hf⟩ := nm_some hf
            refine lv_iinc (v := x16) (lv' := [(4, .int x16), (0, .ref ot), (1, .ref o1), (2, .ref o2), (3, .ref o3)]) hx hb dX6_weigh_93 hl (k := 4) rfl (by subst ex16; rfl) (by decide) rfl (fun ls hl => ?_)
            refine lv_goto (tgt := 3) hx hb dX6_weigh_96 (by decide) ?_
            cases hf
            exact ih (x16, TR15, r11, r12) _ _ _ G (lv_sub hl [1, 2, 3, 4, 0] rfl) hoL1
  exact LL1 nL1 ((0 : Int32), TR, SC, VW) _ _ _ G (lv_sub hl [1, 2, 3, 4, 0] rfl) hitL1
theorem mk_X6_weigh : MV yX6_weigh cX6_weigh 5 none 3 := ⟨co_X6_weigh, in_X6, im_X6_weigh, se_X6_weigh, by decide +kernel, by decide +kernel⟩
noncomputable def FX6_leavesNoneHard_11 (PL : PlT) (v3 : Int32) : (Int32 × ScT) → Option ((Int32 × ScT) ⊕ (ScT)) := fun stL2 =>
  if (Pl_workers PL) ≤ stL2.1 then (
    some (.inr stL2.2)
  ) else (
    (FX9_has v3 stL2.1).bind fun r4 =>
    if (bI r4) = 0 then (
      nm (stL2.1 + 1) fun x6 =>
      some (.inl (x6, stL2.2))
    ) else (
      (FX3_letGo stL2.2 PL stL2.1).bind fun r7 =>
      nm (stL2.1 + 1) fun x8 =>
      some (.inl (x8, r7))
    )
  )
noncomputable def FX6_leavesNoneHard (TR : TrT) (SC : ScT) (VW : VwT) (PL : PlT) (SC_2 : ScT) (v3 : Int32) : Option (Bool × ScT × VwT) :=
  (FX3_take SC SC_2).bind fun r1 =>
  (itr (FX6_leavesNoneHard_11 PL v3) ((0 : Int32), r1)).bind fun uL2 =>
  (FX7_look VW PL uL2).bind fun r9 =>
  if (Vw_hard r9) = 0 then (
    some (true, uL2, r9)
  ) else (
    some (false, uL2, r9)
  )
set_option maxHeartbeats 4000000 in
set_option maxRecDepth 100000 in
theorem ctX6_leavesNoneHard {l : Launch} {D : va_G} {k : Nat → ClassId} {Z : ZT} (hZ : ZOK Z) (ot : Nat) (o1 : Nat) (o2 : Nat) (aTR : Nat → Nat) (aSC : Nat → Nat) (aVW : Nat → Nat) (aPL : Nat → Nat) (aSC_2 : Nat → Nat) {TR : TrT} {SC : ScT} {VW : VwT} {PL : PlT} {SC_2 : ScT} {v3 : Int32} {q : Bool × ScT × VwT} (hf : FX6_leavesNoneHard TR SC VW PL SC_2 v3 = some q) :
    CM l D k Z yX6_leavesNoneHard cX6_leavesNoneHard 5 (some .boolean) 4 92 [.ref ot, .ref o1, .ref o2, .int v3] (some (.int (bI q.1))) (kTr k ot aTR (TR) ++ (kSc k (aTR 0) aSC (SC) ++ (kVw k (aTR 1) aVW (VW) ++ (kPl k o1 aPL (PL) ++ (kSc k o2 aSC_2 (SC_2)))))) (kTr k ot aTR (TR) ++ (kSc k (aTR 0) aSC (q.2.1) ++ (kVw k (aTR 1) aVW (q.2.2) ++ (kPl k o1 aPL (PL) ++ (kSc k o2 aSC_2 (SC_2)))))) := by
  refine CM.start hZ (by decide) (Nat.le_of_ble_eq_true rfl) ?_
  intro p e s m below meth c ls X hl G
  have hx := X.1
  have hb := X.2.1
  have hl : lv_has ls 5 [(0, .ref ot), (1, .ref o1), (2, .ref o2), (3, .int v3)] := hl
  unfold FX6_leavesNoneHard at hf
  refine lv_aload_n hx hb dX6_leavesNoneHard_0 rfl (lv_at hl 0 rfl) ?_
  refine r_get X inw_X6 G 0 rfl rfl 0 (by decide) fl_X6_12 (v := .ref (aTR 0)) rfl dX6_leavesNoneHard_1 ?_
  refine lv_aload_n hx hb dX6_leavesNoneHard_4 rfl (lv_at hl 2 rfl) ?_
  obtain ⟨r1, hcr1, hf⟩ := bd_some hf
  refine p_N (st1 := []) (wr := kTr k ot aTR (TR) ++ (kVw k (aTR 1) aVW (VW) ++ (kPl k o1 aPL (PL)))) (ws' := kTr k ot aTR (TR) ++ (kSc k (aTR 0) aSC (r1) ++ (kVw k (aTR 1) aVW (VW) ++ (kPl k o1 aPL (PL) ++ (kSc k o2 aSC_2 (SC_2)))))) (run_V (rest := []) X (ctX3_take hZ (aTR 0) o2 aSC aSC_2 hcr1) mk_X3_take ml_X6_45 ⟨(Nat.le_of_ble_eq_true rfl), (Nat.le_of_ble_eq_true rfl)⟩ G [2, 3, 4, 5, 6, 7, 8, 9, 10, 21, 22, 23, 24, 25, 26, 27, 28, 29] rfl rfl 2 rfl rfl rfl hl.1 rfl (Nat.le_of_ble_eq_true rfl) dX6_leavesNoneHard_5 ⟨Nat.zero_le _, Nat.zero_le _⟩) rfl G [2, 3, 4, 5, 6, 7, 8, 9, 10, 21, 22, 23, 24, 25, 26, 27, 28, 29] [0, 1, 11, 12, 13, 14, 15, 16, 17, 18, 19, 20] 30 rfl rfl rfl rfl rfl (by decide) (by decide) rfl (fun H locs G => ?_)
  refine lv_iconst (v := 0) hx hb dX6_leavesNoneHard_8 (by decide) ?_
  refine lv_istore (lv' := [(4, .int (0 : Int32)), (0, .ref ot), (1, .ref o1), (2, .ref o2), (3, .int v3)]) hx hb dX6_leavesNoneHard_9 hl (by decide) rfl (fun ls hl => ?_)
  obtain ⟨exL2, hitL2, hfL2⟩ := bd_some hf
  obtain ⟨nL2, hitL2⟩ := itr_ex hitL2
  have KL2_0 : ∀ (u : ScT) (H : Heap) (locs : List Loc) (ls : Array Slot), exL2 = u → Wo D (wA (kTr k ot aTR (TR) ++ (kSc k (aTR 0) aSC (SC) ++ (kVw k (aTR 1) aVW (VW) ++ (kPl k o1 aPL (PL) ++ (kSc k o2 aSC_2 (SC_2))))))) s.heap (kTr k ot aTR (TR) ++ (kSc k (aTR 0) aSC (u) ++ (kVw k (aTR 1) aVW (VW) ++ (kPl k o1 aPL (PL) ++ (kSc k o2 aSC_2 (SC_2)))))) H locs → lv_has ls 5 [(0, .ref ot), (1, .ref o1)] → W p l e (rmz 4 92) s m [.ref ot, .ref o1, .ref o2, .int v3].toArray below meth c H locs 0 0 (MQ below (Qm D (some (.int (bI q.1))) (kTr k ot aTR (TR) ++ (kSc k (aTR 0) aSC (SC) ++ (kVw k (aTR 1) aVW (VW) ++ (kPl k o1 aPL (PL) ++ (kSc k o2 aSC_2 (SC_2)))))) (kTr k ot aTR (TR) ++ (kSc k (aTR 0) aSC (q.2.1) ++ (kVw k (aTR 1) aVW (q.2.2) ++ (kPl k o1 aPL (PL) ++ (kSc k o2 aSC_2 (SC_2))))))) [.ref ot, .ref o1, .ref o2, .int v3].toArray s 0 0 (wA (kTr k ot aTR (TR) ++ (kSc k (aTR 0) aSC (SC) ++ (kVw k (aTR 1) aVW (VW) ++ (kPl k o1 aPL (PL) ++ (kSc k o2 aSC_2 (SC_2)))))))) (F0 m 45 ls []) := by
    intro uL2 H locs ls hex G hl
    rw [hex] at hfL2
    have hf := hfL2
    refine lv_aload_n hx hb dX6_leavesNoneHard_45 rfl (lv_at hl 0 rfl) ?_
    refine r_get X inw_X6 G 0 rfl rfl 1 (by decide) fl_X6_21 (v := .ref (aTR 1)) rfl dX6_leavesNoneHard_46 ?_
    refine lv_aload_n hx hb dX6_leavesNoneHard_49 rfl (lv_at hl 1 rfl) ?_
    refine lv_aload_n hx hb dX6_leavesNoneHard_50 rfl (lv_at hl 0 rfl) ?_
    refine r_get X inw_X6 G 0 rfl rfl 0 (by decide) fl_X6_12 (v := .ref (aTR 0)) rfl dX6_leavesNoneHard_51 ?_
    obtain ⟨r9, hcr9, hf⟩ := bd_some hf
    refine p_N (st1 := []) (wr := kTr k ot aTR (TR) ++ (kSc k o2 aSC_2 (SC_2))) (ws' := kTr k ot aTR (TR) ++ (kSc k (aTR 0) aSC (uL2) ++ (kVw k (aTR 1) aVW (r9) ++ (kPl k o1 aPL (PL) ++ (kSc k o2 aSC_2 (SC_2)))))) (run_V (rest := []) X (ctX7_look hZ (aTR 1) o1 (aTR 0) aVW aPL aSC hcr9) mk_X7_look ml_X6_53 ⟨(Nat.le_of_ble_eq_true rfl), (Nat.le_of_ble_eq_true rfl)⟩ G [11, 12, 13, 14, 15, 16, 17, 18, 19, 20, 2, 3, 4, 5, 6, 7, 8, 9, 10] rfl rfl 11 rfl rfl rfl hl.1 rfl (Nat.le_of_ble_eq_true rfl) dX6_leavesNoneHard_54 ⟨Nat.zero_le _, Nat.zero_le _⟩) rfl G [11, 12, 13, 14, 15, 16, 17, 18, 19, 20, 2, 3, 4, 5, 6, 7, 8, 9, 10] [0, 1, 21, 22, 23, 24, 25, 26, 27, 28, 29] 30 rfl rfl rfl rfl rfl (by decide) (by decide) rfl (fun H locs G => ?_)
    refine lv_aload_n hx hb dX6_leavesNoneHard_57 rfl (lv_at hl 0 rfl) ?_
    refine r_get X inw_X6 G 0 rfl rfl 1 (by decide) fl_X6_21 (v := .ref (aTR 1)) rfl dX6_leavesNoneHard_58 ?_
    refine r_get X inw_X7 G 11 rfl rfl 4 (by decide) fl_X6_35 (v := .int (Vw_hard r9)) rfl dX6_leavesNoneHard_61 ?_
    refine lv_if_ne (tgt := 71) hx hb dX6_leavesNoneHard_64 (by decide) (fun c10 => ?_) (fun c10 => ?_)
    · replace hf := if_f hf c10
      refine lv_iconst (v := 0) hx hb dX6_leavesNoneHard_71 (by decide) ?_
      cases hf
      exact e_mz _ rfl X G dX6_leavesNoneHard_72
    · replace hf := if_t hf c10
      refine lv_iconst (v := 1) hx hb dX6_leavesNoneHard_67 (by decide) ?_
      refine lv_goto (tgt := 72) hx hb dX6_leavesNoneHard_68 (by decide) ?_
      cases hf
      exact e_mz _ rfl X G dX6_leavesNoneHard_72
  have LL2 : ∀ (n : Nat) (stL2 : Int32 × ScT) (H : Heap) (locs : List Loc) (ls : Array Slot), Wo D (wA (kTr k ot aTR (TR) ++ (kSc k (aTR 0) aSC (SC) ++ (kVw k (aTR 1) aVW (VW) ++ (kPl k o1 aPL (PL) ++ (kSc k o2 aSC_2 (SC_2))))))) s.heap (kTr k ot aTR (TR) ++ (kSc k (aTR 0) aSC (stL2.2) ++ (kVw k (aTR 1) aVW (VW) ++ (kPl k o1 aPL (PL) ++ (kSc k o2 aSC_2 (SC_2)))))) H locs → lv_has ls 5 [(0, .ref ot), (1, .ref o1), (3, .int v3), (4, .int (stL2.1))] → it (FX6_leavesNoneHard_11 PL v3) n stL2 = some exL2 → W p l e (rmz 4 92) s m [.ref ot, .ref o1, .ref o2, .int v3].toArray below meth c H locs 0 0 (MQ below (Qm D (some (.int (bI q.1))) (kTr k ot aTR (TR) ++ (kSc k (aTR 0) aSC (SC) ++ (kVw k (aTR 1) aVW (VW) ++ (kPl k o1 aPL (PL) ++ (kSc k o2 aSC_2 (SC_2)))))) (kTr k ot aTR (TR) ++ (kSc k (aTR 0) aSC (q.2.1) ++ (kVw k (aTR 1) aVW (q.2.2) ++ (kPl k o1 aPL (PL) ++ (kSc k o2 aSC_2 (SC_2))))))) [.ref ot, .ref o1, .ref o2, .int v3].toArray s 0 0 (wA (kTr k ot aTR (TR) ++ (kSc k (aTR 0) aSC (SC) ++ (kVw k (aTR 1) aVW (VW) ++ (kPl k o1 aPL (PL) ++ (kSc k o2 aSC_2 (SC_2)))))))) (F0 m 11 ls []) := by
    intro n
    induction n with
    | zero =>
      intro stL2 H locs ls G hl hit
      exact (it_zero hit).elim
    | succ n ih =>
      intro stL2 H locs ls G hl hit
      obtain ⟨oL2, hf, hoL2⟩ := it_bd hit
      unfold FX6_leavesNoneHard_11 at hf
      refine lv_iload hx hb dX6_leavesNoneHard_11 (lv_at hl 3 rfl) ?_
      refine lv_aload_n hx hb dX6_leavesNoneHard_13 rfl (lv_at hl 1 rfl) ?_
      refine r_get X inw_X1 G 15 rfl rfl 0 (by decide) fl_X6_29 (v := .int (Pl_workers PL)) rfl dX6_leavesNoneHard_14 ?_
      refine lv_icmp_ge (tgt := 45) hx hb dX6_leavesNoneHard_17 (by decide) (fun c3 => ?_) (fun c3 => ?_)
      · replace hf := if_t hf c3
        cases hf
        exact KL2_0 stL2.2 _ _ _ (it_out hoL2) G (lv_sub hl [0, 1] rfl)
      · replace hf := if_f hf c3
        refine lv_iload_n hx hb dX6_leavesNoneHard_20 rfl (lv_at hl 2 rfl) ?_
        refine lv_iload hx hb dX6_leavesNoneHard_21 (lv_at hl 3 rfl) ?_
        obtain ⟨r4, hcr4, hf⟩ := bd_some hf
        refine p_R (st1 := [.int (bI r4)]) (run_N (rest := []) X (ctX9_has hZ hcr4) mk_X9_has mn_X6_41 ⟨(Nat.le_of_ble_eq_true rfl), (Nat.le_of_ble_eq_true rfl)⟩ G [] rfl rfl rfl hl.1 rfl (Nat.le_of_ble_eq_true rfl) dX6_leavesNoneHard_23 ⟨Nat.zero_le _, Nat.zero_le _⟩) rfl ?_
        refine lv_if_eq (tgt := 39) hx hb dX6_leavesNoneHard_26 (by decide) (fun c5 => ?_) (fun c5 => ?_)
        · replace hf := if_t hf c5
          obtain ⟨x6, ex6, hf⟩ := nm_some hf
          refine lv_iinc (v := x6) (lv' := [(4, .int x6), (0, .ref ot), (1, .ref o1), (3, .int v3)]) hx hb dX6_leavesNoneHard_39 hl (k := 3) rfl (by subst ex6; rfl) (by decide) rfl (fun ls hl => ?_)
          refine lv_goto (tgt := 11) hx hb dX6_leavesNoneHard_42 (by decide) ?_
          cases hf
          exact ih (x6, stL2.2) _ _ _ G (lv_sub hl [1, 2, 3, 0] rfl) hoL2
        · replace hf := if_f hf c5
          refine lv_aload_n hx hb dX6_leavesNoneHard_29 rfl (lv_at hl 0 rfl) ?_
          refine r_get X inw_X6 G 0 rfl rfl 0 (by decide) fl_X6_12 (v := .ref (aTR 0)) rfl dX6_leavesNoneHard_30 ?_
          refine lv_aload_n hx hb dX6_leavesNoneHard_33 rfl (lv_at hl 1 rfl) ?_
          refine lv_iload hx hb dX6_leavesNoneHard_34 (lv_at hl 3 rfl) ?_
          obtain ⟨r7, hcr7, hf⟩ := bd_some hf
          refine p_N (st1 := []) (wr := kTr k ot aTR (TR) ++ (kVw k (aTR 1) aVW (VW) ++ (kSc k o2 aSC_2 (SC_2)))) (ws' := kTr k ot aTR (TR) ++ (kSc k (aTR 0) aSC (r7) ++ (kVw k (aTR 1) aVW (VW) ++ (kPl k o1 aPL (PL) ++ (kSc k o2 aSC_2 (SC_2)))))) (run_V (rest := []) X (ctX3_letGo hZ (aTR 0) o1 aSC aPL hcr7) mk_X3_letGo ml_X6_49 ⟨(Nat.le_of_ble_eq_true rfl), (Nat.le_of_ble_eq_true rfl)⟩ G [2, 3, 4, 5, 6, 7, 8, 9, 10, 15, 16, 17, 18, 19, 20] rfl rfl 2 rfl rfl rfl hl.1 rfl (Nat.le_of_ble_eq_true rfl) dX6_leavesNoneHard_36 ⟨Nat.zero_le _, Nat.zero_le _⟩) rfl G [2, 3, 4, 5, 6, 7, 8, 9, 10, 15, 16, 17, 18, 19, 20] [0, 1, 11, 12, 13, 14, 21, 22, 23, 24, 25, 26, 27, 28, 29] 30 rfl rfl rfl rfl rfl (by decide) (by decide) rfl (fun H locs G => ?_)
          obtain ⟨x8, ex8, hf⟩ := nm_some hf
          refine lv_iinc (v := x8) (lv' := [(4, .int x8), (0, .ref ot), (1, .ref o1), (3, .int v3)]) hx hb dX6_leavesNoneHard_39 hl (k := 3) rfl (by subst ex8; rfl) (by decide) rfl (fun ls hl => ?_)
          refine lv_goto (tgt := 11) hx hb dX6_leavesNoneHard_42 (by decide) ?_
          cases hf
          exact ih (x8, r7) _ _ _ G (lv_sub hl [1, 2, 3, 0] rfl) hoL2
  exact LL2 nL2 ((0 : Int32), r1) _ _ _ G (lv_sub hl [1, 2, 4, 0] rfl) hitL2
theorem mk_X6_leavesNoneHard : MV yX6_leavesNoneHard cX6_leavesNoneHard 5 (some .boolean) 3 := ⟨co_X6_leavesNoneHard, in_X6, im_X6_leavesNoneHard, se_X6_leavesNoneHard, by decide +kernel, by decide +kernel⟩
noncomputable def FX6_fewestOf_j33 (TR : TrT) (PL : PlT) (SC_2 : ScT) (v3 : Int32) (stL1 : Int32 × Int32 × Int32 × ScT × VwT) (vJ4 : Int32) : Option ((Int32 × Int32 × Int32 × ScT × VwT) ⊕ (Int32 × ScT × VwT)) :=
  if (stL1.2.2.1 &&& (v3 ^^^ (-1 : Int32))) = 0 then (
    if vJ4 = 0 then (
      nm (stL1.2.2.1 + 1) fun x8 =>
      some (.inl (stL1.1, stL1.2.1, x8, stL1.2.2.2.1, stL1.2.2.2.2))
    ) else (
      (FX6_leavesNoneHard TR stL1.2.2.2.1 stL1.2.2.2.2 PL SC_2 stL1.2.2.1).bind fun r9 =>
      if (bI r9.1) = 0 then (
        nm (stL1.2.2.1 + 1) fun x11 =>
        some (.inl (stL1.1, stL1.2.1, x11, r9.2.1, r9.2.2))
      ) else (
        (FJ6_bitCount_0f7a4 stL1.2.2.1).bind fun r12 =>
        nm (stL1.2.2.1 + 1) fun x13 =>
        some (.inl (stL1.2.2.1, r12, x13, r9.2.1, r9.2.2))
      )
    )
  ) else (
    nm (stL1.2.2.1 + 1) fun x6 =>
    some (.inl (stL1.1, stL1.2.1, x6, stL1.2.2.2.1, stL1.2.2.2.2))
  )
noncomputable def FX6_fewestOf_10 (TR : TrT) (PL : PlT) (SC_2 : ScT) (v3 : Int32) : (Int32 × Int32 × Int32 × ScT × VwT) → Option ((Int32 × Int32 × Int32 × ScT × VwT) ⊕ (Int32 × ScT × VwT)) := fun stL1 =>
  if (256 : Int32) ≤ stL1.2.2.1 then (
    some (.inr (stL1.1, stL1.2.2.2.1, stL1.2.2.2.2))
  ) else (
    (FJ6_bitCount_0f7a4 stL1.2.2.1).bind fun r3 =>
    if stL1.2.1 ≤ r3 then (
      FX6_fewestOf_j33 TR PL SC_2 v3 stL1 (0 : Int32)
    ) else (
      FX6_fewestOf_j33 TR PL SC_2 v3 stL1 (1 : Int32)
    )
  )
noncomputable def FX6_fewestOf (TR : TrT) (SC : ScT) (VW : VwT) (PL : PlT) (SC_2 : ScT) (v3 : Int32) : Option (Int32 × ScT × VwT) :=
  (itr (FX6_fewestOf_10 TR PL SC_2 v3) ((-1 : Int32), (9 : Int32), (0 : Int32), SC, VW)).bind fun uL1 =>
  some (uL1.1, uL1.2.1, uL1.2.2)
set_option maxHeartbeats 4000000 in
set_option maxRecDepth 100000 in
theorem ctX6_fewestOf {l : Launch} {D : va_G} {k : Nat → ClassId} {Z : ZT} (hZ : ZOK Z) (ot : Nat) (o1 : Nat) (o2 : Nat) (aTR : Nat → Nat) (aSC : Nat → Nat) (aVW : Nat → Nat) (aPL : Nat → Nat) (aSC_2 : Nat → Nat) {TR : TrT} {SC : ScT} {VW : VwT} {PL : PlT} {SC_2 : ScT} {v3 : Int32} {q : Int32 × ScT × VwT} (hf : FX6_fewestOf TR SC VW PL SC_2 v3 = some q) :
    CM l D k Z yX6_fewestOf cX6_fewestOf 8 (some .int) 5 116 [.ref ot, .ref o1, .ref o2, .int v3] (some (.int q.1)) (kTr k ot aTR (TR) ++ (kSc k (aTR 0) aSC (SC) ++ (kVw k (aTR 1) aVW (VW) ++ (kPl k o1 aPL (PL) ++ (kSc k o2 aSC_2 (SC_2)))))) (kTr k ot aTR (TR) ++ (kSc k (aTR 0) aSC (q.2.1) ++ (kVw k (aTR 1) aVW (q.2.2) ++ (kPl k o1 aPL (PL) ++ (kSc k o2 aSC_2 (SC_2)))))) := by
  refine CM.start hZ (by decide) (Nat.le_of_ble_eq_true rfl) ?_
  intro p e s m below meth c ls X hl G
  have hx := X.1
  have hb := X.2.1
  have hl : lv_has ls 8 [(0, .ref ot), (1, .ref o1), (2, .ref o2), (3, .int v3)] := hl
  unfold FX6_fewestOf at hf
  refine lv_iconst (v := -1) hx hb dX6_fewestOf_0 (by decide) ?_
  refine lv_istore (lv' := [(4, .int (-1 : Int32)), (0, .ref ot), (1, .ref o1), (2, .ref o2), (3, .int v3)]) hx hb dX6_fewestOf_1 hl (by decide) rfl (fun ls hl => ?_)
  refine lv_bipush (v := 9) hx hb dX6_fewestOf_3 (by decide) ?_
  refine lv_istore (lv' := [(5, .int (9 : Int32)), (4, .int (-1 : Int32)), (0, .ref ot), (1, .ref o1), (2, .ref o2), (3, .int v3)]) hx hb dX6_fewestOf_5 hl (by decide) rfl (fun ls hl => ?_)
  refine lv_iconst (v := 0) hx hb dX6_fewestOf_7 (by decide) ?_
  refine lv_istore (lv' := [(6, .int (0 : Int32)), (5, .int (9 : Int32)), (4, .int (-1 : Int32)), (0, .ref ot), (1, .ref o1), (2, .ref o2), (3, .int v3)]) hx hb dX6_fewestOf_8 hl (by decide) rfl (fun ls hl => ?_)
  obtain ⟨exL1, hitL1, hfL1⟩ := bd_some hf
  obtain ⟨nL1, hitL1⟩ := itr_ex hitL1
  have KL1_0 : ∀ (u : Int32 × ScT × VwT) (H : Heap) (locs : List Loc) (ls : Array Slot), exL1 = u → Wo D (wA (kTr k ot aTR (TR) ++ (kSc k (aTR 0) aSC (SC) ++ (kVw k (aTR 1) aVW (VW) ++ (kPl k o1 aPL (PL) ++ (kSc k o2 aSC_2 (SC_2))))))) s.heap (kTr k ot aTR (TR) ++ (kSc k (aTR 0) aSC (u.2.1) ++ (kVw k (aTR 1) aVW (u.2.2) ++ (kPl k o1 aPL (PL) ++ (kSc k o2 aSC_2 (SC_2)))))) H locs → lv_has ls 8 [(4, .int (u.1))] → W p l e (rmz 5 116) s m [.ref ot, .ref o1, .ref o2, .int v3].toArray below meth c H locs 0 0 (MQ below (Qm D (some (.int q.1)) (kTr k ot aTR (TR) ++ (kSc k (aTR 0) aSC (SC) ++ (kVw k (aTR 1) aVW (VW) ++ (kPl k o1 aPL (PL) ++ (kSc k o2 aSC_2 (SC_2)))))) (kTr k ot aTR (TR) ++ (kSc k (aTR 0) aSC (q.2.1) ++ (kVw k (aTR 1) aVW (q.2.2) ++ (kPl k o1 aPL (PL) ++ (kSc k o2 aSC_2 (SC_2))))))) [.ref ot, .ref o1, .ref o2, .int v3].toArray s 0 0 (wA (kTr k ot aTR (TR) ++ (kSc k (aTR 0) aSC (SC) ++ (kVw k (aTR 1) aVW (VW) ++ (kPl k o1 aPL (PL) ++ (kSc k o2 aSC_2 (SC_2)))))))) (F0 m 77 ls []) := by
    intro uL1 H locs ls hex G hl
    rw [hex] at hfL1
    have hf := hfL1
    refine lv_iload hx hb dX6_fewestOf_77 (lv_at hl 0 rfl) ?_
    cases hf
    exact e_mi X G dX6_fewestOf_79
  have LL1 : ∀ (n : Nat) (stL1 : Int32 × Int32 × Int32 × ScT × VwT) (H : Heap) (locs : List Loc) (ls : Array Slot), Wo D (wA (kTr k ot aTR (TR) ++ (kSc k (aTR 0) aSC (SC) ++ (kVw k (aTR 1) aVW (VW) ++ (kPl k o1 aPL (PL) ++ (kSc k o2 aSC_2 (SC_2))))))) s.heap (kTr k ot aTR (TR) ++ (kSc k (aTR 0) aSC (stL1.2.2.2.1) ++ (kVw k (aTR 1) aVW (stL1.2.2.2.2) ++ (kPl k o1 aPL (PL) ++ (kSc k o2 aSC_2 (SC_2)))))) H locs → lv_has ls 8 [(0, .ref ot), (1, .ref o1), (2, .ref o2), (3, .int v3), (4, .int (stL1.1)), (5, .int (stL1.2.1)), (6, .int (stL1.2.2.1))] → it (FX6_fewestOf_10 TR PL SC_2 v3) n stL1 = some exL1 → W p l e (rmz 5 116) s m [.ref ot, .ref o1, .ref o2, .int v3].toArray below meth c H locs 0 0 (MQ below (Qm D (some (.int q.1)) (kTr k ot aTR (TR) ++ (kSc k (aTR 0) aSC (SC) ++ (kVw k (aTR 1) aVW (VW) ++ (kPl k o1 aPL (PL) ++ (kSc k o2 aSC_2 (SC_2)))))) (kTr k ot aTR (TR) ++ (kSc k (aTR 0) aSC (q.2.1) ++ (kVw k (aTR 1) aVW (q.2.2) ++ (kPl k o1 aPL (PL) ++ (kSc k o2 aSC_2 (SC_2))))))) [.ref ot, .ref o1, .ref o2, .int v3].toArray s 0 0 (wA (kTr k ot aTR (TR) ++ (kSc k (aTR 0) aSC (SC) ++ (kVw k (aTR 1) aVW (VW) ++ (kPl k o1 aPL (PL) ++ (kSc k o2 aSC_2 (SC_2)))))))) (F0 m 10 ls []) := by
    intro n
    induction n with
    | zero =>
      intro stL1 H locs ls G hl hit
      exact (it_zero hit).elim
    | succ n ih =>
      intro stL1 H locs ls G hl hit
      obtain ⟨oL1, hf, hoL1⟩ := it_bd hit
      unfold FX6_fewestOf_10 at hf
      refine lv_iload hx hb dX6_fewestOf_10 (lv_at hl 6 rfl) ?_
      refine lv_sipush (v := 256) hx hb dX6_fewestOf_12 (by decide) ?_
      refine lv_icmp_ge (tgt := 77) hx hb dX6_fewestOf_15 (by decide) (fun c2 => ?_) (fun c2 => ?_)
      · replace hf := if_t hf c2
        cases hf
        exact KL1_0 (stL1.1, stL1.2.2.2.1, stL1.2.2.2.2) _ _ _ (it_out hoL1) G (lv_sub hl [4] rfl)
      · replace hf := if_f hf c2
        refine lv_iload hx hb dX6_fewestOf_18 (lv_at hl 6 rfl) ?_
        obtain ⟨r3, hcr3, hf⟩ := bd_some hf
        refine p_R (st1 := [.int r3]) (run_S (rest := []) X (ctJ6_bitCount_0f7a4 hZ hcr3) mk_J6_bitCount_0f7a4 ml_X6_57 ⟨(Nat.le_of_ble_eq_true rfl), (Nat.le_of_ble_eq_true rfl)⟩ G [] rfl rfl rfl hl.1 rfl (Nat.le_of_ble_eq_true rfl) dX6_fewestOf_20 ⟨Nat.zero_le _, Nat.zero_le _⟩) rfl ?_
        refine lv_iload hx hb dX6_fewestOf_23 (lv_at hl 5 rfl) ?_
        have JJ4 : ∀ (vJ4 : Int32) (H : Heap) (locs : List Loc) (ls : Array Slot), Wo D (wA (kTr k ot aTR (TR) ++ (kSc k (aTR 0) aSC (SC) ++ (kVw k (aTR 1) aVW (VW) ++ (kPl k o1 aPL (PL) ++ (kSc k o2 aSC_2 (SC_2))))))) s.heap (kTr k ot aTR (TR) ++ (kSc k (aTR 0) aSC (stL1.2.2.2.1) ++ (kVw k (aTR 1) aVW (stL1.2.2.2.2) ++ (kPl k o1 aPL (PL) ++ (kSc k o2 aSC_2 (SC_2)))))) H locs → lv_has ls 8 [(0, .ref ot), (1, .ref o1), (2, .ref o2), (3, .int v3), (4, .int (stL1.1)), (5, .int (stL1.2.1)), (6, .int (stL1.2.2.1))] → FX6_fewestOf_j33 TR PL SC_2 v3 stL1 vJ4 = some oL1 → W p l e (rmz 5 116) s m [.ref ot, .ref o1, .ref o2, .int v3].toArray below meth c H locs 0 0 (MQ below (Qm D (some (.int q.1)) (kTr k ot aTR (TR) ++ (kSc k (aTR 0) aSC (SC) ++ (kVw k (aTR 1) aVW (VW) ++ (kPl k o1 aPL (PL) ++ (kSc k o2 aSC_2 (SC_2)))))) (kTr k ot aTR (TR) ++ (kSc k (aTR 0) aSC (q.2.1) ++ (kVw k (aTR 1) aVW (q.2.2) ++ (kPl k o1 aPL (PL) ++ (kSc k o2 aSC_2 (SC_2))))))) [.ref ot, .ref o1, .ref o2, .int v3].toArray s 0 0 (wA (kTr k ot aTR (TR) ++ (kSc k (aTR 0) aSC (SC) ++ (kVw k (aTR 1) aVW (VW) ++ (kPl k o1 aPL (PL) ++ (kSc k o2 aSC_2 (SC_2)))))))) (F0 m 33 ls [.int vJ4]) := by
          intro vJ4 H locs ls G hl hf
          unfold FX6_fewestOf_j33 at hf
          refine lv_istore (lv' := [(7, .int vJ4), (0, .ref ot), (1, .ref o1), (2, .ref o2), (3, .int v3), (4, .int (stL1.1)), (5, .int (stL1.2.1)), (6, .int (stL1.2.2.1))]) hx hb dX6_fewestOf_33 hl (by decide) rfl (fun ls hl => ?_)
          refine lv_iload hx hb dX6_fewestOf_35 (lv_at hl 7 rfl) ?_
          refine lv_iload_n hx hb dX6_fewestOf_37 rfl (lv_at hl 4 rfl) ?_
          refine lv_iconst (v := -1) hx hb dX6_fewestOf_38 (by decide) ?_
          refine lv_ixor hx hb dX6_fewestOf_39 ?_
          refine lv_iand hx hb dX6_fewestOf_40 ?_
          refine lv_if_ne (tgt := 71) hx hb dX6_fewestOf_41 (by decide) (fun c5 => ?_) (fun c5 => ?_)
          · replace hf := if_f hf c5
            obtain ⟨x6, ex6, hf⟩ := nm_some hf
            refine lv_iinc (v := x6) (lv' := [(6, .int x6), (7, .int vJ4), (0, .ref ot), (1, .ref o1), (2, .ref o2), (3, .int v3), (4, .int (stL1.1)), (5, .int (stL1.2.1))]) hx hb dX6_fewestOf_71 hl (k := 7) rfl (by subst ex6; rfl) (by decide) rfl (fun ls hl => ?_)
            refine lv_goto (tgt := 10) hx hb dX6_fewestOf_74 (by decide) ?_
            cases hf
            exact ih (stL1.1, stL1.2.1, x6, stL1.2.2.2.1, stL1.2.2.2.2) _ _ _ G (lv_sub hl [2, 3, 4, 5, 6, 7, 0] rfl) hoL1
          · replace hf := if_t hf c5
            refine lv_iload hx hb dX6_fewestOf_44 (lv_at hl 0 rfl) ?_
            refine lv_if_eq (tgt := 71) hx hb dX6_fewestOf_46 (by decide) (fun c7 => ?_) (fun c7 => ?_)
            · replace hf := if_t hf c7
              obtain ⟨x8, ex8, hf⟩ := nm_some hf
              refine lv_iinc (v := x8) (lv' := [(6, .int x8), (7, .int vJ4), (0, .ref ot), (1, .ref o1), (2, .ref o2), (3, .int v3), (4, .int (stL1.1)), (5, .int (stL1.2.1))]) hx hb dX6_fewestOf_71 hl (k := 7) rfl (by subst ex8; rfl) (by decide) rfl (fun ls hl => ?_)
              refine lv_goto (tgt := 10) hx hb dX6_fewestOf_74 (by decide) ?_
              cases hf
              exact ih (stL1.1, stL1.2.1, x8, stL1.2.2.2.1, stL1.2.2.2.2) _ _ _ G (lv_sub hl [2, 3, 4, 5, 6, 7, 0] rfl) hoL1
            · replace hf := if_f hf c7
              refine lv_aload_n hx hb dX6_fewestOf_49 rfl (lv_at hl 1 rfl) ?_
              refine lv_aload_n hx hb dX6_fewestOf_50 rfl (lv_at hl 2 rfl) ?_
              refine lv_aload_n hx hb dX6_fewestOf_51 rfl (lv_at hl 3 rfl) ?_
              refine lv_iload hx hb dX6_fewestOf_52 (lv_at hl 7 rfl) ?_
              obtain ⟨r9, hcr9, hf⟩ := bd_some hf
              refine p_N (st1 := [.int (bI r9.1)]) (wr := []) (ws' := kTr k ot aTR (TR) ++ (kSc k (aTR 0) aSC (r9.2.1) ++ (kVw k (aTR 1) aVW (r9.2.2) ++ (kPl k o1 aPL (PL) ++ (kSc k o2 aSC_2 (SC_2)))))) (run_V (rest := []) X (ctX6_leavesNoneHard hZ ot o1 o2 aTR aSC aVW aPL aSC_2 hcr9) mk_X6_leavesNoneHard ml_X6_71 ⟨(Nat.le_of_ble_eq_true rfl), (Nat.le_of_ble_eq_true rfl)⟩ G [0, 1, 2, 3, 4, 5, 6, 7, 8, 9, 10, 11, 12, 13, 14, 15, 16, 17, 18, 19, 20, 21, 22, 23, 24, 25, 26, 27, 28, 29] rfl rfl 0 rfl rfl rfl hl.1 rfl (Nat.le_of_ble_eq_true rfl) dX6_fewestOf_54 ⟨Nat.zero_le _, Nat.zero_le _⟩) rfl G [0, 1, 2, 3, 4, 5, 6, 7, 8, 9, 10, 11, 12, 13, 14, 15, 16, 17, 18, 19, 20, 21, 22, 23, 24, 25, 26, 27, 28, 29] [] 30 rfl rfl rfl rfl rfl (by decide) (by decide) rfl (fun H locs G => ?_)
              refine lv_if_eq (tgt := 71) hx hb dX6_fewestOf_57 (by decide) (fun c10 => ?_) (fun c10 => ?_)
              · replace hf := if_t hf c10
                obtain ⟨x11, ex11, hf⟩ := nm_some hf
                refine lv_iinc (v := x11) (lv' := [(6, .int x11), (7, .int vJ4), (0, .ref ot), (1, .ref o1), (2, .ref o2), (3, .int v3), (4, .int (stL1.1)), (5, .int (stL1.2.1))]) hx hb dX6_fewestOf_71 hl (k := 7) rfl (by subst ex11; rfl) (by decide) rfl (fun ls hl => ?_)
                refine lv_goto (tgt := 10) hx hb dX6_fewestOf_74 (by decide) ?_
                cases hf
                exact ih (stL1.1, stL1.2.1, x11, r9.2.1, r9.2.2) _ _ _ G (lv_sub hl [2, 3, 4, 5, 6, 7, 0] rfl) hoL1
              · replace hf := if_f hf c10
                refine lv_iload hx hb dX6_fewestOf_60 (lv_at hl 7 rfl) ?_
                refine lv_istore (lv' := [(4, .int (stL1.2.2.1)), (7, .int vJ4), (0, .ref ot), (1, .ref o1), (2, .ref o2), (3, .int v3), (5, .int (stL1.2.1)), (6, .int (stL1.2.2.1))]) hx hb dX6_fewestOf_62 hl (by decide) rfl (fun ls hl => ?_)
                refine lv_iload hx hb dX6_fewestOf_64 (lv_at hl 7 rfl) ?_
                obtain ⟨r12, hcr12, hf⟩ := bd_some hf
                refine p_R (st1 := [.int r12]) (run_S (rest := []) X (ctJ6_bitCount_0f7a4 hZ hcr12) mk_J6_bitCount_0f7a4 ml_X6_57 ⟨(Nat.le_of_ble_eq_true rfl), (Nat.le_of_ble_eq_true rfl)⟩ G [] rfl rfl rfl hl.1 rfl (Nat.le_of_ble_eq_true rfl) dX6_fewestOf_66 ⟨Nat.zero_le _, Nat.zero_le _⟩) rfl ?_
                refine lv_istore (lv' := [(5, .int r12), (4, .int (stL1.2.2.1)), (7, .int vJ4), (0, .ref ot), (1, .ref o1), (2, .ref o2), (3, .int v3), (6, .int (stL1.2.2.1))]) hx hb dX6_fewestOf_69 hl (by decide) rfl (fun ls hl => ?_)
                obtain ⟨x13, ex13, hf⟩ := nm_some hf
                refine lv_iinc (v := x13) (lv' := [(6, .int x13), (5, .int r12), (4, .int (stL1.2.2.1)), (7, .int vJ4), (0, .ref ot), (1, .ref o1), (2, .ref o2), (3, .int v3)]) hx hb dX6_fewestOf_71 hl (k := 7) rfl (by subst ex13; rfl) (by decide) rfl (fun ls hl => ?_)
                refine lv_goto (tgt := 10) hx hb dX6_fewestOf_74 (by decide) ?_
                cases hf
                exact ih (stL1.2.2.1, r12, x13, r9.2.1, r9.2.2) _ _ _ G (lv_sub hl [4, 5, 6, 7, 2, 1, 0] rfl) hoL1
        refine lv_icmp_ge (tgt := 32) hx hb dX6_fewestOf_25 (by decide) (fun c14 => ?_) (fun c14 => ?_)
        · replace hf := if_t hf c14
          refine lv_iconst (v := 0) hx hb dX6_fewestOf_32 (by decide) ?_
          exact JJ4 (0 : Int32) _ _ _ G (lv_sub hl [0, 1, 2, 3, 4, 5, 6] rfl) hf
        · replace hf := if_f hf c14
          refine lv_iconst (v := 1) hx hb dX6_fewestOf_28 (by decide) ?_
          refine lv_goto (tgt := 33) hx hb dX6_fewestOf_29 (by decide) ?_
          exact JJ4 (1 : Int32) _ _ _ G (lv_sub hl [0, 1, 2, 3, 4, 5, 6] rfl) hf
  exact LL1 nL1 ((-1 : Int32), (9 : Int32), (0 : Int32), SC, VW) _ _ _ G (lv_sub hl [3, 4, 5, 6, 2, 1, 0] rfl) hitL1
theorem mk_X6_fewestOf : MV yX6_fewestOf cX6_fewestOf 8 (some .int) 3 := ⟨co_X6_fewestOf, in_X6, im_X6_fewestOf, se_X6_fewestOf, by decide +kernel, by decide +kernel⟩
noncomputable def FX0_clear (HI : HiT) : Option (HiT) :=
  nm (sHi_next HI (0 : Int32)) fun HI1 =>
  nm (sHi_many HI1 (0 : Int32)) fun HI2 =>
  some HI2
set_option maxHeartbeats 4000000 in
set_option maxRecDepth 100000 in
theorem ctX0_clear {l : Launch} {D : va_G} {k : Nat → ClassId} {Z : ZT} (hZ : ZOK Z) (ot : Nat) (aHI : Nat → Nat) {HI : HiT} {q : HiT} (hf : FX0_clear HI = some q) :
    CM l D k Z yX0_clear cX0_clear 1 none 0 0 [.ref ot] none (kHi k ot aHI (HI)) (kHi k ot aHI (q)) := by
  refine CM.start hZ (by decide) (Nat.le_of_ble_eq_true rfl) ?_
  intro p e s m below meth c ls X hl G
  have hx := X.1
  have hb := X.2.1
  have hl : lv_has ls 1 [(0, .ref ot)] := hl
  unfold FX0_clear at hf
  refine lv_aload_n hx hb dX0_clear_0 rfl (lv_at hl 0 rfl) ?_
  refine lv_iconst (v := 0) hx hb dX0_clear_1 (by decide) ?_
  obtain ⟨HI1, eHI1, hf⟩ := nm_some hf
  refine r_put X inw_X0 tyX0 tyX0_ok nmX0 G 0 rfl rfl 2 (by decide) fl_X0_23 rfl rfl rfl (Nat.le_of_ble_eq_true rfl) (ws' := kHi k ot aHI (HI1)) (by subst eHI1; rfl) dX0_clear_2 (fun H locs G => ?_)
  refine lv_aload_n hx hb dX0_clear_5 rfl (lv_at hl 0 rfl) ?_
  refine lv_iconst (v := 0) hx hb dX0_clear_6 (by decide) ?_
  obtain ⟨HI2, eHI2, hf⟩ := nm_some hf
  refine r_put X inw_X0 tyX0 tyX0_ok nmX0 G 0 rfl rfl 3 (by decide) fl_X0_27 rfl rfl rfl (Nat.le_of_ble_eq_true rfl) (ws' := kHi k ot aHI (HI2)) (by subst eHI2; rfl) dX0_clear_7 (fun H locs G => ?_)
  cases hf
  exact e_mv X G dX0_clear_10
theorem mk_X0_clear : MV yX0_clear cX0_clear 1 none 0 := ⟨co_X0_clear, in_X0, im_X0_clear, se_X0_clear, by decide +kernel, by decide +kernel⟩
