noncomputable def FX10_feed_j71 (stL2 : Int32 × MoT) (vJ4 : Int32) : Option ((Int32 × MoT) ⊕ (MoT)) :=
  ix ((Mo_taped stL2.2) + stL2.1) 800 <|
  nm (sMo_tape stL2.2 (upd (Mo_tape stL2.2) (Int32.toNatClampNeg ((Mo_taped stL2.2) + stL2.1)) ((vJ4 >>> (((24 : Int32) - ((8 : Int32) * (stL2.1 &&& (3 : Int32)))) &&& 31)) &&& (255 : Int32)))) fun MO6 =>
  nm (stL2.1 + 1) fun x7 =>
  some (.inl (x7, MO6))
noncomputable def FX10_feed_18 (v1 : Int32) (v2 : Int32) (v3 : Int32) (v4 : Int32) (v5 : Int32) : (Int32 × MoT) → Option ((Int32 × MoT) ⊕ (MoT)) := fun stL2 =>
  if (20 : Int32) ≤ stL2.1 then (
    some (.inr stL2.2)
  ) else (
    if (4 : Int32) ≤ stL2.1 then (
      if (8 : Int32) ≤ stL2.1 then (
        if (12 : Int32) ≤ stL2.1 then (
          if (16 : Int32) ≤ stL2.1 then (
            FX10_feed_j71 stL2 v5
          ) else (
            FX10_feed_j71 stL2 v4
          )
        ) else (
          FX10_feed_j71 stL2 v3
        )
      ) else (
        FX10_feed_j71 stL2 v2
      )
    ) else (
      FX10_feed_j71 stL2 v1
    )
  )
noncomputable def FX10_feed (MO : MoT) (v1 : Int32) (v2 : Int32) (v3 : Int32) (v4 : Int32) (v5 : Int32) : Option (Int32 × MoT) :=
  if ((Mo_taped MO) + (20 : Int32)) ≤ (800 : Int32) then (
    (itr (FX10_feed_18 v1 v2 v3 v4 v5) ((0 : Int32), MO)).bind fun uL2 =>
    nm (sMo_taped uL2 ((Mo_taped uL2) + (20 : Int32))) fun MO12 =>
    some (Mo_taped MO12, MO12)
  ) else (
    some ((-1 : Int32), MO)
  )
set_option maxHeartbeats 4000000 in
set_option maxRecDepth 100000 in
theorem ctX10_feed {l : Launch} {D : va_G} {k : Nat → ClassId} {Z : ZT} (hZ : ZOK Z) (ot : Nat) (aMO : Nat → Nat) {MO : MoT} {v1 : Int32} {v2 : Int32} {v3 : Int32} {v4 : Int32} {v5 : Int32} {q : Int32 × MoT} (hf : FX10_feed MO v1 v2 v3 v4 v5 = some q) :
    CM l D k Z yX10_feed cX10_feed 8 (some .int) 0 0 [.ref ot, .int v1, .int v2, .int v3, .int v4, .int v5] (some (.int q.1)) (kMo k ot aMO (MO)) (kMo k ot aMO (q.2)) := by
  refine CM.start hZ (by decide) (Nat.le_of_ble_eq_true rfl) ?_
  intro p e s m below meth c ls X hl G
  have hx := X.1
  have hb := X.2.1
  have hl : lv_has ls 8 [(0, .ref ot), (1, .int v1), (2, .int v2), (3, .int v3), (4, .int v4), (5, .int v5)] := hl
  unfold FX10_feed at hf
  refine lv_aload_n hx hb dX10_feed_0 rfl (lv_at hl 0 rfl) ?_
  refine r_get X inw_X10 G 0 rfl rfl 3 (by decide) fl_X10_158 (v := .int (Mo_taped MO)) rfl dX10_feed_1 ?_
  refine lv_bipush (v := 20) hx hb dX10_feed_4 (by decide) ?_
  refine lv_iadd hx hb dX10_feed_6 ?_
  refine lv_sipush (v := 800) hx hb dX10_feed_7 (by decide) ?_
  refine lv_icmp_le (tgt := 15) hx hb dX10_feed_10 (by decide) (fun c1 => ?_) (fun c1 => ?_)
  · replace hf := if_t hf c1
    refine lv_iconst (v := 0) hx hb dX10_feed_15 (by decide) ?_
    refine lv_istore (lv' := [(6, .int (0 : Int32)), (0, .ref ot), (1, .int v1), (2, .int v2), (3, .int v3), (4, .int v4), (5, .int v5)]) hx hb dX10_feed_16 hl (by decide) rfl (fun ls hl => ?_)
    obtain ⟨exL2, hitL2, hfL2⟩ := bd_some hf
    obtain ⟨nL2, hitL2⟩ := itr_ex hitL2
    have KL2_0 : ∀ (u : MoT) (H : Heap) (locs : List Loc) (ls : Array Slot), exL2 = u → Wo D (wA (kMo k ot aMO (MO))) s.heap (kMo k ot aMO (u)) H locs → lv_has ls 8 [(0, .ref ot)] → W p l e (rmz 0 0) s m [.ref ot, .int v1, .int v2, .int v3, .int v4, .int v5].toArray below meth c H locs 0 0 (MQ below (Qm D (some (.int q.1)) (kMo k ot aMO (MO)) (kMo k ot aMO (q.2))) [.ref ot, .int v1, .int v2, .int v3, .int v4, .int v5].toArray s 0 0 (wA (kMo k ot aMO (MO)))) (F0 m 108 ls []) := by
      intro uL2 H locs ls hex G hl
      rw [hex] at hfL2
      have hf := hfL2
      refine lv_aload_n hx hb dX10_feed_108 rfl (lv_at hl 0 rfl) ?_
      refine lv_dup hx hb dX10_feed_109 rfl ?_
      refine r_get X inw_X10 G 0 rfl rfl 3 (by decide) fl_X10_158 (v := .int (Mo_taped uL2)) rfl dX10_feed_110 ?_
      refine lv_bipush (v := 20) hx hb dX10_feed_113 (by decide) ?_
      refine lv_iadd hx hb dX10_feed_115 ?_
      obtain ⟨MO12, eMO12, hf⟩ := nm_some hf
      refine r_put X inw_X10 tyX10 tyX10_ok nmX10 G 0 rfl rfl 3 (by decide) fl_X10_158 rfl rfl rfl (Nat.le_of_ble_eq_true rfl) (ws' := kMo k ot aMO (MO12)) (by subst eMO12; rfl) dX10_feed_116 (fun H locs G => ?_)
      refine lv_aload_n hx hb dX10_feed_119 rfl (lv_at hl 0 rfl) ?_
      refine r_get X inw_X10 G 0 rfl rfl 3 (by decide) fl_X10_158 (v := .int (Mo_taped MO12)) rfl dX10_feed_120 ?_
      cases hf
      exact e_mi X G dX10_feed_123
    have LL2 : ∀ (n : Nat) (stL2 : Int32 × MoT) (H : Heap) (locs : List Loc) (ls : Array Slot), Wo D (wA (kMo k ot aMO (MO))) s.heap (kMo k ot aMO (stL2.2)) H locs → lv_has ls 8 [(0, .ref ot), (1, .int v1), (2, .int v2), (3, .int v3), (4, .int v4), (5, .int v5), (6, .int (stL2.1))] → it (FX10_feed_18 v1 v2 v3 v4 v5) n stL2 = some exL2 → W p l e (rmz 0 0) s m [.ref ot, .int v1, .int v2, .int v3, .int v4, .int v5].toArray below meth c H locs 0 0 (MQ below (Qm D (some (.int q.1)) (kMo k ot aMO (MO)) (kMo k ot aMO (q.2))) [.ref ot, .int v1, .int v2, .int v3, .int v4, .int v5].toArray s 0 0 (wA (kMo k ot aMO (MO)))) (F0 m 18 ls []) := by
      intro n
      induction n with
      | zero =>
        intro stL2 H locs ls G hl hit
        exact (it_zero hit).elim
      | succ n ih =>
        intro stL2 H locs ls G hl hit
        obtain ⟨oL2, hf, hoL2⟩ := it_bd hit
        unfold FX10_feed_18 at hf
        refine lv_iload hx hb dX10_feed_18 (lv_at hl 6 rfl) ?_
        refine lv_bipush (v := 20) hx hb dX10_feed_20 (by decide) ?_
        refine lv_icmp_ge (tgt := 108) hx hb dX10_feed_22 (by decide) (fun c3 => ?_) (fun c3 => ?_)
        · replace hf := if_t hf c3
          cases hf
          exact KL2_0 stL2.2 _ _ _ (it_out hoL2) G (lv_sub hl [0] rfl)
        · replace hf := if_f hf c3
          refine lv_iload hx hb dX10_feed_25 (lv_at hl 6 rfl) ?_
          refine lv_iconst (v := 4) hx hb dX10_feed_27 (by decide) ?_
          have JJ4 : ∀ (vJ4 : Int32) (H : Heap) (locs : List Loc) (ls : Array Slot), Wo D (wA (kMo k ot aMO (MO))) s.heap (kMo k ot aMO (stL2.2)) H locs → lv_has ls 8 [(0, .ref ot), (1, .int v1), (2, .int v2), (3, .int v3), (4, .int v4), (5, .int v5), (6, .int (stL2.1))] → FX10_feed_j71 stL2 vJ4 = some oL2 → W p l e (rmz 0 0) s m [.ref ot, .int v1, .int v2, .int v3, .int v4, .int v5].toArray below meth c H locs 0 0 (MQ below (Qm D (some (.int q.1)) (kMo k ot aMO (MO)) (kMo k ot aMO (q.2))) [.ref ot, .int v1, .int v2, .int v3, .int v4, .int v5].toArray s 0 0 (wA (kMo k ot aMO (MO)))) (F0 m 71 ls [.int vJ4]) := by
            intro vJ4 H locs ls G hl hf
            unfold FX10_feed_j71 at hf
            refine lv_istore (lv' := [(7, .int vJ4), (0, .ref ot), (1, .int v1), (2, .int v2), (3, .int v3), (4, .int v4), (5, .int v5), (6, .int (stL2.1))]) hx hb dX10_feed_71 hl (by decide) rfl (fun ls hl => ?_)
            refine lv_aload_n hx hb dX10_feed_73 rfl (lv_at hl 1 rfl) ?_
            refine r_get X inw_X10 G 0 rfl rfl 1 (by decide) fl_X10_13 (v := .ref (aMO 1)) rfl dX10_feed_74 ?_
            refine lv_aload_n hx hb dX10_feed_77 rfl (lv_at hl 1 rfl) ?_
            refine r_get X inw_X10 G 0 rfl rfl 3 (by decide) fl_X10_158 (v := .int (Mo_taped stL2.2)) rfl dX10_feed_78 ?_
            refine lv_iload hx hb dX10_feed_81 (lv_at hl 7 rfl) ?_
            refine lv_iadd hx hb dX10_feed_83 ?_
            refine lv_iload hx hb dX10_feed_84 (lv_at hl 0 rfl) ?_
            refine lv_bipush (v := 24) hx hb dX10_feed_86 (by decide) ?_
            refine lv_bipush (v := 8) hx hb dX10_feed_88 (by decide) ?_
            refine lv_iload hx hb dX10_feed_90 (lv_at hl 7 rfl) ?_
            refine lv_iconst (v := 3) hx hb dX10_feed_92 (by decide) ?_
            refine lv_iand hx hb dX10_feed_93 ?_
            refine lv_imul hx hb dX10_feed_94 ?_
            refine lv_isub hx hb dX10_feed_95 ?_
            refine lv_ishr hx hb dX10_feed_96 ?_
            refine lv_sipush (v := 255) hx hb dX10_feed_97 (by decide) ?_
            refine lv_iand hx hb dX10_feed_100 ?_
            obtain ⟨h5, hf⟩ := ix_some hf
            obtain ⟨MO6, eMO6, hf⟩ := nm_some hf
            refine r_iast X G 2 rfl h5 (ws' := kMo k ot aMO (MO6)) (by subst eMO6; rfl) dX10_feed_101 (fun H locs G => ?_)
            obtain ⟨x7, ex7, hf⟩ := nm_some hf
            refine lv_iinc (v := x7) (lv' := [(6, .int x7), (7, .int vJ4), (0, .ref ot), (1, .int v1), (2, .int v2), (3, .int v3), (4, .int v4), (5, .int v5)]) hx hb dX10_feed_102 hl (k := 7) rfl (by subst ex7; rfl) (by decide) rfl (fun ls hl => ?_)
            refine lv_goto (tgt := 18) hx hb dX10_feed_105 (by decide) ?_
            cases hf
            exact ih (x7, MO6) _ _ _ G (lv_sub hl [2, 3, 4, 5, 6, 7, 0] rfl) hoL2
          refine lv_icmp_ge (tgt := 35) hx hb dX10_feed_28 (by decide) (fun c8 => ?_) (fun c8 => ?_)
          · replace hf := if_t hf c8
            refine lv_iload hx hb dX10_feed_35 (lv_at hl 6 rfl) ?_
            refine lv_bipush (v := 8) hx hb dX10_feed_37 (by decide) ?_
            refine lv_icmp_ge (tgt := 46) hx hb dX10_feed_39 (by decide) (fun c9 => ?_) (fun c9 => ?_)
            · replace hf := if_t hf c9
              refine lv_iload hx hb dX10_feed_46 (lv_at hl 6 rfl) ?_
              refine lv_bipush (v := 12) hx hb dX10_feed_48 (by decide) ?_
              refine lv_icmp_ge (tgt := 57) hx hb dX10_feed_50 (by decide) (fun c10 => ?_) (fun c10 => ?_)
              · replace hf := if_t hf c10
                refine lv_iload hx hb dX10_feed_57 (lv_at hl 6 rfl) ?_
                refine lv_bipush (v := 16) hx hb dX10_feed_59 (by decide) ?_
                refine lv_icmp_ge (tgt := 69) hx hb dX10_feed_61 (by decide) (fun c11 => ?_) (fun c11 => ?_)
                · replace hf := if_t hf c11
                  refine lv_iload hx hb dX10_feed_69 (lv_at hl 5 rfl) ?_
                  exact JJ4 v5 _ _ _ G (lv_sub hl [0, 1, 2, 3, 4, 5, 6] rfl) hf
                · replace hf := if_f hf c11
                  refine lv_iload hx hb dX10_feed_64 (lv_at hl 4 rfl) ?_
                  refine lv_goto (tgt := 71) hx hb dX10_feed_66 (by decide) ?_
                  exact JJ4 v4 _ _ _ G (lv_sub hl [0, 1, 2, 3, 4, 5, 6] rfl) hf
              · replace hf := if_f hf c10
                refine lv_iload_n hx hb dX10_feed_53 rfl (lv_at hl 3 rfl) ?_
                refine lv_goto (tgt := 71) hx hb dX10_feed_54 (by decide) ?_
                exact JJ4 v3 _ _ _ G (lv_sub hl [0, 1, 2, 3, 4, 5, 6] rfl) hf
            · replace hf := if_f hf c9
              refine lv_iload_n hx hb dX10_feed_42 rfl (lv_at hl 2 rfl) ?_
              refine lv_goto (tgt := 71) hx hb dX10_feed_43 (by decide) ?_
              exact JJ4 v2 _ _ _ G (lv_sub hl [0, 1, 2, 3, 4, 5, 6] rfl) hf
          · replace hf := if_f hf c8
            refine lv_iload_n hx hb dX10_feed_31 rfl (lv_at hl 1 rfl) ?_
            refine lv_goto (tgt := 71) hx hb dX10_feed_32 (by decide) ?_
            exact JJ4 v1 _ _ _ G (lv_sub hl [0, 1, 2, 3, 4, 5, 6] rfl) hf
    exact LL2 nL2 ((0 : Int32), MO) _ _ _ G (lv_sub hl [1, 2, 3, 4, 5, 6, 0] rfl) hitL2
  · replace hf := if_f hf c1
    refine lv_iconst (v := -1) hx hb dX10_feed_13 (by decide) ?_
    cases hf
    exact e_mi X G dX10_feed_14
theorem mk_X10_feed : MV yX10_feed cX10_feed 8 (some .int) 5 := ⟨co_X10_feed, in_X10, im_X10_feed, se_X10_feed, by decide +kernel, by decide +kernel⟩
noncomputable def FX10_end (MO : MoT) (v1 : Int32) : Option (Int32 × MoT) :=
  (FX10_isIn v1 (0 : Int32) (Mo_taped MO)).bind fun r1 =>
  if (bI r1) = 0 then (
    some ((-1 : Int32), MO)
  ) else (
    nm (sMo_taped MO v1) fun MO3 =>
    some (v1, MO3)
  )
set_option maxHeartbeats 4000000 in
set_option maxRecDepth 100000 in
theorem ctX10_end {l : Launch} {D : va_G} {k : Nat → ClassId} {Z : ZT} (hZ : ZOK Z) (ot : Nat) (aMO : Nat → Nat) {MO : MoT} {v1 : Int32} {q : Int32 × MoT} (hf : FX10_end MO v1 = some q) :
    CM l D k Z yX10_end cX10_end 2 (some .int) 1 22 [.ref ot, .int v1] (some (.int q.1)) (kMo k ot aMO (MO)) (kMo k ot aMO (q.2)) := by
  refine CM.start hZ (by decide) (Nat.le_of_ble_eq_true rfl) ?_
  intro p e s m below meth c ls X hl G
  have hx := X.1
  have hb := X.2.1
  have hl : lv_has ls 2 [(0, .ref ot), (1, .int v1)] := hl
  unfold FX10_end at hf
  refine lv_iload_n hx hb dX10_end_0 rfl (lv_at hl 1 rfl) ?_
  refine lv_iconst (v := 0) hx hb dX10_end_1 (by decide) ?_
  refine lv_aload_n hx hb dX10_end_2 rfl (lv_at hl 0 rfl) ?_
  refine r_get X inw_X10 G 0 rfl rfl 3 (by decide) fl_X10_158 (v := .int (Mo_taped MO)) rfl dX10_end_3 ?_
  obtain ⟨r1, hcr1, hf⟩ := bd_some hf
  refine p_R (st1 := [.int (bI r1)]) (run_S (rest := []) X (ctX10_isIn hZ hcr1) mk_X10_isIn ml_X10_47 ⟨(Nat.le_of_ble_eq_true rfl), (Nat.le_of_ble_eq_true rfl)⟩ G [] rfl rfl rfl hl.1 rfl (Nat.le_of_ble_eq_true rfl) dX10_end_6 ⟨Nat.zero_le _, Nat.zero_le _⟩) rfl ?_
  refine lv_if_ne (tgt := 14) hx hb dX10_end_9 (by decide) (fun c2 => ?_) (fun c2 => ?_)
  · replace hf := if_f hf c2
    refine lv_aload_n hx hb dX10_end_14 rfl (lv_at hl 0 rfl) ?_
    refine lv_iload_n hx hb dX10_end_15 rfl (lv_at hl 1 rfl) ?_
    obtain ⟨MO3, eMO3, hf⟩ := nm_some hf
    refine r_put X inw_X10 tyX10 tyX10_ok nmX10 G 0 rfl rfl 3 (by decide) fl_X10_158 rfl rfl rfl (Nat.le_of_ble_eq_true rfl) (ws' := kMo k ot aMO (MO3)) (by subst eMO3; rfl) dX10_end_16 (fun H locs G => ?_)
    refine lv_iload_n hx hb dX10_end_19 rfl (lv_at hl 1 rfl) ?_
    cases hf
    exact e_mi X G dX10_end_20
  · replace hf := if_t hf c2
    refine lv_iconst (v := -1) hx hb dX10_end_12 (by decide) ?_
    cases hf
    exact e_mi X G dX10_end_13
theorem mk_X10_end : MV yX10_end cX10_end 2 (some .int) 1 := ⟨co_X10_end, in_X10, im_X10_end, se_X10_end, by decide +kernel, by decide +kernel⟩
noncomputable def FX10_fault (MO : MoT) (v1 : Int32) : Option (Int32) :=
  if v1 = 0 then (
    some (Mo_faultKind MO)
  ) else (
    if v1 = (1 : Int32) then (
      some (Mo_faultPlace MO)
    ) else (
      some (-1 : Int32)
    )
  )
set_option maxHeartbeats 4000000 in
set_option maxRecDepth 100000 in
theorem ctX10_fault {l : Launch} {D : va_G} {k : Nat → ClassId} {Z : ZT} (hZ : ZOK Z) (ot : Nat) (aMO : Nat → Nat) {MO : MoT} {v1 : Int32} {q : Int32} (hf : FX10_fault MO v1 = some q) :
    CR l D k Z yX10_fault cX10_fault 2 (some .int) 0 0 [.ref ot, .int v1] (some (.int q)) (kMo k ot aMO (MO)) := by
  refine CR.start hZ (by decide) (Nat.le_of_ble_eq_true rfl) ?_
  intro p e s m below meth c ls X hl G
  have hx := X.1
  have hb := X.2.1
  have hl : lv_has ls 2 [(0, .ref ot), (1, .int v1)] := hl
  unfold FX10_fault at hf
  refine lv_iload_n hx hb dX10_fault_0 rfl (lv_at hl 1 rfl) ?_
  refine lv_if_ne (tgt := 11) hx hb dX10_fault_1 (by decide) (fun c1 => ?_) (fun c1 => ?_)
  · replace hf := if_f hf c1
    refine lv_iload_n hx hb dX10_fault_11 rfl (lv_at hl 1 rfl) ?_
    refine lv_iconst (v := 1) hx hb dX10_fault_12 (by decide) ?_
    refine lv_icmp_ne (tgt := 23) hx hb dX10_fault_13 (by decide) (fun c2 => ?_) (fun c2 => ?_)
    · replace hf := if_f hf c2
      refine lv_iconst (v := -1) hx hb dX10_fault_23 (by decide) ?_
      cases hf
      exact e_ri X dX10_fault_24
    · replace hf := if_t hf c2
      refine lv_aload_n hx hb dX10_fault_16 rfl (lv_at hl 0 rfl) ?_
      refine r_get X inw_X10 G 0 rfl rfl 5 (by decide) fl_X10_20 (v := .int (Mo_faultPlace MO)) rfl dX10_fault_17 ?_
      refine lv_goto (tgt := 24) hx hb dX10_fault_20 (by decide) ?_
      cases hf
      exact e_ri X dX10_fault_24
  · replace hf := if_t hf c1
    refine lv_aload_n hx hb dX10_fault_4 rfl (lv_at hl 0 rfl) ?_
    refine r_get X inw_X10 G 0 rfl rfl 4 (by decide) fl_X10_186 (v := .int (Mo_faultKind MO)) rfl dX10_fault_5 ?_
    refine lv_goto (tgt := 24) hx hb dX10_fault_8 (by decide) ?_
    cases hf
    exact e_ri X dX10_fault_24
theorem mk_X10_fault : MV yX10_fault cX10_fault 2 (some .int) 1 := ⟨co_X10_fault, in_X10, im_X10_fault, se_X10_fault, by decide +kernel, by decide +kernel⟩
noncomputable def FX10_byteAt (MO : MoT) (v1 : Int32) : Option (Int32) :=
  if (Mo_size0 MO) ≤ v1 then (
    some (-1 : Int32)
  ) else (
    ix v1 800 <|
    some (Mo_tape MO (Int32.toNatClampNeg v1))
  )
set_option maxHeartbeats 4000000 in
set_option maxRecDepth 100000 in
theorem ctX10_byteAt {l : Launch} {D : va_G} {k : Nat → ClassId} {Z : ZT} (hZ : ZOK Z) (ot : Nat) (aMO : Nat → Nat) {MO : MoT} {v1 : Int32} {q : Int32} (hf : FX10_byteAt MO v1 = some q) :
    CR l D k Z yX10_byteAt cX10_byteAt 2 (some .int) 0 0 [.ref ot, .int v1] (some (.int q)) (kMo k ot aMO (MO)) := by
  refine CR.start hZ (by decide) (Nat.le_of_ble_eq_true rfl) ?_
  intro p e s m below meth c ls X hl G
  have hx := X.1
  have hb := X.2.1
  have hl : lv_has ls 2 [(0, .ref ot), (1, .int v1)] := hl
  unfold FX10_byteAt at hf
  refine lv_iload_n hx hb dX10_byteAt_0 rfl (lv_at hl 1 rfl) ?_
  refine lv_aload_n hx hb dX10_byteAt_1 rfl (lv_at hl 0 rfl) ?_
  refine r_get X inw_X10 G 0 rfl rfl 11 (by decide) fl_X10_189 (v := .int (Mo_size0 MO)) rfl dX10_byteAt_2 ?_
  refine lv_icmp_ge (tgt := 17) hx hb dX10_byteAt_5 (by decide) (fun c1 => ?_) (fun c1 => ?_)
  · replace hf := if_t hf c1
    refine lv_iconst (v := -1) hx hb dX10_byteAt_17 (by decide) ?_
    cases hf
    exact e_ri X dX10_byteAt_18
  · replace hf := if_f hf c1
    refine lv_aload_n hx hb dX10_byteAt_8 rfl (lv_at hl 0 rfl) ?_
    refine r_get X inw_X10 G 0 rfl rfl 1 (by decide) fl_X10_13 (v := .ref (aMO 1)) rfl dX10_byteAt_9 ?_
    refine lv_iload_n hx hb dX10_byteAt_12 rfl (lv_at hl 1 rfl) ?_
    obtain ⟨h2, hf⟩ := ix_some hf
    refine r_iald X G 2 rfl h2 dX10_byteAt_13 ?_
    refine lv_goto (tgt := 18) hx hb dX10_byteAt_14 (by decide) ?_
    cases hf
    exact e_ri X dX10_byteAt_18
theorem mk_X10_byteAt : MV yX10_byteAt cX10_byteAt 2 (some .int) 1 := ⟨co_X10_byteAt, in_X10, im_X10_byteAt, se_X10_byteAt, by decide +kernel, by decide +kernel⟩
noncomputable def FX10_isLetter (v1 : Int32) : Option (Bool) :=
  if v1 < (97 : Int32) then (
    some false
  ) else (
    if (122 : Int32) < v1 then (
      some false
    ) else (
      some true
    )
  )
set_option maxHeartbeats 4000000 in
set_option maxRecDepth 100000 in
theorem ctX10_isLetter {l : Launch} {D : va_G} {k : Nat → ClassId} {Z : ZT} (hZ : ZOK Z)  {v1 : Int32} {q : Bool} (hf : FX10_isLetter v1 = some q) :
    CR l D k Z yX10_isLetter cX10_isLetter 1 (some .boolean) 0 0 [.int v1] (some (.int (bI q))) ([]) := by
  refine CR.start hZ (by decide) (Nat.le_of_ble_eq_true rfl) ?_
  intro p e s m below meth c ls X hl G
  have hx := X.1
  have hb := X.2.1
  have hl : lv_has ls 1 [(0, .int v1)] := hl
  unfold FX10_isLetter at hf
  refine lv_iload_n hx hb dX10_isLetter_0 rfl (lv_at hl 0 rfl) ?_
  refine lv_bipush (v := 97) hx hb dX10_isLetter_1 (by decide) ?_
  refine lv_icmp_lt (tgt := 16) hx hb dX10_isLetter_3 (by decide) (fun c1 => ?_) (fun c1 => ?_)
  · replace hf := if_t hf c1
    refine lv_iconst (v := 0) hx hb dX10_isLetter_16 (by decide) ?_
    cases hf
    exact e_rz _ rfl X dX10_isLetter_17
  · replace hf := if_f hf c1
    refine lv_iload_n hx hb dX10_isLetter_6 rfl (lv_at hl 0 rfl) ?_
    refine lv_bipush (v := 122) hx hb dX10_isLetter_7 (by decide) ?_
    refine lv_icmp_gt (tgt := 16) hx hb dX10_isLetter_9 (by decide) (fun c2 => ?_) (fun c2 => ?_)
    · replace hf := if_t hf c2
      refine lv_iconst (v := 0) hx hb dX10_isLetter_16 (by decide) ?_
      cases hf
      exact e_rz _ rfl X dX10_isLetter_17
    · replace hf := if_f hf c2
      refine lv_iconst (v := 1) hx hb dX10_isLetter_12 (by decide) ?_
      refine lv_goto (tgt := 17) hx hb dX10_isLetter_13 (by decide) ?_
      cases hf
      exact e_rz _ rfl X dX10_isLetter_17
theorem mk_X10_isLetter : MS yX10_isLetter cX10_isLetter 1 (some .boolean) 1 := ⟨co_X10_isLetter, in_X10, st_X10_isLetter, trivial, by decide +kernel, by decide +kernel⟩
noncomputable def FX10_isDigit (v1 : Int32) : Option (Bool) :=
  if v1 < (48 : Int32) then (
    some false
  ) else (
    if (57 : Int32) < v1 then (
      some false
    ) else (
      some true
    )
  )
set_option maxHeartbeats 4000000 in
set_option maxRecDepth 100000 in
theorem ctX10_isDigit {l : Launch} {D : va_G} {k : Nat → ClassId} {Z : ZT} (hZ : ZOK Z)  {v1 : Int32} {q : Bool} (hf : FX10_isDigit v1 = some q) :
    CR l D k Z yX10_isDigit cX10_isDigit 1 (some .boolean) 0 0 [.int v1] (some (.int (bI q))) ([]) := by
  refine CR.start hZ (by decide) (Nat.le_of_ble_eq_true rfl) ?_
  intro p e s m below meth c ls X hl G
  have hx := X.1
  have hb := X.2.1
  have hl : lv_has ls 1 [(0, .int v1)] := hl
  unfold FX10_isDigit at hf
  refine lv_iload_n hx hb dX10_isDigit_0 rfl (lv_at hl 0 rfl) ?_
  refine lv_bipush (v := 48) hx hb dX10_isDigit_1 (by decide) ?_
  refine lv_icmp_lt (tgt := 16) hx hb dX10_isDigit_3 (by decide) (fun c1 => ?_) (fun c1 => ?_)
  · replace hf := if_t hf c1
    refine lv_iconst (v := 0) hx hb dX10_isDigit_16 (by decide) ?_
    cases hf
    exact e_rz _ rfl X dX10_isDigit_17
  · replace hf := if_f hf c1
    refine lv_iload_n hx hb dX10_isDigit_6 rfl (lv_at hl 0 rfl) ?_
    refine lv_bipush (v := 57) hx hb dX10_isDigit_7 (by decide) ?_
    refine lv_icmp_gt (tgt := 16) hx hb dX10_isDigit_9 (by decide) (fun c2 => ?_) (fun c2 => ?_)
    · replace hf := if_t hf c2
      refine lv_iconst (v := 0) hx hb dX10_isDigit_16 (by decide) ?_
      cases hf
      exact e_rz _ rfl X dX10_isDigit_17
    · replace hf := if_f hf c2
      refine lv_iconst (v := 1) hx hb dX10_isDigit_12 (by decide) ?_
      refine lv_goto (tgt := 17) hx hb dX10_isDigit_13 (by decide) ?_
      cases hf
      exact e_rz _ rfl X dX10_isDigit_17
theorem mk_X10_isDigit : MS yX10_isDigit cX10_isDigit 1 (some .boolean) 1 := ⟨co_X10_isDigit, in_X10, st_X10_isDigit, trivial, by decide +kernel, by decide +kernel⟩
noncomputable def FX10_takes_0  : MoT → Option ((MoT) ⊕ (MoT)) := fun stL1 =>
  (FX10_byteAt stL1 (Mo_next stL1)).bind fun r2 =>
  if r2 = (32 : Int32) then (
    nm (sMo_next stL1 ((Mo_next stL1) + (1 : Int32))) fun MO4 =>
    some (.inl MO4)
  ) else (
    (FX10_byteAt stL1 (Mo_next stL1)).bind fun r5 =>
    if r5 = (10 : Int32) then (
      nm (sMo_next stL1 ((Mo_next stL1) + (1 : Int32))) fun MO7 =>
      some (.inl MO7)
    ) else (
      some (.inr stL1)
    )
  )
noncomputable def FX10_takes_170  : MoT → Option ((MoT) ⊕ (MoT)) := fun stL23 =>
  (FX10_byteAt stL23 (Mo_next stL23)).bind fun r24 =>
  (FX10_isDigit r24).bind fun r25 =>
  if (bI r25) = 0 then (
    some (.inr stL23)
  ) else (
    if (2 : Int32) ≤ ((Mo_next stL23) - (Mo_tokenAt stL23)) then (
      nm (sMo_value stL23 (Mo_value stL23)) fun MO28 =>
      nm (sMo_next MO28 ((Mo_next MO28) + (1 : Int32))) fun MO29 =>
      some (.inl MO29)
    ) else (
      (FX10_byteAt stL23 (Mo_next stL23)).bind fun r30 =>
      nm (sMo_value stL23 ((((10 : Int64) * (Mo_value stL23)) + (Int32.toInt64 r30)) - (48 : Int64))) fun MO31 =>
      nm (sMo_next MO31 ((Mo_next MO31) + (1 : Int32))) fun MO32 =>
      some (.inl MO32)
    )
  )
noncomputable def FX10_takes_80  : MoT → Option ((MoT) ⊕ (MoT)) := fun stL36 =>
  (FX10_byteAt stL36 (Mo_next stL36)).bind fun r37 =>
  (FX10_isLetter r37).bind fun r38 =>
  if (bI r38) = 0 then (
    some (.inr stL36)
  ) else (
    if (9 : Int32) ≤ ((Mo_next stL36) - (Mo_tokenAt stL36)) then (
      nm (sMo_value stL36 (-1 : Int64)) fun MO41 =>
      nm (sMo_next MO41 ((Mo_next MO41) + (1 : Int32))) fun MO42 =>
      some (.inl MO42)
    ) else (
      (FX10_byteAt stL36 (Mo_next stL36)).bind fun r43 =>
      nm (sMo_value stL36 (((((27 : Int64) * (Mo_value stL36)) + (Int32.toInt64 r43)) - (97 : Int64)) + (1 : Int64))) fun MO44 =>
      nm (sMo_next MO44 ((Mo_next MO44) + (1 : Int32))) fun MO45 =>
      some (.inl MO45)
    )
  )
noncomputable def FX10_takes (MO : MoT) : Option (MoT) :=
  (itr FX10_takes_0 MO).bind fun uL1 =>
  nm (sMo_tokenAt uL1 (Mo_next uL1)) fun MO8 =>
  (FX10_byteAt MO8 (Mo_next MO8)).bind fun r9 =>
  nm (sMo_value MO8 (0 : Int64)) fun MO10 =>
  if 0 ≤ r9 then (
    (FX10_isLetter r9).bind fun r12 =>
    if (bI r12) = 0 then (
      (FX10_isDigit r9).bind fun r14 =>
      if (bI r14) = 0 then (
        nm (sMo_next MO10 ((Mo_next MO10) + (1 : Int32))) fun MO16 =>
        nm (sMo_value MO16 (Int32.toInt64 r9)) fun MO17 =>
        if r9 = (59 : Int32) then (
          nm (sMo_token MO17 (3 : Int32)) fun MO19 =>
          some MO19
        ) else (
          if r9 = (44 : Int32) then (
            nm (sMo_token MO17 (3 : Int32)) fun MO22 =>
            some MO22
          ) else (
            nm (sMo_token MO17 (4 : Int32)) fun MO21 =>
            some MO21
          )
        )
      ) else (
        (itr FX10_takes_170 MO10).bind fun uL23 =>
        if ((Mo_next uL23) - (Mo_tokenAt uL23)) ≤ (2 : Int32) then (
          nm (sMo_token uL23 (2 : Int32)) fun MO34 =>
          some MO34
        ) else (
          nm (sMo_token uL23 (4 : Int32)) fun MO35 =>
          some MO35
        )
      )
    ) else (
      (itr FX10_takes_80 MO10).bind fun uL36 =>
      nm (sMo_token uL36 (1 : Int32)) fun MO46 =>
      some MO46
    )
  ) else (
    nm (sMo_token MO10 (0 : Int32)) fun MO47 =>
    some MO47
  )
set_option maxHeartbeats 4000000 in
set_option maxRecDepth 100000 in
theorem ctX10_takes {l : Launch} {D : va_G} {k : Nat → ClassId} {Z : ZT} (hZ : ZOK Z) (ot : Nat) (aMO : Nat → Nat) {MO : MoT} {q : MoT} (hf : FX10_takes MO = some q) :
    CM l D k Z yX10_takes cX10_takes 2 none 1 21 [.ref ot] none (kMo k ot aMO (MO)) (kMo k ot aMO (q)) := by
  refine CM.start hZ (by decide) (Nat.le_of_ble_eq_true rfl) ?_
  intro p e s m below meth c ls X hl G
  have hx := X.1
  have hb := X.2.1
  have hl : lv_has ls 2 [(0, .ref ot)] := hl
  unfold FX10_takes at hf
  obtain ⟨exL1, hitL1, hfL1⟩ := bd_some hf
  obtain ⟨nL1, hitL1⟩ := itr_ex hitL1
  have KL1_0 : ∀ (u : MoT) (H : Heap) (locs : List Loc) (ls : Array Slot), exL1 = u → Wo D (wA (kMo k ot aMO (MO))) s.heap (kMo k ot aMO (u)) H locs → lv_has ls 2 [(0, .ref ot)] → W p l e (rmz 1 21) s m [.ref ot].toArray below meth c H locs 0 0 (MQ below (Qm D none (kMo k ot aMO (MO)) (kMo k ot aMO (q))) [.ref ot].toArray s 0 0 (wA (kMo k ot aMO (MO)))) (F0 m 39 ls []) := by
    intro uL1 H locs ls hex G hl
    rw [hex] at hfL1
    have hf := hfL1
    refine lv_aload_n hx hb dX10_takes_39 rfl (lv_at hl 0 rfl) ?_
    refine lv_aload_n hx hb dX10_takes_40 rfl (lv_at hl 0 rfl) ?_
    refine r_get X inw_X10 G 0 rfl rfl 12 (by decide) fl_X10_192 (v := .int (Mo_next uL1)) rfl dX10_takes_41 ?_
    obtain ⟨MO8, eMO8, hf⟩ := nm_some hf
    refine r_put X inw_X10 tyX10 tyX10_ok nmX10 G 0 rfl rfl 14 (by decide) fl_X10_198 rfl rfl rfl (Nat.le_of_ble_eq_true rfl) (ws' := kMo k ot aMO (MO8)) (by subst eMO8; rfl) dX10_takes_44 (fun H locs G => ?_)
    refine lv_aload_n hx hb dX10_takes_47 rfl (lv_at hl 0 rfl) ?_
    refine lv_aload_n hx hb dX10_takes_48 rfl (lv_at hl 0 rfl) ?_
    refine r_get X inw_X10 G 0 rfl rfl 12 (by decide) fl_X10_192 (v := .int (Mo_next MO8)) rfl dX10_takes_49 ?_
    obtain ⟨r9, hcr9, hf⟩ := bd_some hf
    refine p_R (st1 := [.int r9]) (run_V (rest := []) X (ctX10_byteAt hZ ot aMO hcr9) mk_X10_byteAt ml_X10_195 ⟨(Nat.le_of_ble_eq_true rfl), (Nat.le_of_ble_eq_true rfl)⟩ G [0, 1, 2, 3, 4, 5, 6, 7] rfl rfl 0 rfl rfl rfl hl.1 rfl (Nat.le_of_ble_eq_true rfl) dX10_takes_52 ⟨Nat.zero_le _, Nat.zero_le _⟩) rfl ?_
    refine lv_istore_n (lv' := [(1, .int r9), (0, .ref ot)]) hx hb dX10_takes_55 rfl hl (by decide) rfl (fun ls hl => ?_)
    refine lv_aload_n hx hb dX10_takes_56 rfl (lv_at hl 1 rfl) ?_
    refine lv_lconst (v := 0) hx hb dX10_takes_57 (by decide) ?_
    obtain ⟨MO10, eMO10, hf⟩ := nm_some hf
    refine r_put X inw_X10 tyX10 tyX10_ok nmX10 G 0 rfl rfl 15 (by decide) fl_X10_201 rfl rfl rfl (Nat.le_of_ble_eq_true rfl) (ws' := kMo k ot aMO (MO10)) (by subst eMO10; rfl) dX10_takes_58 (fun H locs G => ?_)
    refine lv_iload_n hx hb dX10_takes_61 rfl (lv_at hl 0 rfl) ?_
    refine lv_if_ge (tgt := 73) hx hb dX10_takes_62 (by decide) (fun c11 => ?_) (fun c11 => ?_)
    · replace hf := if_t hf c11
      refine lv_iload_n hx hb dX10_takes_73 rfl (lv_at hl 0 rfl) ?_
      obtain ⟨r12, hcr12, hf⟩ := bd_some hf
      refine p_R (st1 := [.int (bI r12)]) (run_S (rest := []) X (ctX10_isLetter hZ hcr12) mk_X10_isLetter ml_X10_208 ⟨(Nat.le_of_ble_eq_true rfl), (Nat.le_of_ble_eq_true rfl)⟩ G [] rfl rfl rfl hl.1 rfl (Nat.le_of_ble_eq_true rfl) dX10_takes_74 ⟨Nat.zero_le _, Nat.zero_le _⟩) rfl ?_
      refine lv_if_eq (tgt := 163) hx hb dX10_takes_77 (by decide) (fun c13 => ?_) (fun c13 => ?_)
      · replace hf := if_t hf c13
        refine lv_iload_n hx hb dX10_takes_163 rfl (lv_at hl 0 rfl) ?_
        obtain ⟨r14, hcr14, hf⟩ := bd_some hf
        refine p_R (st1 := [.int (bI r14)]) (run_S (rest := []) X (ctX10_isDigit hZ hcr14) mk_X10_isDigit ml_X10_217 ⟨(Nat.le_of_ble_eq_true rfl), (Nat.le_of_ble_eq_true rfl)⟩ G [] rfl rfl rfl hl.1 rfl (Nat.le_of_ble_eq_true rfl) dX10_takes_164 ⟨Nat.zero_le _, Nat.zero_le _⟩) rfl ?_
        refine lv_if_eq (tgt := 268) hx hb dX10_takes_167 (by decide) (fun c15 => ?_) (fun c15 => ?_)
        · replace hf := if_t hf c15
          refine lv_aload_n hx hb dX10_takes_268 rfl (lv_at hl 1 rfl) ?_
          refine lv_dup hx hb dX10_takes_269 rfl ?_
          refine r_get X inw_X10 G 0 rfl rfl 12 (by decide) fl_X10_192 (v := .int (Mo_next MO10)) rfl dX10_takes_270 ?_
          refine lv_iconst (v := 1) hx hb dX10_takes_273 (by decide) ?_
          refine lv_iadd hx hb dX10_takes_274 ?_
          obtain ⟨MO16, eMO16, hf⟩ := nm_some hf
          refine r_put X inw_X10 tyX10 tyX10_ok nmX10 G 0 rfl rfl 12 (by decide) fl_X10_192 rfl rfl rfl (Nat.le_of_ble_eq_true rfl) (ws' := kMo k ot aMO (MO16)) (by subst eMO16; rfl) dX10_takes_275 (fun H locs G => ?_)
          refine lv_aload_n hx hb dX10_takes_278 rfl (lv_at hl 1 rfl) ?_
          refine lv_iload_n hx hb dX10_takes_279 rfl (lv_at hl 0 rfl) ?_
          refine lv_i2l (v := Int32.toInt64 r9) hx hb dX10_takes_280 rfl ?_
          obtain ⟨MO17, eMO17, hf⟩ := nm_some hf
          refine r_put X inw_X10 tyX10 tyX10_ok nmX10 G 0 rfl rfl 15 (by decide) fl_X10_201 rfl rfl rfl (Nat.le_of_ble_eq_true rfl) (ws' := kMo k ot aMO (MO17)) (by subst eMO17; rfl) dX10_takes_281 (fun H locs G => ?_)
          refine lv_aload_n hx hb dX10_takes_284 rfl (lv_at hl 1 rfl) ?_
          refine lv_iload_n hx hb dX10_takes_285 rfl (lv_at hl 0 rfl) ?_
          refine lv_bipush (v := 59) hx hb dX10_takes_286 (by decide) ?_
          refine lv_icmp_eq (tgt := 297) hx hb dX10_takes_288 (by decide) (fun c18 => ?_) (fun c18 => ?_)
          · replace hf := if_t hf c18
            refine lv_iconst (v := 3) hx hb dX10_takes_297 (by decide) ?_
            refine lv_goto (tgt := 302) hx hb dX10_takes_298 (by decide) ?_
            obtain ⟨MO19, eMO19, hf⟩ := nm_some hf
            refine r_put X inw_X10 tyX10 tyX10_ok nmX10 G 0 rfl rfl 13 (by decide) fl_X10_205 rfl rfl rfl (Nat.le_of_ble_eq_true rfl) (ws' := kMo k ot aMO (MO19)) (by subst eMO19; rfl) dX10_takes_302 (fun H locs G => ?_)
            cases hf
            exact e_mv X G dX10_takes_305
          · replace hf := if_f hf c18
            refine lv_iload_n hx hb dX10_takes_291 rfl (lv_at hl 0 rfl) ?_
            refine lv_bipush (v := 44) hx hb dX10_takes_292 (by decide) ?_
            refine lv_icmp_ne (tgt := 301) hx hb dX10_takes_294 (by decide) (fun c20 => ?_) (fun c20 => ?_)
            · replace hf := if_f hf c20
              refine lv_iconst (v := 4) hx hb dX10_takes_301 (by decide) ?_
              obtain ⟨MO21, eMO21, hf⟩ := nm_some hf
              refine r_put X inw_X10 tyX10 tyX10_ok nmX10 G 0 rfl rfl 13 (by decide) fl_X10_205 rfl rfl rfl (Nat.le_of_ble_eq_true rfl) (ws' := kMo k ot aMO (MO21)) (by subst eMO21; rfl) dX10_takes_302 (fun H locs G => ?_)
              cases hf
              exact e_mv X G dX10_takes_305
            · replace hf := if_t hf c20
              refine lv_iconst (v := 3) hx hb dX10_takes_297 (by decide) ?_
              refine lv_goto (tgt := 302) hx hb dX10_takes_298 (by decide) ?_
              obtain ⟨MO22, eMO22, hf⟩ := nm_some hf
              refine r_put X inw_X10 tyX10 tyX10_ok nmX10 G 0 rfl rfl 13 (by decide) fl_X10_205 rfl rfl rfl (Nat.le_of_ble_eq_true rfl) (ws' := kMo k ot aMO (MO22)) (by subst eMO22; rfl) dX10_takes_302 (fun H locs G => ?_)
              cases hf
              exact e_mv X G dX10_takes_305
        · replace hf := if_f hf c15
          obtain ⟨exL23, hitL23, hfL23⟩ := bd_some hf
          obtain ⟨nL23, hitL23⟩ := itr_ex hitL23
          have KL23_0 : ∀ (u : MoT) (H : Heap) (locs : List Loc) (ls : Array Slot), exL23 = u → Wo D (wA (kMo k ot aMO (MO))) s.heap (kMo k ot aMO (u)) H locs → lv_has ls 2 [(0, .ref ot)] → W p l e (rmz 1 21) s m [.ref ot].toArray below meth c H locs 0 0 (MQ below (Qm D none (kMo k ot aMO (MO)) (kMo k ot aMO (q))) [.ref ot].toArray s 0 0 (wA (kMo k ot aMO (MO)))) (F0 m 243 ls []) := by
            intro uL23 H locs ls hex G hl
            rw [hex] at hfL23
            have hf := hfL23
            refine lv_aload_n hx hb dX10_takes_243 rfl (lv_at hl 0 rfl) ?_
            refine lv_aload_n hx hb dX10_takes_244 rfl (lv_at hl 0 rfl) ?_
            refine r_get X inw_X10 G 0 rfl rfl 12 (by decide) fl_X10_192 (v := .int (Mo_next uL23)) rfl dX10_takes_245 ?_
            refine lv_aload_n hx hb dX10_takes_248 rfl (lv_at hl 0 rfl) ?_
            refine r_get X inw_X10 G 0 rfl rfl 14 (by decide) fl_X10_198 (v := .int (Mo_tokenAt uL23)) rfl dX10_takes_249 ?_
            refine lv_isub hx hb dX10_takes_252 ?_
            refine lv_iconst (v := 2) hx hb dX10_takes_253 (by decide) ?_
            refine lv_icmp_le (tgt := 261) hx hb dX10_takes_254 (by decide) (fun c33 => ?_) (fun c33 => ?_)
            · replace hf := if_t hf c33
              refine lv_iconst (v := 2) hx hb dX10_takes_261 (by decide) ?_
              obtain ⟨MO34, eMO34, hf⟩ := nm_some hf
              refine r_put X inw_X10 tyX10 tyX10_ok nmX10 G 0 rfl rfl 13 (by decide) fl_X10_205 rfl rfl rfl (Nat.le_of_ble_eq_true rfl) (ws' := kMo k ot aMO (MO34)) (by subst eMO34; rfl) dX10_takes_262 (fun H locs G => ?_)
              refine lv_goto (tgt := 305) hx hb dX10_takes_265 (by decide) ?_
              cases hf
              exact e_mv X G dX10_takes_305
            · replace hf := if_f hf c33
              refine lv_iconst (v := 4) hx hb dX10_takes_257 (by decide) ?_
              refine lv_goto (tgt := 262) hx hb dX10_takes_258 (by decide) ?_
              obtain ⟨MO35, eMO35, hf⟩ := nm_some hf
              refine r_put X inw_X10 tyX10 tyX10_ok nmX10 G 0 rfl rfl 13 (by decide) fl_X10_205 rfl rfl rfl (Nat.le_of_ble_eq_true rfl) (ws' := kMo k ot aMO (MO35)) (by subst eMO35; rfl) dX10_takes_262 (fun H locs G => ?_)
              refine lv_goto (tgt := 305) hx hb dX10_takes_265 (by decide) ?_
              cases hf
              exact e_mv X G dX10_takes_305
          have LL23 : ∀ (n : Nat) (stL23 : MoT) (H : Heap) (locs : List Loc) (ls : Array Slot), Wo D (wA (kMo k ot aMO (MO))) s.heap (kMo k ot aMO (stL23)) H locs → lv_has ls 2 [(0, .ref ot)] → it FX10_takes_170 n stL23 = some exL23 → W p l e (rmz 1 21) s m [.ref ot].toArray below meth c H locs 0 0 (MQ below (Qm D none (kMo k ot aMO (MO)) (kMo k ot aMO (q))) [.ref ot].toArray s 0 0 (wA (kMo k ot aMO (MO)))) (F0 m 170 ls []) := by
            intro n
            induction n with
            | zero =>
              intro stL23 H locs ls G hl hit
              exact (it_zero hit).elim
            | succ n ih =>
              intro stL23 H locs ls G hl hit
              obtain ⟨oL23, hf, hoL23⟩ := it_bd hit
              unfold FX10_takes_170 at hf
              refine lv_aload_n hx hb dX10_takes_170 rfl (lv_at hl 0 rfl) ?_
              refine lv_aload_n hx hb dX10_takes_171 rfl (lv_at hl 0 rfl) ?_
              refine r_get X inw_X10 G 0 rfl rfl 12 (by decide) fl_X10_192 (v := .int (Mo_next stL23)) rfl dX10_takes_172 ?_
              obtain ⟨r24, hcr24, hf⟩ := bd_some hf
              refine p_R (st1 := [.int r24]) (run_V (rest := []) X (ctX10_byteAt hZ ot aMO hcr24) mk_X10_byteAt ml_X10_195 ⟨(Nat.le_of_ble_eq_true rfl), (Nat.le_of_ble_eq_true rfl)⟩ G [0, 1, 2, 3, 4, 5, 6, 7] rfl rfl 0 rfl rfl rfl hl.1 rfl (Nat.le_of_ble_eq_true rfl) dX10_takes_175 ⟨Nat.zero_le _, Nat.zero_le _⟩) rfl ?_
              obtain ⟨r25, hcr25, hf⟩ := bd_some hf
              refine p_R (st1 := [.int (bI r25)]) (run_S (rest := []) X (ctX10_isDigit hZ hcr25) mk_X10_isDigit ml_X10_217 ⟨(Nat.le_of_ble_eq_true rfl), (Nat.le_of_ble_eq_true rfl)⟩ G [] rfl rfl rfl hl.1 rfl (Nat.le_of_ble_eq_true rfl) dX10_takes_178 ⟨Nat.zero_le _, Nat.zero_le _⟩) rfl ?_
              refine lv_if_eq (tgt := 243) hx hb dX10_takes_181 (by decide) (fun c26 => ?_) (fun c26 => ?_)
              · replace hf := if_t hf c26
                cases hf
                exact KL23_0 stL23 _ _ _ (it_out hoL23) G (lv_sub hl [0] rfl)
              · replace hf := if_f hf c26
                refine lv_aload_n hx hb dX10_takes_184 rfl (lv_at hl 0 rfl) ?_
                refine lv_aload_n hx hb dX10_takes_185 rfl (lv_at hl 0 rfl) ?_
                refine r_get X inw_X10 G 0 rfl rfl 12 (by decide) fl_X10_192 (v := .int (Mo_next stL23)) rfl dX10_takes_186 ?_
                refine lv_aload_n hx hb dX10_takes_189 rfl (lv_at hl 0 rfl) ?_
                refine r_get X inw_X10 G 0 rfl rfl 14 (by decide) fl_X10_198 (v := .int (Mo_tokenAt stL23)) rfl dX10_takes_190 ?_
                refine lv_isub hx hb dX10_takes_193 ?_
                refine lv_iconst (v := 2) hx hb dX10_takes_194 (by decide) ?_
                refine lv_icmp_ge (tgt := 223) hx hb dX10_takes_195 (by decide) (fun c27 => ?_) (fun c27 => ?_)
                · replace hf := if_t hf c27
                  refine lv_aload_n hx hb dX10_takes_223 rfl (lv_at hl 0 rfl) ?_
                  refine r_get X inw_X10 G 0 rfl rfl 15 (by decide) fl_X10_201 (v := .long (Mo_value stL23)) rfl dX10_takes_224 ?_
                  obtain ⟨MO28, eMO28, hf⟩ := nm_some hf
                  refine r_put X inw_X10 tyX10 tyX10_ok nmX10 G 0 rfl rfl 15 (by decide) fl_X10_201 rfl rfl rfl (Nat.le_of_ble_eq_true rfl) (ws' := kMo k ot aMO (MO28)) (by subst eMO28; rfl) dX10_takes_227 (fun H locs G => ?_)
                  refine lv_aload_n hx hb dX10_takes_230 rfl (lv_at hl 0 rfl) ?_
                  refine lv_dup hx hb dX10_takes_231 rfl ?_
                  refine r_get X inw_X10 G 0 rfl rfl 12 (by decide) fl_X10_192 (v := .int (Mo_next MO28)) rfl dX10_takes_232 ?_
                  refine lv_iconst (v := 1) hx hb dX10_takes_235 (by decide) ?_
                  refine lv_iadd hx hb dX10_takes_236 ?_
                  obtain ⟨MO29, eMO29, hf⟩ := nm_some hf
                  refine r_put X inw_X10 tyX10 tyX10_ok nmX10 G 0 rfl rfl 12 (by decide) fl_X10_192 rfl rfl rfl (Nat.le_of_ble_eq_true rfl) (ws' := kMo k ot aMO (MO29)) (by subst eMO29; rfl) dX10_takes_237 (fun H locs G => ?_)
                  refine lv_goto (tgt := 170) hx hb dX10_takes_240 (by decide) ?_
                  cases hf
                  exact ih MO29 _ _ _ G (lv_sub hl [0] rfl) hoL23
                · replace hf := if_f hf c27
                  refine lv_ldc2 (v := 10) hx hb X.2.2.2.2.2.1 (X.2.2.2.2.2.2.1.use ck_X10_220) dX10_takes_198 ?_
                  refine lv_aload_n hx hb dX10_takes_201 rfl (lv_at hl 0 rfl) ?_
                  refine r_get X inw_X10 G 0 rfl rfl 15 (by decide) fl_X10_201 (v := .long (Mo_value stL23)) rfl dX10_takes_202 ?_
                  refine lv_lmul hx hb dX10_takes_205 ?_
                  refine lv_aload_n hx hb dX10_takes_206 rfl (lv_at hl 0 rfl) ?_
                  refine lv_aload_n hx hb dX10_takes_207 rfl (lv_at hl 0 rfl) ?_
                  refine r_get X inw_X10 G 0 rfl rfl 12 (by decide) fl_X10_192 (v := .int (Mo_next stL23)) rfl dX10_takes_208 ?_
                  obtain ⟨r30, hcr30, hf⟩ := bd_some hf
                  refine p_R (st1 := [.int r30, .long ((10 : Int64) * (Mo_value stL23)), .ref ot]) (run_V (rest := [.long ((10 : Int64) * (Mo_value stL23)), .ref ot]) X (ctX10_byteAt hZ ot aMO hcr30) mk_X10_byteAt ml_X10_195 ⟨(Nat.le_of_ble_eq_true rfl), (Nat.le_of_ble_eq_true rfl)⟩ G [0, 1, 2, 3, 4, 5, 6, 7] rfl rfl 0 rfl rfl rfl hl.1 rfl (Nat.le_of_ble_eq_true rfl) dX10_takes_211 ⟨Nat.zero_le _, Nat.zero_le _⟩) rfl ?_
                  refine lv_i2l (v := Int32.toInt64 r30) hx hb dX10_takes_214 rfl ?_
                  refine lv_ladd hx hb dX10_takes_215 ?_
                  refine lv_ldc2 (v := 48) hx hb X.2.2.2.2.2.1 (X.2.2.2.2.2.2.1.use ck_X10_222) dX10_takes_216 ?_
                  refine lv_lsub hx hb dX10_takes_219 ?_
                  refine lv_goto (tgt := 227) hx hb dX10_takes_220 (by decide) ?_
                  obtain ⟨MO31, eMO31, hf⟩ := nm_some hf
                  refine r_put X inw_X10 tyX10 tyX10_ok nmX10 G 0 rfl rfl 15 (by decide) fl_X10_201 rfl rfl rfl (Nat.le_of_ble_eq_true rfl) (ws' := kMo k ot aMO (MO31)) (by subst eMO31; rfl) dX10_takes_227 (fun H locs G => ?_)
                  refine lv_aload_n hx hb dX10_takes_230 rfl (lv_at hl 0 rfl) ?_
                  refine lv_dup hx hb dX10_takes_231 rfl ?_
                  refine r_get X inw_X10 G 0 rfl rfl 12 (by decide) fl_X10_192 (v := .int (Mo_next MO31)) rfl dX10_takes_232 ?_
                  refine lv_iconst (v := 1) hx hb dX10_takes_235 (by decide) ?_
                  refine lv_iadd hx hb dX10_takes_236 ?_
                  obtain ⟨MO32, eMO32, hf⟩ := nm_some hf
                  refine r_put X inw_X10 tyX10 tyX10_ok nmX10 G 0 rfl rfl 12 (by decide) fl_X10_192 rfl rfl rfl (Nat.le_of_ble_eq_true rfl) (ws' := kMo k ot aMO (MO32)) (by subst eMO32; rfl) dX10_takes_237 (fun H locs G => ?_)
                  refine lv_goto (tgt := 170) hx hb dX10_takes_240 (by decide) ?_
                  cases hf
                  exact ih MO32 _ _ _ G (lv_sub hl [0] rfl) hoL23
          exact LL23 nL23 MO10 _ _ _ G (lv_sub hl [1] rfl) hitL23
      · replace hf := if_f hf c13
        obtain ⟨exL36, hitL36, hfL36⟩ := bd_some hf
        obtain ⟨nL36, hitL36⟩ := itr_ex hitL36
        have KL36_0 : ∀ (u : MoT) (H : Heap) (locs : List Loc) (ls : Array Slot), exL36 = u → Wo D (wA (kMo k ot aMO (MO))) s.heap (kMo k ot aMO (u)) H locs → lv_has ls 2 [(0, .ref ot)] → W p l e (rmz 1 21) s m [.ref ot].toArray below meth c H locs 0 0 (MQ below (Qm D none (kMo k ot aMO (MO)) (kMo k ot aMO (q))) [.ref ot].toArray s 0 0 (wA (kMo k ot aMO (MO)))) (F0 m 155 ls []) := by
          intro uL36 H locs ls hex G hl
          rw [hex] at hfL36
          have hf := hfL36
          refine lv_aload_n hx hb dX10_takes_155 rfl (lv_at hl 0 rfl) ?_
          refine lv_iconst (v := 1) hx hb dX10_takes_156 (by decide) ?_
          obtain ⟨MO46, eMO46, hf⟩ := nm_some hf
          refine r_put X inw_X10 tyX10 tyX10_ok nmX10 G 0 rfl rfl 13 (by decide) fl_X10_205 rfl rfl rfl (Nat.le_of_ble_eq_true rfl) (ws' := kMo k ot aMO (MO46)) (by subst eMO46; rfl) dX10_takes_157 (fun H locs G => ?_)
          refine lv_goto (tgt := 305) hx hb dX10_takes_160 (by decide) ?_
          cases hf
          exact e_mv X G dX10_takes_305
        have LL36 : ∀ (n : Nat) (stL36 : MoT) (H : Heap) (locs : List Loc) (ls : Array Slot), Wo D (wA (kMo k ot aMO (MO))) s.heap (kMo k ot aMO (stL36)) H locs → lv_has ls 2 [(0, .ref ot)] → it FX10_takes_80 n stL36 = some exL36 → W p l e (rmz 1 21) s m [.ref ot].toArray below meth c H locs 0 0 (MQ below (Qm D none (kMo k ot aMO (MO)) (kMo k ot aMO (q))) [.ref ot].toArray s 0 0 (wA (kMo k ot aMO (MO)))) (F0 m 80 ls []) := by
          intro n
          induction n with
          | zero =>
            intro stL36 H locs ls G hl hit
            exact (it_zero hit).elim
          | succ n ih =>
            intro stL36 H locs ls G hl hit
            obtain ⟨oL36, hf, hoL36⟩ := it_bd hit
            unfold FX10_takes_80 at hf
            refine lv_aload_n hx hb dX10_takes_80 rfl (lv_at hl 0 rfl) ?_
            refine lv_aload_n hx hb dX10_takes_81 rfl (lv_at hl 0 rfl) ?_
            refine r_get X inw_X10 G 0 rfl rfl 12 (by decide) fl_X10_192 (v := .int (Mo_next stL36)) rfl dX10_takes_82 ?_
            obtain ⟨r37, hcr37, hf⟩ := bd_some hf
            refine p_R (st1 := [.int r37]) (run_V (rest := []) X (ctX10_byteAt hZ ot aMO hcr37) mk_X10_byteAt ml_X10_195 ⟨(Nat.le_of_ble_eq_true rfl), (Nat.le_of_ble_eq_true rfl)⟩ G [0, 1, 2, 3, 4, 5, 6, 7] rfl rfl 0 rfl rfl rfl hl.1 rfl (Nat.le_of_ble_eq_true rfl) dX10_takes_85 ⟨Nat.zero_le _, Nat.zero_le _⟩) rfl ?_
            obtain ⟨r38, hcr38, hf⟩ := bd_some hf
            refine p_R (st1 := [.int (bI r38)]) (run_S (rest := []) X (ctX10_isLetter hZ hcr38) mk_X10_isLetter ml_X10_208 ⟨(Nat.le_of_ble_eq_true rfl), (Nat.le_of_ble_eq_true rfl)⟩ G [] rfl rfl rfl hl.1 rfl (Nat.le_of_ble_eq_true rfl) dX10_takes_88 ⟨Nat.zero_le _, Nat.zero_le _⟩) rfl ?_
            refine lv_if_eq (tgt := 155) hx hb dX10_takes_91 (by decide) (fun c39 => ?_) (fun c39 => ?_)
            · replace hf := if_t hf c39
              cases hf
              exact KL36_0 stL36 _ _ _ (it_out hoL36) G (lv_sub hl [0] rfl)
            · replace hf := if_f hf c39
              refine lv_aload_n hx hb dX10_takes_94 rfl (lv_at hl 0 rfl) ?_
              refine lv_aload_n hx hb dX10_takes_95 rfl (lv_at hl 0 rfl) ?_
              refine r_get X inw_X10 G 0 rfl rfl 12 (by decide) fl_X10_192 (v := .int (Mo_next stL36)) rfl dX10_takes_96 ?_
              refine lv_aload_n hx hb dX10_takes_99 rfl (lv_at hl 0 rfl) ?_
              refine r_get X inw_X10 G 0 rfl rfl 14 (by decide) fl_X10_198 (v := .int (Mo_tokenAt stL36)) rfl dX10_takes_100 ?_
              refine lv_isub hx hb dX10_takes_103 ?_
              refine lv_bipush (v := 9) hx hb dX10_takes_104 (by decide) ?_
              refine lv_icmp_ge (tgt := 136) hx hb dX10_takes_106 (by decide) (fun c40 => ?_) (fun c40 => ?_)
              · replace hf := if_t hf c40
                refine lv_ldc2 (v := -1) hx hb X.2.2.2.2.2.1 (X.2.2.2.2.2.2.1.use ck_X10_215) dX10_takes_136 ?_
                obtain ⟨MO41, eMO41, hf⟩ := nm_some hf
                refine r_put X inw_X10 tyX10 tyX10_ok nmX10 G 0 rfl rfl 15 (by decide) fl_X10_201 rfl rfl rfl (Nat.le_of_ble_eq_true rfl) (ws' := kMo k ot aMO (MO41)) (by subst eMO41; rfl) dX10_takes_139 (fun H locs G => ?_)
                refine lv_aload_n hx hb dX10_takes_142 rfl (lv_at hl 0 rfl) ?_
                refine lv_dup hx hb dX10_takes_143 rfl ?_
                refine r_get X inw_X10 G 0 rfl rfl 12 (by decide) fl_X10_192 (v := .int (Mo_next MO41)) rfl dX10_takes_144 ?_
                refine lv_iconst (v := 1) hx hb dX10_takes_147 (by decide) ?_
                refine lv_iadd hx hb dX10_takes_148 ?_
                obtain ⟨MO42, eMO42, hf⟩ := nm_some hf
                refine r_put X inw_X10 tyX10 tyX10_ok nmX10 G 0 rfl rfl 12 (by decide) fl_X10_192 rfl rfl rfl (Nat.le_of_ble_eq_true rfl) (ws' := kMo k ot aMO (MO42)) (by subst eMO42; rfl) dX10_takes_149 (fun H locs G => ?_)
                refine lv_goto (tgt := 80) hx hb dX10_takes_152 (by decide) ?_
                cases hf
                exact ih MO42 _ _ _ G (lv_sub hl [0] rfl) hoL36
              · replace hf := if_f hf c40
                refine lv_ldc2 (v := 27) hx hb X.2.2.2.2.2.1 (X.2.2.2.2.2.2.1.use ck_X10_211) dX10_takes_109 ?_
                refine lv_aload_n hx hb dX10_takes_112 rfl (lv_at hl 0 rfl) ?_
                refine r_get X inw_X10 G 0 rfl rfl 15 (by decide) fl_X10_201 (v := .long (Mo_value stL36)) rfl dX10_takes_113 ?_
                refine lv_lmul hx hb dX10_takes_116 ?_
                refine lv_aload_n hx hb dX10_takes_117 rfl (lv_at hl 0 rfl) ?_
                refine lv_aload_n hx hb dX10_takes_118 rfl (lv_at hl 0 rfl) ?_
                refine r_get X inw_X10 G 0 rfl rfl 12 (by decide) fl_X10_192 (v := .int (Mo_next stL36)) rfl dX10_takes_119 ?_
                obtain ⟨r43, hcr43, hf⟩ := bd_some hf
                refine p_R (st1 := [.int r43, .long ((27 : Int64) * (Mo_value stL36)), .ref ot]) (run_V (rest := [.long ((27 : Int64) * (Mo_value stL36)), .ref ot]) X (ctX10_byteAt hZ ot aMO hcr43) mk_X10_byteAt ml_X10_195 ⟨(Nat.le_of_ble_eq_true rfl), (Nat.le_of_ble_eq_true rfl)⟩ G [0, 1, 2, 3, 4, 5, 6, 7] rfl rfl 0 rfl rfl rfl hl.1 rfl (Nat.le_of_ble_eq_true rfl) dX10_takes_122 ⟨Nat.zero_le _, Nat.zero_le _⟩) rfl ?_
                refine lv_i2l (v := Int32.toInt64 r43) hx hb dX10_takes_125 rfl ?_
                refine lv_ladd hx hb dX10_takes_126 ?_
                refine lv_ldc2 (v := 97) hx hb X.2.2.2.2.2.1 (X.2.2.2.2.2.2.1.use ck_X10_213) dX10_takes_127 ?_
                refine lv_lsub hx hb dX10_takes_130 ?_
                refine lv_lconst (v := 1) hx hb dX10_takes_131 (by decide) ?_
                refine lv_ladd hx hb dX10_takes_132 ?_
                refine lv_goto (tgt := 139) hx hb dX10_takes_133 (by decide) ?_
                obtain ⟨MO44, eMO44, hf⟩ := nm_some hf
                refine r_put X inw_X10 tyX10 tyX10_ok nmX10 G 0 rfl rfl 15 (by decide) fl_X10_201 rfl rfl rfl (Nat.le_of_ble_eq_true rfl) (ws' := kMo k ot aMO (MO44)) (by subst eMO44; rfl) dX10_takes_139 (fun H locs G => ?_)
                refine lv_aload_n hx hb dX10_takes_142 rfl (lv_at hl 0 rfl) ?_
                refine lv_dup hx hb dX10_takes_143 rfl ?_
                refine r_get X inw_X10 G 0 rfl rfl 12 (by decide) fl_X10_192 (v := .int (Mo_next MO44)) rfl dX10_takes_144 ?_
                refine lv_iconst (v := 1) hx hb dX10_takes_147 (by decide) ?_
                refine lv_iadd hx hb dX10_takes_148 ?_
                obtain ⟨MO45, eMO45, hf⟩ := nm_some hf
                refine r_put X inw_X10 tyX10 tyX10_ok nmX10 G 0 rfl rfl 12 (by decide) fl_X10_192 rfl rfl rfl (Nat.le_of_ble_eq_true rfl) (ws' := kMo k ot aMO (MO45)) (by subst eMO45; rfl) dX10_takes_149 (fun H locs G => ?_)
                refine lv_goto (tgt := 80) hx hb dX10_takes_152 (by decide) ?_
                cases hf
                exact ih MO45 _ _ _ G (lv_sub hl [0] rfl) hoL36
        exact LL36 nL36 MO10 _ _ _ G (lv_sub hl [1] rfl) hitL36
    · replace hf := if_f hf c11
      refine lv_aload_n hx hb dX10_takes_65 rfl (lv_at hl 1 rfl) ?_
      refine lv_iconst (v := 0) hx hb dX10_takes_66 (by decide) ?_
      obtain ⟨MO47, eMO47, hf⟩ := nm_some hf
      refine r_put X inw_X10 tyX10 tyX10_ok nmX10 G 0 rfl rfl 13 (by decide) fl_X10_205 rfl rfl rfl (Nat.le_of_ble_eq_true rfl) (ws' := kMo k ot aMO (MO47)) (by subst eMO47; rfl) dX10_takes_67 (fun H locs G => ?_)
      refine lv_goto (tgt := 305) hx hb dX10_takes_70 (by decide) ?_
      cases hf
      exact e_mv X G dX10_takes_305
  have LL1 : ∀ (n : Nat) (stL1 : MoT) (H : Heap) (locs : List Loc) (ls : Array Slot), Wo D (wA (kMo k ot aMO (MO))) s.heap (kMo k ot aMO (stL1)) H locs → lv_has ls 2 [(0, .ref ot)] → it FX10_takes_0 n stL1 = some exL1 → W p l e (rmz 1 21) s m [.ref ot].toArray below meth c H locs 0 0 (MQ below (Qm D none (kMo k ot aMO (MO)) (kMo k ot aMO (q))) [.ref ot].toArray s 0 0 (wA (kMo k ot aMO (MO)))) (F0 m 0 ls []) := by
    intro n
    induction n with
    | zero =>
      intro stL1 H locs ls G hl hit
      exact (it_zero hit).elim
    | succ n ih =>
      intro stL1 H locs ls G hl hit
      obtain ⟨oL1, hf, hoL1⟩ := it_bd hit
      unfold FX10_takes_0 at hf
      refine lv_aload_n hx hb dX10_takes_0 rfl (lv_at hl 0 rfl) ?_
      refine lv_aload_n hx hb dX10_takes_1 rfl (lv_at hl 0 rfl) ?_
      refine r_get X inw_X10 G 0 rfl rfl 12 (by decide) fl_X10_192 (v := .int (Mo_next stL1)) rfl dX10_takes_2 ?_
      obtain ⟨r2, hcr2, hf⟩ := bd_some hf
      refine p_R (st1 := [.int r2]) (run_V (rest := []) X (ctX10_byteAt hZ ot aMO hcr2) mk_X10_byteAt ml_X10_195 ⟨(Nat.le_of_ble_eq_true rfl), (Nat.le_of_ble_eq_true rfl)⟩ G [0, 1, 2, 3, 4, 5, 6, 7] rfl rfl 0 rfl rfl rfl hl.1 rfl (Nat.le_of_ble_eq_true rfl) dX10_takes_5 ⟨Nat.zero_le _, Nat.zero_le _⟩) rfl ?_
      refine lv_bipush (v := 32) hx hb dX10_takes_8 (by decide) ?_
      refine lv_icmp_eq (tgt := 26) hx hb dX10_takes_10 (by decide) (fun c3 => ?_) (fun c3 => ?_)
      · replace hf := if_t hf c3
        refine lv_aload_n hx hb dX10_takes_26 rfl (lv_at hl 0 rfl) ?_
        refine lv_dup hx hb dX10_takes_27 rfl ?_
        refine r_get X inw_X10 G 0 rfl rfl 12 (by decide) fl_X10_192 (v := .int (Mo_next stL1)) rfl dX10_takes_28 ?_
        refine lv_iconst (v := 1) hx hb dX10_takes_31 (by decide) ?_
        refine lv_iadd hx hb dX10_takes_32 ?_
        obtain ⟨MO4, eMO4, hf⟩ := nm_some hf
        refine r_put X inw_X10 tyX10 tyX10_ok nmX10 G 0 rfl rfl 12 (by decide) fl_X10_192 rfl rfl rfl (Nat.le_of_ble_eq_true rfl) (ws' := kMo k ot aMO (MO4)) (by subst eMO4; rfl) dX10_takes_33 (fun H locs G => ?_)
        refine lv_goto (tgt := 0) hx hb dX10_takes_36 (by decide) ?_
        cases hf
        exact ih MO4 _ _ _ G (lv_sub hl [0] rfl) hoL1
      · replace hf := if_f hf c3
        refine lv_aload_n hx hb dX10_takes_13 rfl (lv_at hl 0 rfl) ?_
        refine lv_aload_n hx hb dX10_takes_14 rfl (lv_at hl 0 rfl) ?_
        refine r_get X inw_X10 G 0 rfl rfl 12 (by decide) fl_X10_192 (v := .int (Mo_next stL1)) rfl dX10_takes_15 ?_
        obtain ⟨r5, hcr5, hf⟩ := bd_some hf
        refine p_R (st1 := [.int r5]) (run_V (rest := []) X (ctX10_byteAt hZ ot aMO hcr5) mk_X10_byteAt ml_X10_195 ⟨(Nat.le_of_ble_eq_true rfl), (Nat.le_of_ble_eq_true rfl)⟩ G [0, 1, 2, 3, 4, 5, 6, 7] rfl rfl 0 rfl rfl rfl hl.1 rfl (Nat.le_of_ble_eq_true rfl) dX10_takes_18 ⟨Nat.zero_le _, Nat.zero_le _⟩) rfl ?_
        refine lv_bipush (v := 10) hx hb dX10_takes_21 (by decide) ?_
        refine lv_icmp_ne (tgt := 39) hx hb dX10_takes_23 (by decide) (fun c6 => ?_) (fun c6 => ?_)
        · replace hf := if_f hf c6
          cases hf
          exact KL1_0 stL1 _ _ _ (it_out hoL1) G (lv_sub hl [0] rfl)
        · replace hf := if_t hf c6
          refine lv_aload_n hx hb dX10_takes_26 rfl (lv_at hl 0 rfl) ?_
          refine lv_dup hx hb dX10_takes_27 rfl ?_
          refine r_get X inw_X10 G 0 rfl rfl 12 (by decide) fl_X10_192 (v := .int (Mo_next stL1)) rfl dX10_takes_28 ?_
          refine lv_iconst (v := 1) hx hb dX10_takes_31 (by decide) ?_
          refine lv_iadd hx hb dX10_takes_32 ?_
          obtain ⟨MO7, eMO7, hf⟩ := nm_some hf
          refine r_put X inw_X10 tyX10 tyX10_ok nmX10 G 0 rfl rfl 12 (by decide) fl_X10_192 rfl rfl rfl (Nat.le_of_ble_eq_true rfl) (ws' := kMo k ot aMO (MO7)) (by subst eMO7; rfl) dX10_takes_33 (fun H locs G => ?_)
          refine lv_goto (tgt := 0) hx hb dX10_takes_36 (by decide) ?_
          cases hf
          exact ih MO7 _ _ _ G (lv_sub hl [0] rfl) hoL1
  exact LL1 nL1 MO _ _ _ G (lv_sub hl [0] rfl) hitL1
theorem mk_X10_takes : MV yX10_takes cX10_takes 2 none 0 := ⟨co_X10_takes, in_X10, im_X10_takes, se_X10_takes, by decide +kernel, by decide +kernel⟩
noncomputable def FX10_wrong (MO : MoT) : Option (MoT) :=
  if (Mo_faultKind MO) ≤ 0 then (
    nm (sMo_faultKind MO (1 : Int32)) fun MO2 =>
    nm (sMo_faultPlace MO2 (Mo_tokenAt MO2)) fun MO3 =>
    some MO3
  ) else (
    some MO
  )
set_option maxHeartbeats 4000000 in
set_option maxRecDepth 100000 in
theorem ctX10_wrong {l : Launch} {D : va_G} {k : Nat → ClassId} {Z : ZT} (hZ : ZOK Z) (ot : Nat) (aMO : Nat → Nat) {MO : MoT} {q : MoT} (hf : FX10_wrong MO = some q) :
    CM l D k Z yX10_wrong cX10_wrong 1 none 0 0 [.ref ot] none (kMo k ot aMO (MO)) (kMo k ot aMO (q)) := by
  refine CM.start hZ (by decide) (Nat.le_of_ble_eq_true rfl) ?_
  intro p e s m below meth c ls X hl G
  have hx := X.1
  have hb := X.2.1
  have hl : lv_has ls 1 [(0, .ref ot)] := hl
  unfold FX10_wrong at hf
  refine lv_aload_n hx hb dX10_wrong_0 rfl (lv_at hl 0 rfl) ?_
  refine r_get X inw_X10 G 0 rfl rfl 4 (by decide) fl_X10_186 (v := .int (Mo_faultKind MO)) rfl dX10_wrong_1 ?_
  refine lv_if_le (tgt := 8) hx hb dX10_wrong_4 (by decide) (fun c1 => ?_) (fun c1 => ?_)
  · replace hf := if_t hf c1
    refine lv_aload_n hx hb dX10_wrong_8 rfl (lv_at hl 0 rfl) ?_
    refine lv_iconst (v := 1) hx hb dX10_wrong_9 (by decide) ?_
    obtain ⟨MO2, eMO2, hf⟩ := nm_some hf
    refine r_put X inw_X10 tyX10 tyX10_ok nmX10 G 0 rfl rfl 4 (by decide) fl_X10_186 rfl rfl rfl (Nat.le_of_ble_eq_true rfl) (ws' := kMo k ot aMO (MO2)) (by subst eMO2; rfl) dX10_wrong_10 (fun H locs G => ?_)
    refine lv_aload_n hx hb dX10_wrong_13 rfl (lv_at hl 0 rfl) ?_
    refine lv_aload_n hx hb dX10_wrong_14 rfl (lv_at hl 0 rfl) ?_
    refine r_get X inw_X10 G 0 rfl rfl 14 (by decide) fl_X10_198 (v := .int (Mo_tokenAt MO2)) rfl dX10_wrong_15 ?_
    obtain ⟨MO3, eMO3, hf⟩ := nm_some hf
    refine r_put X inw_X10 tyX10 tyX10_ok nmX10 G 0 rfl rfl 5 (by decide) fl_X10_20 rfl rfl rfl (Nat.le_of_ble_eq_true rfl) (ws' := kMo k ot aMO (MO3)) (by subst eMO3; rfl) dX10_wrong_18 (fun H locs G => ?_)
    cases hf
    exact e_mv X G dX10_wrong_21
  · replace hf := if_f hf c1
    cases hf
    exact e_mv X G dX10_wrong_7
theorem mk_X10_wrong : MV yX10_wrong cX10_wrong 1 none 0 := ⟨co_X10_wrong, in_X10, im_X10_wrong, se_X10_wrong, by decide +kernel, by decide +kernel⟩
noncomputable def FX10_also (MO : MoT) (v1 : Int32) (v2 : Int32) : Option (MoT) :=
  if (Mo_alsoKind MO) ≤ 0 then (
    nm (sMo_alsoKind MO v1) fun MO2 =>
    nm (sMo_alsoPlace MO2 v2) fun MO3 =>
    some MO3
  ) else (
    if (Mo_alsoPlace MO) < v2 then (
      some MO
    ) else (
      if v2 = (Mo_alsoPlace MO) then (
        if v1 ≤ (Mo_alsoKind MO) then (
          nm (sMo_alsoKind MO v1) fun MO9 =>
          nm (sMo_alsoPlace MO9 v2) fun MO10 =>
          some MO10
        ) else (
          some MO
        )
      ) else (
        nm (sMo_alsoKind MO v1) fun MO6 =>
        nm (sMo_alsoPlace MO6 v2) fun MO7 =>
        some MO7
      )
    )
  )
set_option maxHeartbeats 4000000 in
set_option maxRecDepth 100000 in
theorem ctX10_also {l : Launch} {D : va_G} {k : Nat → ClassId} {Z : ZT} (hZ : ZOK Z) (ot : Nat) (aMO : Nat → Nat) {MO : MoT} {v1 : Int32} {v2 : Int32} {q : MoT} (hf : FX10_also MO v1 v2 = some q) :
    CM l D k Z yX10_also cX10_also 3 none 0 0 [.ref ot, .int v1, .int v2] none (kMo k ot aMO (MO)) (kMo k ot aMO (q)) := by
  refine CM.start hZ (by decide) (Nat.le_of_ble_eq_true rfl) ?_
  intro p e s m below meth c ls X hl G
  have hx := X.1
  have hb := X.2.1
  have hl : lv_has ls 3 [(0, .ref ot), (1, .int v1), (2, .int v2)] := hl
  unfold FX10_also at hf
  refine lv_aload_n hx hb dX10_also_0 rfl (lv_at hl 0 rfl) ?_
  refine r_get X inw_X10 G 0 rfl rfl 16 (by decide) fl_X10_224 (v := .int (Mo_alsoKind MO)) rfl dX10_also_1 ?_
  refine lv_if_le (tgt := 32) hx hb dX10_also_4 (by decide) (fun c1 => ?_) (fun c1 => ?_)
  · replace hf := if_t hf c1
    refine lv_aload_n hx hb dX10_also_32 rfl (lv_at hl 0 rfl) ?_
    refine lv_iload_n hx hb dX10_also_33 rfl (lv_at hl 1 rfl) ?_
    obtain ⟨MO2, eMO2, hf⟩ := nm_some hf
    refine r_put X inw_X10 tyX10 tyX10_ok nmX10 G 0 rfl rfl 16 (by decide) fl_X10_224 rfl rfl rfl (Nat.le_of_ble_eq_true rfl) (ws' := kMo k ot aMO (MO2)) (by subst eMO2; rfl) dX10_also_34 (fun H locs G => ?_)
    refine lv_aload_n hx hb dX10_also_37 rfl (lv_at hl 0 rfl) ?_
    refine lv_iload_n hx hb dX10_also_38 rfl (lv_at hl 2 rfl) ?_
    obtain ⟨MO3, eMO3, hf⟩ := nm_some hf
    refine r_put X inw_X10 tyX10 tyX10_ok nmX10 G 0 rfl rfl 17 (by decide) fl_X10_227 rfl rfl rfl (Nat.le_of_ble_eq_true rfl) (ws' := kMo k ot aMO (MO3)) (by subst eMO3; rfl) dX10_also_39 (fun H locs G => ?_)
    cases hf
    exact e_mv X G dX10_also_42
  · replace hf := if_f hf c1
    refine lv_iload_n hx hb dX10_also_7 rfl (lv_at hl 2 rfl) ?_
    refine lv_aload_n hx hb dX10_also_8 rfl (lv_at hl 0 rfl) ?_
    refine r_get X inw_X10 G 0 rfl rfl 17 (by decide) fl_X10_227 (v := .int (Mo_alsoPlace MO)) rfl dX10_also_9 ?_
    refine lv_icmp_gt (tgt := 31) hx hb dX10_also_12 (by decide) (fun c4 => ?_) (fun c4 => ?_)
    · replace hf := if_t hf c4
      cases hf
      exact e_mv X G dX10_also_31
    · replace hf := if_f hf c4
      refine lv_iload_n hx hb dX10_also_15 rfl (lv_at hl 2 rfl) ?_
      refine lv_aload_n hx hb dX10_also_16 rfl (lv_at hl 0 rfl) ?_
      refine r_get X inw_X10 G 0 rfl rfl 17 (by decide) fl_X10_227 (v := .int (Mo_alsoPlace MO)) rfl dX10_also_17 ?_
      refine lv_icmp_ne (tgt := 32) hx hb dX10_also_20 (by decide) (fun c5 => ?_) (fun c5 => ?_)
      · replace hf := if_f hf c5
        refine lv_aload_n hx hb dX10_also_32 rfl (lv_at hl 0 rfl) ?_
        refine lv_iload_n hx hb dX10_also_33 rfl (lv_at hl 1 rfl) ?_
        obtain ⟨MO6, eMO6, hf⟩ := nm_some hf
        refine r_put X inw_X10 tyX10 tyX10_ok nmX10 G 0 rfl rfl 16 (by decide) fl_X10_224 rfl rfl rfl (Nat.le_of_ble_eq_true rfl) (ws' := kMo k ot aMO (MO6)) (by subst eMO6; rfl) dX10_also_34 (fun H locs G => ?_)
        refine lv_aload_n hx hb dX10_also_37 rfl (lv_at hl 0 rfl) ?_
        refine lv_iload_n hx hb dX10_also_38 rfl (lv_at hl 2 rfl) ?_
        obtain ⟨MO7, eMO7, hf⟩ := nm_some hf
        refine r_put X inw_X10 tyX10 tyX10_ok nmX10 G 0 rfl rfl 17 (by decide) fl_X10_227 rfl rfl rfl (Nat.le_of_ble_eq_true rfl) (ws' := kMo k ot aMO (MO7)) (by subst eMO7; rfl) dX10_also_39 (fun H locs G => ?_)
        cases hf
        exact e_mv X G dX10_also_42
      · replace hf := if_t hf c5
        refine lv_iload_n hx hb dX10_also_23 rfl (lv_at hl 1 rfl) ?_
        refine lv_aload_n hx hb dX10_also_24 rfl (lv_at hl 0 rfl) ?_
        refine r_get X inw_X10 G 0 rfl rfl 16 (by decide) fl_X10_224 (v := .int (Mo_alsoKind MO)) rfl dX10_also_25 ?_
        refine lv_icmp_le (tgt := 32) hx hb dX10_also_28 (by decide) (fun c8 => ?_) (fun c8 => ?_)
        · replace hf := if_t hf c8
          refine lv_aload_n hx hb dX10_also_32 rfl (lv_at hl 0 rfl) ?_
          refine lv_iload_n hx hb dX10_also_33 rfl (lv_at hl 1 rfl) ?_
          obtain ⟨MO9, eMO9, hf⟩ := nm_some hf
          refine r_put X inw_X10 tyX10 tyX10_ok nmX10 G 0 rfl rfl 16 (by decide) fl_X10_224 rfl rfl rfl (Nat.le_of_ble_eq_true rfl) (ws' := kMo k ot aMO (MO9)) (by subst eMO9; rfl) dX10_also_34 (fun H locs G => ?_)
          refine lv_aload_n hx hb dX10_also_37 rfl (lv_at hl 0 rfl) ?_
          refine lv_iload_n hx hb dX10_also_38 rfl (lv_at hl 2 rfl) ?_
          obtain ⟨MO10, eMO10, hf⟩ := nm_some hf
          refine r_put X inw_X10 tyX10 tyX10_ok nmX10 G 0 rfl rfl 17 (by decide) fl_X10_227 rfl rfl rfl (Nat.le_of_ble_eq_true rfl) (ws' := kMo k ot aMO (MO10)) (by subst eMO10; rfl) dX10_also_39 (fun H locs G => ?_)
          cases hf
          exact e_mv X G dX10_also_42
        · replace hf := if_f hf c8
          cases hf
          exact e_mv X G dX10_also_31
theorem mk_X10_also : MV yX10_also cX10_also 3 none 2 := ⟨co_X10_also, in_X10, im_X10_also, se_X10_also, by decide +kernel, by decide +kernel⟩
noncomputable def FX10_isGood (MO : MoT) : Option (Bool) :=
  if (Mo_faultKind MO) = 0 then (
    some true
  ) else (
    some false
  )
set_option maxHeartbeats 4000000 in
set_option maxRecDepth 100000 in
theorem ctX10_isGood {l : Launch} {D : va_G} {k : Nat → ClassId} {Z : ZT} (hZ : ZOK Z) (ot : Nat) (aMO : Nat → Nat) {MO : MoT} {q : Bool} (hf : FX10_isGood MO = some q) :
    CR l D k Z yX10_isGood cX10_isGood 1 (some .boolean) 0 0 [.ref ot] (some (.int (bI q))) (kMo k ot aMO (MO)) := by
  refine CR.start hZ (by decide) (Nat.le_of_ble_eq_true rfl) ?_
  intro p e s m below meth c ls X hl G
  have hx := X.1
  have hb := X.2.1
  have hl : lv_has ls 1 [(0, .ref ot)] := hl
  unfold FX10_isGood at hf
  refine lv_aload_n hx hb dX10_isGood_0 rfl (lv_at hl 0 rfl) ?_
  refine r_get X inw_X10 G 0 rfl rfl 4 (by decide) fl_X10_186 (v := .int (Mo_faultKind MO)) rfl dX10_isGood_1 ?_
  refine lv_if_ne (tgt := 11) hx hb dX10_isGood_4 (by decide) (fun c1 => ?_) (fun c1 => ?_)
  · replace hf := if_f hf c1
    refine lv_iconst (v := 0) hx hb dX10_isGood_11 (by decide) ?_
    cases hf
    exact e_rz _ rfl X dX10_isGood_12
  · replace hf := if_t hf c1
    refine lv_iconst (v := 1) hx hb dX10_isGood_7 (by decide) ?_
    refine lv_goto (tgt := 12) hx hb dX10_isGood_8 (by decide) ?_
    cases hf
    exact e_rz _ rfl X dX10_isGood_12
theorem mk_X10_isGood : MV yX10_isGood cX10_isGood 1 (some .boolean) 0 := ⟨co_X10_isGood, in_X10, im_X10_isGood, se_X10_isGood, by decide +kernel, by decide +kernel⟩
noncomputable def FX10_hasWord (MO : MoT) (v1 : Int64) : Option (Bool × MoT) :=
  (FX10_isGood MO).bind fun r1 =>
  if (bI r1) = 0 then (
    some (false, MO)
  ) else (
    if (Mo_token MO) = (1 : Int32) then (
      if (lg_cmp (Mo_value MO) v1) = 0 then (
        (FX10_takes MO).bind fun r5 =>
        some (true, r5)
      ) else (
        some (false, MO)
      )
    ) else (
      some (false, MO)
    )
  )
set_option maxHeartbeats 4000000 in
set_option maxRecDepth 100000 in
theorem ctX10_hasWord {l : Launch} {D : va_G} {k : Nat → ClassId} {Z : ZT} (hZ : ZOK Z) (ot : Nat) (aMO : Nat → Nat) {MO : MoT} {v1 : Int64} {q : Bool × MoT} (hf : FX10_hasWord MO v1 = some q) :
    CM l D k Z yX10_hasWord cX10_hasWord 4 (some .boolean) 2 42 [.ref ot, .long (v1)] (some (.int (bI q.1))) (kMo k ot aMO (MO)) (kMo k ot aMO (q.2)) := by
  refine CM.start hZ (by decide) (Nat.le_of_ble_eq_true rfl) ?_
  intro p e s m below meth c ls X hl G
  have hx := X.1
  have hb := X.2.1
  have hl : lv_has ls 4 [(0, .ref ot), (1, .long (v1))] := hl
  unfold FX10_hasWord at hf
  refine lv_aload_n hx hb dX10_hasWord_0 rfl (lv_at hl 0 rfl) ?_
  obtain ⟨r1, hcr1, hf⟩ := bd_some hf
  refine p_R (st1 := [.int (bI r1)]) (run_V (rest := []) X (ctX10_isGood hZ ot aMO hcr1) mk_X10_isGood ml_X10_230 ⟨(Nat.le_of_ble_eq_true rfl), (Nat.le_of_ble_eq_true rfl)⟩ G [0, 1, 2, 3, 4, 5, 6, 7] rfl rfl 0 rfl rfl rfl hl.1 rfl (Nat.le_of_ble_eq_true rfl) dX10_hasWord_1 ⟨Nat.zero_le _, Nat.zero_le _⟩) rfl ?_
  refine lv_if_eq (tgt := 28) hx hb dX10_hasWord_4 (by decide) (fun c2 => ?_) (fun c2 => ?_)
  · replace hf := if_t hf c2
    refine lv_iconst (v := 0) hx hb dX10_hasWord_28 (by decide) ?_
    refine lv_istore_n (lv' := [(3, .int (0 : Int32)), (0, .ref ot), (1, .long (v1))]) hx hb dX10_hasWord_29 rfl hl (by decide) rfl (fun ls hl => ?_)
    refine lv_iload_n hx hb dX10_hasWord_30 rfl (lv_at hl 0 rfl) ?_
    refine lv_if_eq (tgt := 38) hx hb dX10_hasWord_31 (by decide) (fun _ => ?_) (fun c => absurd c (by decide))
    refine lv_iload_n hx hb dX10_hasWord_38 rfl (lv_at hl 0 rfl) ?_
    cases hf
    exact e_mz _ rfl X G dX10_hasWord_39
  · replace hf := if_f hf c2
    refine lv_aload_n hx hb dX10_hasWord_7 rfl (lv_at hl 0 rfl) ?_
    refine r_get X inw_X10 G 0 rfl rfl 13 (by decide) fl_X10_205 (v := .int (Mo_token MO)) rfl dX10_hasWord_8 ?_
    refine lv_iconst (v := 1) hx hb dX10_hasWord_11 (by decide) ?_
    refine lv_icmp_ne (tgt := 28) hx hb dX10_hasWord_12 (by decide) (fun c3 => ?_) (fun c3 => ?_)
    · replace hf := if_f hf c3
      refine lv_iconst (v := 0) hx hb dX10_hasWord_28 (by decide) ?_
      refine lv_istore_n (lv' := [(3, .int (0 : Int32)), (0, .ref ot), (1, .long (v1))]) hx hb dX10_hasWord_29 rfl hl (by decide) rfl (fun ls hl => ?_)
      refine lv_iload_n hx hb dX10_hasWord_30 rfl (lv_at hl 0 rfl) ?_
      refine lv_if_eq (tgt := 38) hx hb dX10_hasWord_31 (by decide) (fun _ => ?_) (fun c => absurd c (by decide))
      refine lv_iload_n hx hb dX10_hasWord_38 rfl (lv_at hl 0 rfl) ?_
      cases hf
      exact e_mz _ rfl X G dX10_hasWord_39
    · replace hf := if_t hf c3
      refine lv_aload_n hx hb dX10_hasWord_15 rfl (lv_at hl 0 rfl) ?_
      refine r_get X inw_X10 G 0 rfl rfl 15 (by decide) fl_X10_201 (v := .long (Mo_value MO)) rfl dX10_hasWord_16 ?_
      refine lv_lload_n hx hb dX10_hasWord_19 rfl (lv_at hl 1 rfl) ?_
      refine W.lcmp hx hb dX10_hasWord_20 ?_
      refine lv_if_ne (tgt := 28) hx hb dX10_hasWord_21 (by decide) (fun c4 => ?_) (fun c4 => ?_)
      · replace hf := if_f hf c4
        refine lv_iconst (v := 0) hx hb dX10_hasWord_28 (by decide) ?_
        refine lv_istore_n (lv' := [(3, .int (0 : Int32)), (0, .ref ot), (1, .long (v1))]) hx hb dX10_hasWord_29 rfl hl (by decide) rfl (fun ls hl => ?_)
        refine lv_iload_n hx hb dX10_hasWord_30 rfl (lv_at hl 0 rfl) ?_
        refine lv_if_eq (tgt := 38) hx hb dX10_hasWord_31 (by decide) (fun _ => ?_) (fun c => absurd c (by decide))
        refine lv_iload_n hx hb dX10_hasWord_38 rfl (lv_at hl 0 rfl) ?_
        cases hf
        exact e_mz _ rfl X G dX10_hasWord_39
      · replace hf := if_t hf c4
        refine lv_iconst (v := 1) hx hb dX10_hasWord_24 (by decide) ?_
        refine lv_goto (tgt := 29) hx hb dX10_hasWord_25 (by decide) ?_
        refine lv_istore_n (lv' := [(3, .int (1 : Int32)), (0, .ref ot), (1, .long (v1))]) hx hb dX10_hasWord_29 rfl hl (by decide) rfl (fun ls hl => ?_)
        refine lv_iload_n hx hb dX10_hasWord_30 rfl (lv_at hl 0 rfl) ?_
        refine lv_if_eq (tgt := 38) hx hb dX10_hasWord_31 (by decide) (fun c => absurd c (by decide)) (fun _ => ?_)
        refine lv_aload_n hx hb dX10_hasWord_34 rfl (lv_at hl 1 rfl) ?_
        obtain ⟨r5, hcr5, hf⟩ := bd_some hf
        refine p_N (st1 := []) (wr := []) (ws' := kMo k ot aMO (r5)) (run_V (rest := []) X (ctX10_takes hZ ot aMO hcr5) mk_X10_takes ml_X10_234 ⟨(Nat.le_of_ble_eq_true rfl), (Nat.le_of_ble_eq_true rfl)⟩ G [0, 1, 2, 3, 4, 5, 6, 7] rfl rfl 0 rfl rfl rfl hl.1 rfl (Nat.le_of_ble_eq_true rfl) dX10_hasWord_35 ⟨Nat.zero_le _, Nat.zero_le _⟩) rfl G [0, 1, 2, 3, 4, 5, 6, 7] [] 8 rfl rfl rfl rfl rfl (by decide) (by decide) rfl (fun H locs G => ?_)
        refine lv_iload_n hx hb dX10_hasWord_38 rfl (lv_at hl 0 rfl) ?_
        cases hf
        exact e_mz _ rfl X G dX10_hasWord_39
theorem mk_X10_hasWord : MV yX10_hasWord cX10_hasWord 4 (some .boolean) 1 := ⟨co_X10_hasWord, in_X10, im_X10_hasWord, se_X10_hasWord, by decide +kernel, by decide +kernel⟩
noncomputable def FX10_hasSign (MO : MoT) (v1 : Int32) : Option (Bool × MoT) :=
  (FX10_isGood MO).bind fun r1 =>
  if (bI r1) = 0 then (
    some (false, MO)
  ) else (
    if (Mo_token MO) = (3 : Int32) then (
      if (lg_cmp (Mo_value MO) (Int32.toInt64 v1)) = 0 then (
        (FX10_takes MO).bind fun r5 =>
        some (true, r5)
      ) else (
        some (false, MO)
      )
    ) else (
      some (false, MO)
    )
  )
set_option maxHeartbeats 4000000 in
set_option maxRecDepth 100000 in
theorem ctX10_hasSign {l : Launch} {D : va_G} {k : Nat → ClassId} {Z : ZT} (hZ : ZOK Z) (ot : Nat) (aMO : Nat → Nat) {MO : MoT} {v1 : Int32} {q : Bool × MoT} (hf : FX10_hasSign MO v1 = some q) :
    CM l D k Z yX10_hasSign cX10_hasSign 3 (some .boolean) 2 42 [.ref ot, .int v1] (some (.int (bI q.1))) (kMo k ot aMO (MO)) (kMo k ot aMO (q.2)) := by
  refine CM.start hZ (by decide) (Nat.le_of_ble_eq_true rfl) ?_
  intro p e s m below meth c ls X hl G
  have hx := X.1
  have hb := X.2.1
  have hl : lv_has ls 3 [(0, .ref ot), (1, .int v1)] := hl
  unfold FX10_hasSign at hf
  refine lv_aload_n hx hb dX10_hasSign_0 rfl (lv_at hl 0 rfl) ?_
  obtain ⟨r1, hcr1, hf⟩ := bd_some hf
  refine p_R (st1 := [.int (bI r1)]) (run_V (rest := []) X (ctX10_isGood hZ ot aMO hcr1) mk_X10_isGood ml_X10_230 ⟨(Nat.le_of_ble_eq_true rfl), (Nat.le_of_ble_eq_true rfl)⟩ G [0, 1, 2, 3, 4, 5, 6, 7] rfl rfl 0 rfl rfl rfl hl.1 rfl (Nat.le_of_ble_eq_true rfl) dX10_hasSign_1 ⟨Nat.zero_le _, Nat.zero_le _⟩) rfl ?_
  refine lv_if_eq (tgt := 29) hx hb dX10_hasSign_4 (by decide) (fun c2 => ?_) (fun c2 => ?_)
  · replace hf := if_t hf c2
    refine lv_iconst (v := 0) hx hb dX10_hasSign_29 (by decide) ?_
    refine lv_istore_n (lv' := [(2, .int (0 : Int32)), (0, .ref ot), (1, .int v1)]) hx hb dX10_hasSign_30 rfl hl (by decide) rfl (fun ls hl => ?_)
    refine lv_iload_n hx hb dX10_hasSign_31 rfl (lv_at hl 0 rfl) ?_
    refine lv_if_eq (tgt := 39) hx hb dX10_hasSign_32 (by decide) (fun _ => ?_) (fun c => absurd c (by decide))
    refine lv_iload_n hx hb dX10_hasSign_39 rfl (lv_at hl 0 rfl) ?_
    cases hf
    exact e_mz _ rfl X G dX10_hasSign_40
  · replace hf := if_f hf c2
    refine lv_aload_n hx hb dX10_hasSign_7 rfl (lv_at hl 0 rfl) ?_
    refine r_get X inw_X10 G 0 rfl rfl 13 (by decide) fl_X10_205 (v := .int (Mo_token MO)) rfl dX10_hasSign_8 ?_
    refine lv_iconst (v := 3) hx hb dX10_hasSign_11 (by decide) ?_
    refine lv_icmp_ne (tgt := 29) hx hb dX10_hasSign_12 (by decide) (fun c3 => ?_) (fun c3 => ?_)
    · replace hf := if_f hf c3
      refine lv_iconst (v := 0) hx hb dX10_hasSign_29 (by decide) ?_
      refine lv_istore_n (lv' := [(2, .int (0 : Int32)), (0, .ref ot), (1, .int v1)]) hx hb dX10_hasSign_30 rfl hl (by decide) rfl (fun ls hl => ?_)
      refine lv_iload_n hx hb dX10_hasSign_31 rfl (lv_at hl 0 rfl) ?_
      refine lv_if_eq (tgt := 39) hx hb dX10_hasSign_32 (by decide) (fun _ => ?_) (fun c => absurd c (by decide))
      refine lv_iload_n hx hb dX10_hasSign_39 rfl (lv_at hl 0 rfl) ?_
      cases hf
      exact e_mz _ rfl X G dX10_hasSign_40
    · replace hf := if_t hf c3
      refine lv_aload_n hx hb dX10_hasSign_15 rfl (lv_at hl 0 rfl) ?_
      refine r_get X inw_X10 G 0 rfl rfl 15 (by decide) fl_X10_201 (v := .long (Mo_value MO)) rfl dX10_hasSign_16 ?_
      refine lv_iload_n hx hb dX10_hasSign_19 rfl (lv_at hl 1 rfl) ?_
      refine lv_i2l (v := Int32.toInt64 v1) hx hb dX10_hasSign_20 rfl ?_
      refine W.lcmp hx hb dX10_hasSign_21 ?_
      refine lv_if_ne (tgt := 29) hx hb dX10_hasSign_22 (by decide) (fun c4 => ?_) (fun c4 => ?_)
      · replace hf := if_f hf c4
        refine lv_iconst (v := 0) hx hb dX10_hasSign_29 (by decide) ?_
        refine lv_istore_n (lv' := [(2, .int (0 : Int32)), (0, .ref ot), (1, .int v1)]) hx hb dX10_hasSign_30 rfl hl (by decide) rfl (fun ls hl => ?_)
        refine lv_iload_n hx hb dX10_hasSign_31 rfl (lv_at hl 0 rfl) ?_
        refine lv_if_eq (tgt := 39) hx hb dX10_hasSign_32 (by decide) (fun _ => ?_) (fun c => absurd c (by decide))
        refine lv_iload_n hx hb dX10_hasSign_39 rfl (lv_at hl 0 rfl) ?_
        cases hf
        exact e_mz _ rfl X G dX10_hasSign_40
      · replace hf := if_t hf c4
        refine lv_iconst (v := 1) hx hb dX10_hasSign_25 (by decide) ?_
        refine lv_goto (tgt := 30) hx hb dX10_hasSign_26 (by decide) ?_
        refine lv_istore_n (lv' := [(2, .int (1 : Int32)), (0, .ref ot), (1, .int v1)]) hx hb dX10_hasSign_30 rfl hl (by decide) rfl (fun ls hl => ?_)
        refine lv_iload_n hx hb dX10_hasSign_31 rfl (lv_at hl 0 rfl) ?_
        refine lv_if_eq (tgt := 39) hx hb dX10_hasSign_32 (by decide) (fun c => absurd c (by decide)) (fun _ => ?_)
        refine lv_aload_n hx hb dX10_hasSign_35 rfl (lv_at hl 1 rfl) ?_
        obtain ⟨r5, hcr5, hf⟩ := bd_some hf
        refine p_N (st1 := []) (wr := []) (ws' := kMo k ot aMO (r5)) (run_V (rest := []) X (ctX10_takes hZ ot aMO hcr5) mk_X10_takes ml_X10_234 ⟨(Nat.le_of_ble_eq_true rfl), (Nat.le_of_ble_eq_true rfl)⟩ G [0, 1, 2, 3, 4, 5, 6, 7] rfl rfl 0 rfl rfl rfl hl.1 rfl (Nat.le_of_ble_eq_true rfl) dX10_hasSign_36 ⟨Nat.zero_le _, Nat.zero_le _⟩) rfl G [0, 1, 2, 3, 4, 5, 6, 7] [] 8 rfl rfl rfl rfl rfl (by decide) (by decide) rfl (fun H locs G => ?_)
        refine lv_iload_n hx hb dX10_hasSign_39 rfl (lv_at hl 0 rfl) ?_
        cases hf
        exact e_mz _ rfl X G dX10_hasSign_40
theorem mk_X10_hasSign : MV yX10_hasSign cX10_hasSign 3 (some .boolean) 1 := ⟨co_X10_hasSign, in_X10, im_X10_hasSign, se_X10_hasSign, by decide +kernel, by decide +kernel⟩
noncomputable def FX10_numeral_j52 (v1 : Int32) (x6 : Int32) (vJ7 : MoT) : Option (Int32 × MoT) :=
  if x6 = 0 then (
    (FX10_takes vJ7).bind fun r9 =>
    some (v1, r9)
  ) else (
    nm (Int64.toInt32 (Mo_value vJ7)) fun x10 =>
    (FX10_takes vJ7).bind fun r11 =>
    some (x10, r11)
  )
noncomputable def FX10_numeral_j19 (v1 : Int32) (v2 : Int32) (vJ2 : MoT) : Option (Int32 × MoT) :=
  (FX10_isGood vJ2).bind fun r3 =>
  if (bI r3) = 0 then (
    some (v1, vJ2)
  ) else (
    (FX10_isIn (Int64.toInt32 (Mo_value vJ2)) v1 v2).bind fun r5 =>
    nm (bI r5) fun x6 =>
    if x6 = 0 then (
      (FX10_also vJ2 (2 : Int32) (Mo_tokenAt vJ2)).bind fun r13 =>
      FX10_numeral_j52 v1 x6 r13
    ) else (
      FX10_numeral_j52 v1 x6 vJ2
    )
  )
noncomputable def FX10_numeral (MO : MoT) (v1 : Int32) (v2 : Int32) : Option (Int32 × MoT) :=
  (FX10_isGood MO).bind fun r1 =>
  if (bI r1) = 0 then (
    FX10_numeral_j19 v1 v2 MO
  ) else (
    if (Mo_token MO) = (2 : Int32) then (
      FX10_numeral_j19 v1 v2 MO
    ) else (
      (FX10_wrong MO).bind fun r16 =>
      FX10_numeral_j19 v1 v2 r16
    )
  )
set_option maxHeartbeats 4000000 in
set_option maxRecDepth 100000 in
theorem ctX10_numeral {l : Launch} {D : va_G} {k : Nat → ClassId} {Z : ZT} (hZ : ZOK Z) (ot : Nat) (aMO : Nat → Nat) {MO : MoT} {v1 : Int32} {v2 : Int32} {q : Int32 × MoT} (hf : FX10_numeral MO v1 v2 = some q) :
    CM l D k Z yX10_numeral cX10_numeral 5 (some .int) 2 42 [.ref ot, .int v1, .int v2] (some (.int q.1)) (kMo k ot aMO (MO)) (kMo k ot aMO (q.2)) := by
  refine CM.start hZ (by decide) (Nat.le_of_ble_eq_true rfl) ?_
  intro p e s m below meth c ls X hl G
  have hx := X.1
  have hb := X.2.1
  have hl : lv_has ls 5 [(0, .ref ot), (1, .int v1), (2, .int v2)] := hl
  unfold FX10_numeral at hf
  refine lv_aload_n hx hb dX10_numeral_0 rfl (lv_at hl 0 rfl) ?_
  obtain ⟨r1, hcr1, hf⟩ := bd_some hf
  refine p_R (st1 := [.int (bI r1)]) (run_V (rest := []) X (ctX10_isGood hZ ot aMO hcr1) mk_X10_isGood ml_X10_230 ⟨(Nat.le_of_ble_eq_true rfl), (Nat.le_of_ble_eq_true rfl)⟩ G [0, 1, 2, 3, 4, 5, 6, 7] rfl rfl 0 rfl rfl rfl hl.1 rfl (Nat.le_of_ble_eq_true rfl) dX10_numeral_1 ⟨Nat.zero_le _, Nat.zero_le _⟩) rfl ?_
  have JJ2 : ∀ (vJ2 : MoT) (H : Heap) (locs : List Loc) (ls : Array Slot), Wo D (wA (kMo k ot aMO (MO))) s.heap (kMo k ot aMO (vJ2)) H locs → lv_has ls 5 [(0, .ref ot), (1, .int v1), (2, .int v2)] → FX10_numeral_j19 v1 v2 vJ2 = some q → W p l e (rmz 2 42) s m [.ref ot, .int v1, .int v2].toArray below meth c H locs 0 0 (MQ below (Qm D (some (.int q.1)) (kMo k ot aMO (MO)) (kMo k ot aMO (q.2))) [.ref ot, .int v1, .int v2].toArray s 0 0 (wA (kMo k ot aMO (MO)))) (F0 m 19 ls []) := by
    intro vJ2 H locs ls G hl hf
    unfold FX10_numeral_j19 at hf
    refine lv_aload_n hx hb dX10_numeral_19 rfl (lv_at hl 0 rfl) ?_
    obtain ⟨r3, hcr3, hf⟩ := bd_some hf
    refine p_R (st1 := [.int (bI r3)]) (run_V (rest := []) X (ctX10_isGood hZ ot aMO hcr3) mk_X10_isGood ml_X10_230 ⟨(Nat.le_of_ble_eq_true rfl), (Nat.le_of_ble_eq_true rfl)⟩ G [0, 1, 2, 3, 4, 5, 6, 7] rfl rfl 0 rfl rfl rfl hl.1 rfl (Nat.le_of_ble_eq_true rfl) dX10_numeral_20 ⟨Nat.zero_le _, Nat.zero_le _⟩) rfl ?_
    refine lv_if_ne (tgt := 28) hx hb dX10_numeral_23 (by decide) (fun c4 => ?_) (fun c4 => ?_)
    · replace hf := if_f hf c4
      refine lv_aload_n hx hb dX10_numeral_28 rfl (lv_at hl 0 rfl) ?_
      refine r_get X inw_X10 G 0 rfl rfl 15 (by decide) fl_X10_201 (v := .long (Mo_value vJ2)) rfl dX10_numeral_29 ?_
      refine lv_l2i (v := Int64.toInt32 (Mo_value vJ2)) hx hb dX10_numeral_32 rfl ?_
      refine lv_iload_n hx hb dX10_numeral_33 rfl (lv_at hl 1 rfl) ?_
      refine lv_iload_n hx hb dX10_numeral_34 rfl (lv_at hl 2 rfl) ?_
      obtain ⟨r5, hcr5, hf⟩ := bd_some hf
      refine p_R (st1 := [.int (bI r5)]) (run_S (rest := []) X (ctX10_isIn hZ hcr5) mk_X10_isIn ml_X10_47 ⟨(Nat.le_of_ble_eq_true rfl), (Nat.le_of_ble_eq_true rfl)⟩ G [] rfl rfl rfl hl.1 rfl (Nat.le_of_ble_eq_true rfl) dX10_numeral_35 ⟨Nat.zero_le _, Nat.zero_le _⟩) rfl ?_
      obtain ⟨x6, ex6, hf⟩ := nm_some hf
      refine r_top (congrArg Value.int ex6) ?_
      refine lv_istore_n (lv' := [(3, .int x6), (0, .ref ot), (1, .int v1), (2, .int v2)]) hx hb dX10_numeral_38 rfl hl (by decide) rfl (fun ls hl => ?_)
      refine lv_iload_n hx hb dX10_numeral_39 rfl (lv_at hl 0 rfl) ?_
      have JJ7 : ∀ (vJ7 : MoT) (H : Heap) (locs : List Loc) (ls : Array Slot), Wo D (wA (kMo k ot aMO (MO))) s.heap (kMo k ot aMO (vJ7)) H locs → lv_has ls 5 [(0, .ref ot), (1, .int v1), (3, .int x6)] → FX10_numeral_j52 v1 x6 vJ7 = some q → W p l e (rmz 2 42) s m [.ref ot, .int v1, .int v2].toArray below meth c H locs 0 0 (MQ below (Qm D (some (.int q.1)) (kMo k ot aMO (MO)) (kMo k ot aMO (q.2))) [.ref ot, .int v1, .int v2].toArray s 0 0 (wA (kMo k ot aMO (MO)))) (F0 m 52 ls []) := by
        intro vJ7 H locs ls G hl hf
        unfold FX10_numeral_j52 at hf
        refine lv_iload_n hx hb dX10_numeral_52 rfl (lv_at hl 2 rfl) ?_
        refine lv_if_eq (tgt := 64) hx hb dX10_numeral_53 (by decide) (fun c8 => ?_) (fun c8 => ?_)
        · replace hf := if_t hf c8
          refine lv_iload_n hx hb dX10_numeral_64 rfl (lv_at hl 1 rfl) ?_
          refine lv_istore (lv' := [(4, .int v1), (0, .ref ot), (1, .int v1), (3, .int x6)]) hx hb dX10_numeral_65 hl (by decide) rfl (fun ls hl => ?_)
          refine lv_aload_n hx hb dX10_numeral_67 rfl (lv_at hl 1 rfl) ?_
          obtain ⟨r9, hcr9, hf⟩ := bd_some hf
          refine p_N (st1 := []) (wr := []) (ws' := kMo k ot aMO (r9)) (run_V (rest := []) X (ctX10_takes hZ ot aMO hcr9) mk_X10_takes ml_X10_234 ⟨(Nat.le_of_ble_eq_true rfl), (Nat.le_of_ble_eq_true rfl)⟩ G [0, 1, 2, 3, 4, 5, 6, 7] rfl rfl 0 rfl rfl rfl hl.1 rfl (Nat.le_of_ble_eq_true rfl) dX10_numeral_68 ⟨Nat.zero_le _, Nat.zero_le _⟩) rfl G [0, 1, 2, 3, 4, 5, 6, 7] [] 8 rfl rfl rfl rfl rfl (by decide) (by decide) rfl (fun H locs G => ?_)
          refine lv_iload hx hb dX10_numeral_71 (lv_at hl 0 rfl) ?_
          cases hf
          exact e_mi X G dX10_numeral_73
        · replace hf := if_f hf c8
          refine lv_aload_n hx hb dX10_numeral_56 rfl (lv_at hl 0 rfl) ?_
          refine r_get X inw_X10 G 0 rfl rfl 15 (by decide) fl_X10_201 (v := .long (Mo_value vJ7)) rfl dX10_numeral_57 ?_
          refine lv_l2i (v := Int64.toInt32 (Mo_value vJ7)) hx hb dX10_numeral_60 rfl ?_
          refine lv_goto (tgt := 65) hx hb dX10_numeral_61 (by decide) ?_
          obtain ⟨x10, ex10, hf⟩ := nm_some hf
          refine r_top (congrArg Value.int ex10) ?_
          refine lv_istore (lv' := [(4, .int x10), (0, .ref ot), (1, .int v1), (3, .int x6)]) hx hb dX10_numeral_65 hl (by decide) rfl (fun ls hl => ?_)
          refine lv_aload_n hx hb dX10_numeral_67 rfl (lv_at hl 1 rfl) ?_
          obtain ⟨r11, hcr11, hf⟩ := bd_some hf
          refine p_N (st1 := []) (wr := []) (ws' := kMo k ot aMO (r11)) (run_V (rest := []) X (ctX10_takes hZ ot aMO hcr11) mk_X10_takes ml_X10_234 ⟨(Nat.le_of_ble_eq_true rfl), (Nat.le_of_ble_eq_true rfl)⟩ G [0, 1, 2, 3, 4, 5, 6, 7] rfl rfl 0 rfl rfl rfl hl.1 rfl (Nat.le_of_ble_eq_true rfl) dX10_numeral_68 ⟨Nat.zero_le _, Nat.zero_le _⟩) rfl G [0, 1, 2, 3, 4, 5, 6, 7] [] 8 rfl rfl rfl rfl rfl (by decide) (by decide) rfl (fun H locs G => ?_)
          refine lv_iload hx hb dX10_numeral_71 (lv_at hl 0 rfl) ?_
          cases hf
          exact e_mi X G dX10_numeral_73
      refine lv_if_ne (tgt := 52) hx hb dX10_numeral_40 (by decide) (fun c12 => ?_) (fun c12 => ?_)
      · replace hf := if_f hf c12
        exact JJ7 vJ2 _ _ _ G (lv_sub hl [1, 2, 0] rfl) hf
      · replace hf := if_t hf c12
        refine lv_aload_n hx hb dX10_numeral_43 rfl (lv_at hl 1 rfl) ?_
        refine lv_iconst (v := 2) hx hb dX10_numeral_44 (by decide) ?_
        refine lv_aload_n hx hb dX10_numeral_45 rfl (lv_at hl 1 rfl) ?_
        refine r_get X inw_X10 G 0 rfl rfl 14 (by decide) fl_X10_198 (v := .int (Mo_tokenAt vJ2)) rfl dX10_numeral_46 ?_
        obtain ⟨r13, hcr13, hf⟩ := bd_some hf
        refine p_N (st1 := []) (wr := []) (ws' := kMo k ot aMO (r13)) (run_V (rest := []) X (ctX10_also hZ ot aMO hcr13) mk_X10_also ml_X10_240 ⟨(Nat.le_of_ble_eq_true rfl), (Nat.le_of_ble_eq_true rfl)⟩ G [0, 1, 2, 3, 4, 5, 6, 7] rfl rfl 0 rfl rfl rfl hl.1 rfl (Nat.le_of_ble_eq_true rfl) dX10_numeral_49 ⟨Nat.zero_le _, Nat.zero_le _⟩) rfl G [0, 1, 2, 3, 4, 5, 6, 7] [] 8 rfl rfl rfl rfl rfl (by decide) (by decide) rfl (fun H locs G => ?_)
        exact JJ7 r13 _ _ _ G (lv_sub hl [1, 2, 0] rfl) hf
    · replace hf := if_t hf c4
      refine lv_iload_n hx hb dX10_numeral_26 rfl (lv_at hl 1 rfl) ?_
      cases hf
      exact e_mi X G dX10_numeral_27
  refine lv_if_eq (tgt := 19) hx hb dX10_numeral_4 (by decide) (fun c14 => ?_) (fun c14 => ?_)
  · replace hf := if_t hf c14
    exact JJ2 MO _ _ _ G (lv_sub hl [0, 1, 2] rfl) hf
  · replace hf := if_f hf c14
    refine lv_aload_n hx hb dX10_numeral_7 rfl (lv_at hl 0 rfl) ?_
    refine r_get X inw_X10 G 0 rfl rfl 13 (by decide) fl_X10_205 (v := .int (Mo_token MO)) rfl dX10_numeral_8 ?_
    refine lv_iconst (v := 2) hx hb dX10_numeral_11 (by decide) ?_
    refine lv_icmp_eq (tgt := 19) hx hb dX10_numeral_12 (by decide) (fun c15 => ?_) (fun c15 => ?_)
    · replace hf := if_t hf c15
      exact JJ2 MO _ _ _ G (lv_sub hl [0, 1, 2] rfl) hf
    · replace hf := if_f hf c15
      refine lv_aload_n hx hb dX10_numeral_15 rfl (lv_at hl 0 rfl) ?_
      obtain ⟨r16, hcr16, hf⟩ := bd_some hf
      refine p_N (st1 := []) (wr := []) (ws' := kMo k ot aMO (r16)) (run_V (rest := []) X (ctX10_wrong hZ ot aMO hcr16) mk_X10_wrong ml_X10_237 ⟨(Nat.le_of_ble_eq_true rfl), (Nat.le_of_ble_eq_true rfl)⟩ G [0, 1, 2, 3, 4, 5, 6, 7] rfl rfl 0 rfl rfl rfl hl.1 rfl (Nat.le_of_ble_eq_true rfl) dX10_numeral_16 ⟨Nat.zero_le _, Nat.zero_le _⟩) rfl G [0, 1, 2, 3, 4, 5, 6, 7] [] 8 rfl rfl rfl rfl rfl (by decide) (by decide) rfl (fun H locs G => ?_)
      exact JJ2 r16 _ _ _ G (lv_sub hl [0, 1, 2] rfl) hf
theorem mk_X10_numeral : MV yX10_numeral cX10_numeral 5 (some .int) 2 := ⟨co_X10_numeral, in_X10, im_X10_numeral, se_X10_numeral, by decide +kernel, by decide +kernel⟩
noncomputable def FX10_numberOf_j105 (MO : MoT) (v2 : Int32) (vJ12 : Int32) : Option (Int32 × MoT) :=
  nm (Mo_tokenAt MO) fun x13 =>
  (FX10_numeral MO (0 : Int32) (7 : Int32)).bind fun r14 =>
  if vJ12 = 0 then (
    some (r14.1, r14.2)
  ) else (
    ix (Mo_namedMany r14.2) 400 <|
    nm (sMo_named r14.2 (upd (Mo_named r14.2) (Int32.toNatClampNeg (Mo_namedMany r14.2)) r14.1)) fun MO17 =>
    ix (Mo_namedMany MO17) 400 <|
    nm (sMo_namedAt MO17 (upd (Mo_namedAt MO17) (Int32.toNatClampNeg (Mo_namedMany MO17)) x13)) fun MO19 =>
    ix (Mo_namedMany MO19) 400 <|
    nm (sMo_namedBy MO19 (upd (Mo_namedBy MO19) (Int32.toNatClampNeg (Mo_namedMany MO19)) v2)) fun MO21 =>
    nm (sMo_namedMany MO21 ((Mo_namedMany MO21) + (1 : Int32))) fun MO22 =>
    some (r14.1, MO22)
  )
noncomputable def FX10_numberOf (MO : MoT) (v1 : Int32) (v2 : Int32) : Option (Int32 × MoT) :=
  if v1 = 0 then (
    (FX10_numeral MO (1 : Int32) (50 : Int32)).bind fun r29 =>
    some (r29.1, r29.2)
  ) else (
    if v1 = (7 : Int32) then (
      (FX10_numeral MO (1 : Int32) (99 : Int32)).bind fun r28 =>
      some (r28.1, r28.2)
    ) else (
      if v1 = (1 : Int32) then (
        (FX10_numeral MO (0 : Int32) (5 : Int32)).bind fun r4 =>
        some (r4.1, r4.2)
      ) else (
        if v1 = (2 : Int32) then (
          (FX10_numeral MO (0 : Int32) (5 : Int32)).bind fun r27 =>
          some (r27.1, r27.2)
        ) else (
          if v1 = (3 : Int32) then (
            (FX10_numeral MO (0 : Int32) (3 : Int32)).bind fun r7 =>
            some (r7.1, r7.2)
          ) else (
            if v1 = (4 : Int32) then (
              (FX10_numeral MO (0 : Int32) (3 : Int32)).bind fun r26 =>
              some (r26.1, r26.2)
            ) else (
              if v1 = (8 : Int32) then (
                some ((-1 : Int32), MO)
              ) else (
                if v1 = (9 : Int32) then (
                  some ((-1 : Int32), MO)
                ) else (
                  (FX10_isGood MO).bind fun r11 =>
                  if (bI r11) = 0 then (
                    FX10_numberOf_j105 MO v2 (0 : Int32)
                  ) else (
                    if (Mo_token MO) = (2 : Int32) then (
                      if 0 ≤ (lg_cmp (Mo_value MO) (8 : Int64)) then (
                        FX10_numberOf_j105 MO v2 (0 : Int32)
                      ) else (
                        FX10_numberOf_j105 MO v2 (1 : Int32)
                      )
                    ) else (
                      FX10_numberOf_j105 MO v2 (0 : Int32)
                    )
                  )
                )
              )
            )
          )
        )
      )
    )
  )
set_option maxHeartbeats 4000000 in
set_option maxRecDepth 100000 in
theorem ctX10_numberOf {l : Launch} {D : va_G} {k : Nat → ClassId} {Z : ZT} (hZ : ZOK Z) (ot : Nat) (aMO : Nat → Nat) {MO : MoT} {v1 : Int32} {v2 : Int32} {q : Int32 × MoT} (hf : FX10_numberOf MO v1 v2 = some q) :
    CM l D k Z yX10_numberOf cX10_numberOf 6 (some .int) 3 66 [.ref ot, .int v1, .int v2] (some (.int q.1)) (kMo k ot aMO (MO)) (kMo k ot aMO (q.2)) := by
  refine CM.start hZ (by decide) (Nat.le_of_ble_eq_true rfl) ?_
  intro p e s m below meth c ls X hl G
  have hx := X.1
  have hb := X.2.1
  have hl : lv_has ls 6 [(0, .ref ot), (1, .int v1), (2, .int v2)] := hl
  unfold FX10_numberOf at hf
  refine lv_iload_n hx hb dX10_numberOf_0 rfl (lv_at hl 1 rfl) ?_
  refine lv_if_ne (tgt := 12) hx hb dX10_numberOf_1 (by decide) (fun c1 => ?_) (fun c1 => ?_)
  · replace hf := if_f hf c1
    refine lv_iload_n hx hb dX10_numberOf_12 rfl (lv_at hl 1 rfl) ?_
    refine lv_bipush (v := 7) hx hb dX10_numberOf_13 (by decide) ?_
    refine lv_icmp_ne (tgt := 26) hx hb dX10_numberOf_15 (by decide) (fun c2 => ?_) (fun c2 => ?_)
    · replace hf := if_f hf c2
      refine lv_iload_n hx hb dX10_numberOf_26 rfl (lv_at hl 1 rfl) ?_
      refine lv_iconst (v := 1) hx hb dX10_numberOf_27 (by decide) ?_
      refine lv_icmp_eq (tgt := 36) hx hb dX10_numberOf_28 (by decide) (fun c3 => ?_) (fun c3 => ?_)
      · replace hf := if_t hf c3
        refine lv_aload_n hx hb dX10_numberOf_36 rfl (lv_at hl 0 rfl) ?_
        refine lv_iconst (v := 0) hx hb dX10_numberOf_37 (by decide) ?_
        refine lv_iconst (v := 5) hx hb dX10_numberOf_38 (by decide) ?_
        obtain ⟨r4, hcr4, hf⟩ := bd_some hf
        refine p_N (st1 := [.int (r4.1)]) (wr := []) (ws' := kMo k ot aMO (r4.2)) (run_V (rest := []) X (ctX10_numeral hZ ot aMO hcr4) mk_X10_numeral ml_X10_248 ⟨(Nat.le_of_ble_eq_true rfl), (Nat.le_of_ble_eq_true rfl)⟩ G [0, 1, 2, 3, 4, 5, 6, 7] rfl rfl 0 rfl rfl rfl hl.1 rfl (Nat.le_of_ble_eq_true rfl) dX10_numberOf_39 ⟨Nat.zero_le _, Nat.zero_le _⟩) rfl G [0, 1, 2, 3, 4, 5, 6, 7] [] 8 rfl rfl rfl rfl rfl (by decide) (by decide) rfl (fun H locs G => ?_)
        cases hf
        exact e_mi X G dX10_numberOf_42
      · replace hf := if_f hf c3
        refine lv_iload_n hx hb dX10_numberOf_31 rfl (lv_at hl 1 rfl) ?_
        refine lv_iconst (v := 2) hx hb dX10_numberOf_32 (by decide) ?_
        refine lv_icmp_ne (tgt := 43) hx hb dX10_numberOf_33 (by decide) (fun c5 => ?_) (fun c5 => ?_)
        · replace hf := if_f hf c5
          refine lv_iload_n hx hb dX10_numberOf_43 rfl (lv_at hl 1 rfl) ?_
          refine lv_iconst (v := 3) hx hb dX10_numberOf_44 (by decide) ?_
          refine lv_icmp_eq (tgt := 53) hx hb dX10_numberOf_45 (by decide) (fun c6 => ?_) (fun c6 => ?_)
          · replace hf := if_t hf c6
            refine lv_aload_n hx hb dX10_numberOf_53 rfl (lv_at hl 0 rfl) ?_
            refine lv_iconst (v := 0) hx hb dX10_numberOf_54 (by decide) ?_
            refine lv_iconst (v := 3) hx hb dX10_numberOf_55 (by decide) ?_
            obtain ⟨r7, hcr7, hf⟩ := bd_some hf
            refine p_N (st1 := [.int (r7.1)]) (wr := []) (ws' := kMo k ot aMO (r7.2)) (run_V (rest := []) X (ctX10_numeral hZ ot aMO hcr7) mk_X10_numeral ml_X10_248 ⟨(Nat.le_of_ble_eq_true rfl), (Nat.le_of_ble_eq_true rfl)⟩ G [0, 1, 2, 3, 4, 5, 6, 7] rfl rfl 0 rfl rfl rfl hl.1 rfl (Nat.le_of_ble_eq_true rfl) dX10_numberOf_56 ⟨Nat.zero_le _, Nat.zero_le _⟩) rfl G [0, 1, 2, 3, 4, 5, 6, 7] [] 8 rfl rfl rfl rfl rfl (by decide) (by decide) rfl (fun H locs G => ?_)
            cases hf
            exact e_mi X G dX10_numberOf_59
          · replace hf := if_f hf c6
            refine lv_iload_n hx hb dX10_numberOf_48 rfl (lv_at hl 1 rfl) ?_
            refine lv_iconst (v := 4) hx hb dX10_numberOf_49 (by decide) ?_
            refine lv_icmp_ne (tgt := 60) hx hb dX10_numberOf_50 (by decide) (fun c8 => ?_) (fun c8 => ?_)
            · replace hf := if_f hf c8
              refine lv_iload_n hx hb dX10_numberOf_60 rfl (lv_at hl 1 rfl) ?_
              refine lv_bipush (v := 8) hx hb dX10_numberOf_61 (by decide) ?_
              refine lv_icmp_eq (tgt := 72) hx hb dX10_numberOf_63 (by decide) (fun c9 => ?_) (fun c9 => ?_)
              · replace hf := if_t hf c9
                refine lv_iconst (v := -1) hx hb dX10_numberOf_72 (by decide) ?_
                cases hf
                exact e_mi X G dX10_numberOf_73
              · replace hf := if_f hf c9
                refine lv_iload_n hx hb dX10_numberOf_66 rfl (lv_at hl 1 rfl) ?_
                refine lv_bipush (v := 9) hx hb dX10_numberOf_67 (by decide) ?_
                refine lv_icmp_ne (tgt := 74) hx hb dX10_numberOf_69 (by decide) (fun c10 => ?_) (fun c10 => ?_)
                · replace hf := if_f hf c10
                  refine lv_aload_n hx hb dX10_numberOf_74 rfl (lv_at hl 0 rfl) ?_
                  obtain ⟨r11, hcr11, hf⟩ := bd_some hf
                  refine p_R (st1 := [.int (bI r11)]) (run_V (rest := []) X (ctX10_isGood hZ ot aMO hcr11) mk_X10_isGood ml_X10_230 ⟨(Nat.le_of_ble_eq_true rfl), (Nat.le_of_ble_eq_true rfl)⟩ G [0, 1, 2, 3, 4, 5, 6, 7] rfl rfl 0 rfl rfl rfl hl.1 rfl (Nat.le_of_ble_eq_true rfl) dX10_numberOf_75 ⟨Nat.zero_le _, Nat.zero_le _⟩) rfl ?_
                  have JJ12 : ∀ (vJ12 : Int32) (H : Heap) (locs : List Loc) (ls : Array Slot), Wo D (wA (kMo k ot aMO (MO))) s.heap (kMo k ot aMO (MO)) H locs → lv_has ls 6 [(0, .ref ot), (2, .int v2)] → FX10_numberOf_j105 MO v2 vJ12 = some q → W p l e (rmz 3 66) s m [.ref ot, .int v1, .int v2].toArray below meth c H locs 0 0 (MQ below (Qm D (some (.int q.1)) (kMo k ot aMO (MO)) (kMo k ot aMO (q.2))) [.ref ot, .int v1, .int v2].toArray s 0 0 (wA (kMo k ot aMO (MO)))) (F0 m 105 ls [.int vJ12]) := by
                    intro vJ12 H locs ls G hl hf
                    unfold FX10_numberOf_j105 at hf
                    refine lv_istore_n (lv' := [(3, .int vJ12), (0, .ref ot), (2, .int v2)]) hx hb dX10_numberOf_105 rfl hl (by decide) rfl (fun ls hl => ?_)
                    refine lv_aload_n hx hb dX10_numberOf_106 rfl (lv_at hl 1 rfl) ?_
                    refine r_get X inw_X10 G 0 rfl rfl 14 (by decide) fl_X10_198 (v := .int (Mo_tokenAt MO)) rfl dX10_numberOf_107 ?_
                    obtain ⟨x13, ex13, hf⟩ := nm_some hf
                    refine r_top (congrArg Value.int ex13) ?_
                    refine lv_istore (lv' := [(4, .int x13), (3, .int vJ12), (0, .ref ot), (2, .int v2)]) hx hb dX10_numberOf_110 hl (by decide) rfl (fun ls hl => ?_)
                    refine lv_aload_n hx hb dX10_numberOf_112 rfl (lv_at hl 2 rfl) ?_
                    refine lv_iconst (v := 0) hx hb dX10_numberOf_113 (by decide) ?_
                    refine lv_bipush (v := 7) hx hb dX10_numberOf_114 (by decide) ?_
                    obtain ⟨r14, hcr14, hf⟩ := bd_some hf
                    refine p_N (st1 := [.int (r14.1)]) (wr := []) (ws' := kMo k ot aMO (r14.2)) (run_V (rest := []) X (ctX10_numeral hZ ot aMO hcr14) mk_X10_numeral ml_X10_248 ⟨(Nat.le_of_ble_eq_true rfl), (Nat.le_of_ble_eq_true rfl)⟩ G [0, 1, 2, 3, 4, 5, 6, 7] rfl rfl 0 rfl rfl rfl hl.1 rfl (Nat.le_of_ble_eq_true rfl) dX10_numberOf_116 ⟨Nat.zero_le _, Nat.zero_le _⟩) rfl G [0, 1, 2, 3, 4, 5, 6, 7] [] 8 rfl rfl rfl rfl rfl (by decide) (by decide) rfl (fun H locs G => ?_)
                    refine lv_istore (lv' := [(5, .int (r14.1)), (4, .int x13), (3, .int vJ12), (0, .ref ot), (2, .int v2)]) hx hb dX10_numberOf_119 hl (by decide) rfl (fun ls hl => ?_)
                    refine lv_iload_n hx hb dX10_numberOf_121 rfl (lv_at hl 2 rfl) ?_
                    refine lv_if_eq (tgt := 167) hx hb dX10_numberOf_122 (by decide) (fun c15 => ?_) (fun c15 => ?_)
                    · replace hf := if_t hf c15
                      refine lv_iload hx hb dX10_numberOf_167 (lv_at hl 0 rfl) ?_
                      cases hf
                      exact e_mi X G dX10_numberOf_169
                    · replace hf := if_f hf c15
                      refine lv_aload_n hx hb dX10_numberOf_125 rfl (lv_at hl 3 rfl) ?_
                      refine r_get X inw_X10 G 0 rfl rfl 18 (by decide) fl_X10_27 (v := .ref (aMO 4)) rfl dX10_numberOf_126 ?_
                      refine lv_aload_n hx hb dX10_numberOf_129 rfl (lv_at hl 3 rfl) ?_
                      refine r_get X inw_X10 G 0 rfl rfl 21 (by decide) fl_X10_253 (v := .int (Mo_namedMany r14.2)) rfl dX10_numberOf_130 ?_
                      refine lv_iload hx hb dX10_numberOf_133 (lv_at hl 0 rfl) ?_
                      obtain ⟨h16, hf⟩ := ix_some hf
                      obtain ⟨MO17, eMO17, hf⟩ := nm_some hf
                      refine r_iast X G 5 rfl h16 (ws' := kMo k ot aMO (MO17)) (by subst eMO17; rfl) dX10_numberOf_135 (fun H locs G => ?_)
                      refine lv_aload_n hx hb dX10_numberOf_136 rfl (lv_at hl 3 rfl) ?_
                      refine r_get X inw_X10 G 0 rfl rfl 19 (by decide) fl_X10_30 (v := .ref (aMO 5)) rfl dX10_numberOf_137 ?_
                      refine lv_aload_n hx hb dX10_numberOf_140 rfl (lv_at hl 3 rfl) ?_
                      refine r_get X inw_X10 G 0 rfl rfl 21 (by decide) fl_X10_253 (v := .int (Mo_namedMany MO17)) rfl dX10_numberOf_141 ?_
                      refine lv_iload hx hb dX10_numberOf_144 (lv_at hl 1 rfl) ?_
                      obtain ⟨h18, hf⟩ := ix_some hf
                      obtain ⟨MO19, eMO19, hf⟩ := nm_some hf
                      refine r_iast X G 6 rfl h18 (ws' := kMo k ot aMO (MO19)) (by subst eMO19; rfl) dX10_numberOf_146 (fun H locs G => ?_)
                      refine lv_aload_n hx hb dX10_numberOf_147 rfl (lv_at hl 3 rfl) ?_
                      refine r_get X inw_X10 G 0 rfl rfl 20 (by decide) fl_X10_33 (v := .ref (aMO 6)) rfl dX10_numberOf_148 ?_
                      refine lv_aload_n hx hb dX10_numberOf_151 rfl (lv_at hl 3 rfl) ?_
                      refine r_get X inw_X10 G 0 rfl rfl 21 (by decide) fl_X10_253 (v := .int (Mo_namedMany MO19)) rfl dX10_numberOf_152 ?_
                      refine lv_iload_n hx hb dX10_numberOf_155 rfl (lv_at hl 4 rfl) ?_
                      obtain ⟨h20, hf⟩ := ix_some hf
                      obtain ⟨MO21, eMO21, hf⟩ := nm_some hf
                      refine r_iast X G 7 rfl h20 (ws' := kMo k ot aMO (MO21)) (by subst eMO21; rfl) dX10_numberOf_156 (fun H locs G => ?_)
                      refine lv_aload_n hx hb dX10_numberOf_157 rfl (lv_at hl 3 rfl) ?_
                      refine lv_dup hx hb dX10_numberOf_158 rfl ?_
                      refine r_get X inw_X10 G 0 rfl rfl 21 (by decide) fl_X10_253 (v := .int (Mo_namedMany MO21)) rfl dX10_numberOf_159 ?_
                      refine lv_iconst (v := 1) hx hb dX10_numberOf_162 (by decide) ?_
                      refine lv_iadd hx hb dX10_numberOf_163 ?_
                      obtain ⟨MO22, eMO22, hf⟩ := nm_some hf
                      refine r_put X inw_X10 tyX10 tyX10_ok nmX10 G 0 rfl rfl 21 (by decide) fl_X10_253 rfl rfl rfl (Nat.le_of_ble_eq_true rfl) (ws' := kMo k ot aMO (MO22)) (by subst eMO22; rfl) dX10_numberOf_164 (fun H locs G => ?_)
                      refine lv_iload hx hb dX10_numberOf_167 (lv_at hl 0 rfl) ?_
                      cases hf
                      exact e_mi X G dX10_numberOf_169
                  refine lv_if_eq (tgt := 104) hx hb dX10_numberOf_78 (by decide) (fun c23 => ?_) (fun c23 => ?_)
                  · replace hf := if_t hf c23
                    refine lv_iconst (v := 0) hx hb dX10_numberOf_104 (by decide) ?_
                    exact JJ12 (0 : Int32) _ _ _ G (lv_sub hl [0, 2] rfl) hf
                  · replace hf := if_f hf c23
                    refine lv_aload_n hx hb dX10_numberOf_81 rfl (lv_at hl 0 rfl) ?_
                    refine r_get X inw_X10 G 0 rfl rfl 13 (by decide) fl_X10_205 (v := .int (Mo_token MO)) rfl dX10_numberOf_82 ?_
                    refine lv_iconst (v := 2) hx hb dX10_numberOf_85 (by decide) ?_
                    refine lv_icmp_ne (tgt := 104) hx hb dX10_numberOf_86 (by decide) (fun c24 => ?_) (fun c24 => ?_)
                    · replace hf := if_f hf c24
                      refine lv_iconst (v := 0) hx hb dX10_numberOf_104 (by decide) ?_
                      exact JJ12 (0 : Int32) _ _ _ G (lv_sub hl [0, 2] rfl) hf
                    · replace hf := if_t hf c24
                      refine lv_aload_n hx hb dX10_numberOf_89 rfl (lv_at hl 0 rfl) ?_
                      refine r_get X inw_X10 G 0 rfl rfl 15 (by decide) fl_X10_201 (v := .long (Mo_value MO)) rfl dX10_numberOf_90 ?_
                      refine lv_ldc2 (v := 8) hx hb X.2.2.2.2.2.1 (X.2.2.2.2.2.2.1.use ck_X10_251) dX10_numberOf_93 ?_
                      refine W.lcmp hx hb dX10_numberOf_96 ?_
                      refine lv_if_ge (tgt := 104) hx hb dX10_numberOf_97 (by decide) (fun c25 => ?_) (fun c25 => ?_)
                      · replace hf := if_t hf c25
                        refine lv_iconst (v := 0) hx hb dX10_numberOf_104 (by decide) ?_
                        exact JJ12 (0 : Int32) _ _ _ G (lv_sub hl [0, 2] rfl) hf
                      · replace hf := if_f hf c25
                        refine lv_iconst (v := 1) hx hb dX10_numberOf_100 (by decide) ?_
                        refine lv_goto (tgt := 105) hx hb dX10_numberOf_101 (by decide) ?_
                        exact JJ12 (1 : Int32) _ _ _ G (lv_sub hl [0, 2] rfl) hf
                · replace hf := if_t hf c10
                  refine lv_iconst (v := -1) hx hb dX10_numberOf_72 (by decide) ?_
                  cases hf
                  exact e_mi X G dX10_numberOf_73
            · replace hf := if_t hf c8
              refine lv_aload_n hx hb dX10_numberOf_53 rfl (lv_at hl 0 rfl) ?_
              refine lv_iconst (v := 0) hx hb dX10_numberOf_54 (by decide) ?_
              refine lv_iconst (v := 3) hx hb dX10_numberOf_55 (by decide) ?_
              obtain ⟨r26, hcr26, hf⟩ := bd_some hf
              refine p_N (st1 := [.int (r26.1)]) (wr := []) (ws' := kMo k ot aMO (r26.2)) (run_V (rest := []) X (ctX10_numeral hZ ot aMO hcr26) mk_X10_numeral ml_X10_248 ⟨(Nat.le_of_ble_eq_true rfl), (Nat.le_of_ble_eq_true rfl)⟩ G [0, 1, 2, 3, 4, 5, 6, 7] rfl rfl 0 rfl rfl rfl hl.1 rfl (Nat.le_of_ble_eq_true rfl) dX10_numberOf_56 ⟨Nat.zero_le _, Nat.zero_le _⟩) rfl G [0, 1, 2, 3, 4, 5, 6, 7] [] 8 rfl rfl rfl rfl rfl (by decide) (by decide) rfl (fun H locs G => ?_)
              cases hf
              exact e_mi X G dX10_numberOf_59
        · replace hf := if_t hf c5
          refine lv_aload_n hx hb dX10_numberOf_36 rfl (lv_at hl 0 rfl) ?_
          refine lv_iconst (v := 0) hx hb dX10_numberOf_37 (by decide) ?_
          refine lv_iconst (v := 5) hx hb dX10_numberOf_38 (by decide) ?_
          obtain ⟨r27, hcr27, hf⟩ := bd_some hf
          refine p_N (st1 := [.int (r27.1)]) (wr := []) (ws' := kMo k ot aMO (r27.2)) (run_V (rest := []) X (ctX10_numeral hZ ot aMO hcr27) mk_X10_numeral ml_X10_248 ⟨(Nat.le_of_ble_eq_true rfl), (Nat.le_of_ble_eq_true rfl)⟩ G [0, 1, 2, 3, 4, 5, 6, 7] rfl rfl 0 rfl rfl rfl hl.1 rfl (Nat.le_of_ble_eq_true rfl) dX10_numberOf_39 ⟨Nat.zero_le _, Nat.zero_le _⟩) rfl G [0, 1, 2, 3, 4, 5, 6, 7] [] 8 rfl rfl rfl rfl rfl (by decide) (by decide) rfl (fun H locs G => ?_)
          cases hf
          exact e_mi X G dX10_numberOf_42
    · replace hf := if_t hf c2
      refine lv_aload_n hx hb dX10_numberOf_18 rfl (lv_at hl 0 rfl) ?_
      refine lv_iconst (v := 1) hx hb dX10_numberOf_19 (by decide) ?_
      refine lv_bipush (v := 99) hx hb dX10_numberOf_20 (by decide) ?_
      obtain ⟨r28, hcr28, hf⟩ := bd_some hf
      refine p_N (st1 := [.int (r28.1)]) (wr := []) (ws' := kMo k ot aMO (r28.2)) (run_V (rest := []) X (ctX10_numeral hZ ot aMO hcr28) mk_X10_numeral ml_X10_248 ⟨(Nat.le_of_ble_eq_true rfl), (Nat.le_of_ble_eq_true rfl)⟩ G [0, 1, 2, 3, 4, 5, 6, 7] rfl rfl 0 rfl rfl rfl hl.1 rfl (Nat.le_of_ble_eq_true rfl) dX10_numberOf_22 ⟨Nat.zero_le _, Nat.zero_le _⟩) rfl G [0, 1, 2, 3, 4, 5, 6, 7] [] 8 rfl rfl rfl rfl rfl (by decide) (by decide) rfl (fun H locs G => ?_)
      cases hf
      exact e_mi X G dX10_numberOf_25
  · replace hf := if_t hf c1
    refine lv_aload_n hx hb dX10_numberOf_4 rfl (lv_at hl 0 rfl) ?_
    refine lv_iconst (v := 1) hx hb dX10_numberOf_5 (by decide) ?_
    refine lv_bipush (v := 50) hx hb dX10_numberOf_6 (by decide) ?_
    obtain ⟨r29, hcr29, hf⟩ := bd_some hf
    refine p_N (st1 := [.int (r29.1)]) (wr := []) (ws' := kMo k ot aMO (r29.2)) (run_V (rest := []) X (ctX10_numeral hZ ot aMO hcr29) mk_X10_numeral ml_X10_248 ⟨(Nat.le_of_ble_eq_true rfl), (Nat.le_of_ble_eq_true rfl)⟩ G [0, 1, 2, 3, 4, 5, 6, 7] rfl rfl 0 rfl rfl rfl hl.1 rfl (Nat.le_of_ble_eq_true rfl) dX10_numberOf_8 ⟨Nat.zero_le _, Nat.zero_le _⟩) rfl G [0, 1, 2, 3, 4, 5, 6, 7] [] 8 rfl rfl rfl rfl rfl (by decide) (by decide) rfl (fun H locs G => ?_)
    cases hf
    exact e_mi X G dX10_numberOf_11
theorem mk_X10_numberOf : MV yX10_numberOf cX10_numberOf 6 (some .int) 2 := ⟨co_X10_numberOf, in_X10, im_X10_numberOf, se_X10_numberOf, by decide +kernel, by decide +kernel⟩
noncomputable def FX10_judges_10  : (Int32 × MoT) → Option ((Int32 × MoT) ⊕ (MoT)) := fun stL3 =>
  if (Mo_namedMany stL3.2) ≤ stL3.1 then (
    some (.inr stL3.2)
  ) else (
    if (Mo_alsoKind stL3.2) = 0 then (
      ix stL3.1 400 <|
      ix (1422 : Int32) 9519 <|
      if (Mo_all stL3.2 (Int32.toNatClampNeg (1422 : Int32))) ≤ (Mo_named stL3.2 (Int32.toNatClampNeg stL3.1)) then (
        ix stL3.1 400 <|
        (FX10_also stL3.2 (5 : Int32) (Mo_namedAt stL3.2 (Int32.toNatClampNeg stL3.1))).bind fun r10 =>
        nm (stL3.1 + 1) fun x11 =>
        some (.inl (x11, r10))
      ) else (
        ix stL3.1 400 <|
        ix stL3.1 400 <|
        if (Mo_named stL3.2 (Int32.toNatClampNeg stL3.1)) = (Mo_namedBy stL3.2 (Int32.toNatClampNeg stL3.1)) then (
          ix stL3.1 400 <|
          (FX10_also stL3.2 (5 : Int32) (Mo_namedAt stL3.2 (Int32.toNatClampNeg stL3.1))).bind fun r17 =>
          nm (stL3.1 + 1) fun x18 =>
          some (.inl (x18, r17))
        ) else (
          nm (stL3.1 + 1) fun x15 =>
          some (.inl (x15, stL3.2))
        )
      )
    ) else (
      some (.inr stL3.2)
    )
  )
noncomputable def FX10_judges (MO : MoT) : Option (MoT) :=
  (FX10_isGood MO).bind fun r1 =>
  if (bI r1) = 0 then (
    some MO
  ) else (
    (itr FX10_judges_10 ((0 : Int32), MO)).bind fun uL3 =>
    nm (sMo_faultKind uL3 (Mo_alsoKind uL3)) fun MO19 =>
    if (Mo_alsoKind MO19) = 0 then (
      nm (sMo_faultPlace MO19 (-1 : Int32)) fun MO22 =>
      some MO22
    ) else (
      nm (sMo_faultPlace MO19 (Mo_alsoPlace MO19)) fun MO21 =>
      some MO21
    )
  )
set_option maxHeartbeats 4000000 in
set_option maxRecDepth 100000 in
theorem ctX10_judges {l : Launch} {D : va_G} {k : Nat → ClassId} {Z : ZT} (hZ : ZOK Z) (ot : Nat) (aMO : Nat → Nat) {MO : MoT} {q : MoT} (hf : FX10_judges MO = some q) :
    CM l D k Z yX10_judges cX10_judges 2 none 1 22 [.ref ot] none (kMo k ot aMO (MO)) (kMo k ot aMO (q)) := by
  refine CM.start hZ (by decide) (Nat.le_of_ble_eq_true rfl) ?_
  intro p e s m below meth c ls X hl G
  have hx := X.1
  have hb := X.2.1
  have hl : lv_has ls 2 [(0, .ref ot)] := hl
  unfold FX10_judges at hf
  refine lv_aload_n hx hb dX10_judges_0 rfl (lv_at hl 0 rfl) ?_
  obtain ⟨r1, hcr1, hf⟩ := bd_some hf
  refine p_R (st1 := [.int (bI r1)]) (run_V (rest := []) X (ctX10_isGood hZ ot aMO hcr1) mk_X10_isGood ml_X10_230 ⟨(Nat.le_of_ble_eq_true rfl), (Nat.le_of_ble_eq_true rfl)⟩ G [0, 1, 2, 3, 4, 5, 6, 7] rfl rfl 0 rfl rfl rfl hl.1 rfl (Nat.le_of_ble_eq_true rfl) dX10_judges_1 ⟨Nat.zero_le _, Nat.zero_le _⟩) rfl ?_
  refine lv_if_ne (tgt := 8) hx hb dX10_judges_4 (by decide) (fun c2 => ?_) (fun c2 => ?_)
  · replace hf := if_f hf c2
    refine lv_iconst (v := 0) hx hb dX10_judges_8 (by decide) ?_
    refine lv_istore_n (lv' := [(1, .int (0 : Int32)), (0, .ref ot)]) hx hb dX10_judges_9 rfl hl (by decide) rfl (fun ls hl => ?_)
    obtain ⟨exL3, hitL3, hfL3⟩ := bd_some hf
    obtain ⟨nL3, hitL3⟩ := itr_ex hitL3
    have KL3_0 : ∀ (u : MoT) (H : Heap) (locs : List Loc) (ls : Array Slot), exL3 = u → Wo D (wA (kMo k ot aMO (MO))) s.heap (kMo k ot aMO (u)) H locs → lv_has ls 2 [(0, .ref ot)] → W p l e (rmz 1 22) s m [.ref ot].toArray below meth c H locs 0 0 (MQ below (Qm D none (kMo k ot aMO (MO)) (kMo k ot aMO (q))) [.ref ot].toArray s 0 0 (wA (kMo k ot aMO (MO)))) (F0 m 74 ls []) := by
      intro uL3 H locs ls hex G hl
      rw [hex] at hfL3
      have hf := hfL3
      refine lv_aload_n hx hb dX10_judges_74 rfl (lv_at hl 0 rfl) ?_
      refine lv_aload_n hx hb dX10_judges_75 rfl (lv_at hl 0 rfl) ?_
      refine r_get X inw_X10 G 0 rfl rfl 16 (by decide) fl_X10_224 (v := .int (Mo_alsoKind uL3)) rfl dX10_judges_76 ?_
      obtain ⟨MO19, eMO19, hf⟩ := nm_some hf
      refine r_put X inw_X10 tyX10 tyX10_ok nmX10 G 0 rfl rfl 4 (by decide) fl_X10_186 rfl rfl rfl (Nat.le_of_ble_eq_true rfl) (ws' := kMo k ot aMO (MO19)) (by subst eMO19; rfl) dX10_judges_79 (fun H locs G => ?_)
      refine lv_aload_n hx hb dX10_judges_82 rfl (lv_at hl 0 rfl) ?_
      refine lv_aload_n hx hb dX10_judges_83 rfl (lv_at hl 0 rfl) ?_
      refine r_get X inw_X10 G 0 rfl rfl 16 (by decide) fl_X10_224 (v := .int (Mo_alsoKind MO19)) rfl dX10_judges_84 ?_
      refine lv_if_ne (tgt := 94) hx hb dX10_judges_87 (by decide) (fun c20 => ?_) (fun c20 => ?_)
      · replace hf := if_f hf c20
        refine lv_aload_n hx hb dX10_judges_94 rfl (lv_at hl 0 rfl) ?_
        refine r_get X inw_X10 G 0 rfl rfl 17 (by decide) fl_X10_227 (v := .int (Mo_alsoPlace MO19)) rfl dX10_judges_95 ?_
        obtain ⟨MO21, eMO21, hf⟩ := nm_some hf
        refine r_put X inw_X10 tyX10 tyX10_ok nmX10 G 0 rfl rfl 5 (by decide) fl_X10_20 rfl rfl rfl (Nat.le_of_ble_eq_true rfl) (ws' := kMo k ot aMO (MO21)) (by subst eMO21; rfl) dX10_judges_98 (fun H locs G => ?_)
        cases hf
        exact e_mv X G dX10_judges_101
      · replace hf := if_t hf c20
        refine lv_iconst (v := -1) hx hb dX10_judges_90 (by decide) ?_
        refine lv_goto (tgt := 98) hx hb dX10_judges_91 (by decide) ?_
        obtain ⟨MO22, eMO22, hf⟩ := nm_some hf
        refine r_put X inw_X10 tyX10 tyX10_ok nmX10 G 0 rfl rfl 5 (by decide) fl_X10_20 rfl rfl rfl (Nat.le_of_ble_eq_true rfl) (ws' := kMo k ot aMO (MO22)) (by subst eMO22; rfl) dX10_judges_98 (fun H locs G => ?_)
        cases hf
        exact e_mv X G dX10_judges_101
    have LL3 : ∀ (n : Nat) (stL3 : Int32 × MoT) (H : Heap) (locs : List Loc) (ls : Array Slot), Wo D (wA (kMo k ot aMO (MO))) s.heap (kMo k ot aMO (stL3.2)) H locs → lv_has ls 2 [(0, .ref ot), (1, .int (stL3.1))] → it FX10_judges_10 n stL3 = some exL3 → W p l e (rmz 1 22) s m [.ref ot].toArray below meth c H locs 0 0 (MQ below (Qm D none (kMo k ot aMO (MO)) (kMo k ot aMO (q))) [.ref ot].toArray s 0 0 (wA (kMo k ot aMO (MO)))) (F0 m 10 ls []) := by
      intro n
      induction n with
      | zero =>
        intro stL3 H locs ls G hl hit
        exact (it_zero hit).elim
      | succ n ih =>
        intro stL3 H locs ls G hl hit
        obtain ⟨oL3, hf, hoL3⟩ := it_bd hit
        unfold FX10_judges_10 at hf
        refine lv_iload_n hx hb dX10_judges_10 rfl (lv_at hl 1 rfl) ?_
        refine lv_aload_n hx hb dX10_judges_11 rfl (lv_at hl 0 rfl) ?_
        refine r_get X inw_X10 G 0 rfl rfl 21 (by decide) fl_X10_253 (v := .int (Mo_namedMany stL3.2)) rfl dX10_judges_12 ?_
        refine lv_icmp_ge (tgt := 74) hx hb dX10_judges_15 (by decide) (fun c4 => ?_) (fun c4 => ?_)
        · replace hf := if_t hf c4
          cases hf
          exact KL3_0 stL3.2 _ _ _ (it_out hoL3) G (lv_sub hl [0] rfl)
        · replace hf := if_f hf c4
          refine lv_aload_n hx hb dX10_judges_18 rfl (lv_at hl 0 rfl) ?_
          refine r_get X inw_X10 G 0 rfl rfl 16 (by decide) fl_X10_224 (v := .int (Mo_alsoKind stL3.2)) rfl dX10_judges_19 ?_
          refine lv_if_ne (tgt := 74) hx hb dX10_judges_22 (by decide) (fun c5 => ?_) (fun c5 => ?_)
          · replace hf := if_f hf c5
            cases hf
            exact KL3_0 stL3.2 _ _ _ (it_out hoL3) G (lv_sub hl [0] rfl)
          · replace hf := if_t hf c5
            refine lv_aload_n hx hb dX10_judges_25 rfl (lv_at hl 0 rfl) ?_
            refine r_get X inw_X10 G 0 rfl rfl 18 (by decide) fl_X10_27 (v := .ref (aMO 4)) rfl dX10_judges_26 ?_
            refine lv_iload_n hx hb dX10_judges_29 rfl (lv_at hl 1 rfl) ?_
            obtain ⟨h6, hf⟩ := ix_some hf
            refine r_iald X G 5 rfl h6 dX10_judges_30 ?_
            refine lv_aload_n hx hb dX10_judges_31 rfl (lv_at hl 0 rfl) ?_
            refine r_get X inw_X10 G 0 rfl rfl 0 (by decide) fl_X10_7 (v := .ref (aMO 0)) rfl dX10_judges_32 ?_
            refine lv_sipush (v := 1422) hx hb dX10_judges_35 (by decide) ?_
            obtain ⟨h7, hf⟩ := ix_some hf
            refine r_iald X G 1 rfl h7 dX10_judges_38 ?_
            refine lv_icmp_ge (tgt := 57) hx hb dX10_judges_39 (by decide) (fun c8 => ?_) (fun c8 => ?_)
            · replace hf := if_t hf c8
              refine lv_aload_n hx hb dX10_judges_57 rfl (lv_at hl 0 rfl) ?_
              refine lv_iconst (v := 5) hx hb dX10_judges_58 (by decide) ?_
              refine lv_aload_n hx hb dX10_judges_59 rfl (lv_at hl 0 rfl) ?_
              refine r_get X inw_X10 G 0 rfl rfl 19 (by decide) fl_X10_30 (v := .ref (aMO 5)) rfl dX10_judges_60 ?_
              refine lv_iload_n hx hb dX10_judges_63 rfl (lv_at hl 1 rfl) ?_
              obtain ⟨h9, hf⟩ := ix_some hf
              refine r_iald X G 6 rfl h9 dX10_judges_64 ?_
              obtain ⟨r10, hcr10, hf⟩ := bd_some hf
              refine p_N (st1 := []) (wr := []) (ws' := kMo k ot aMO (r10)) (run_V (rest := []) X (ctX10_also hZ ot aMO hcr10) mk_X10_also ml_X10_240 ⟨(Nat.le_of_ble_eq_true rfl), (Nat.le_of_ble_eq_true rfl)⟩ G [0, 1, 2, 3, 4, 5, 6, 7] rfl rfl 0 rfl rfl rfl hl.1 rfl (Nat.le_of_ble_eq_true rfl) dX10_judges_65 ⟨Nat.zero_le _, Nat.zero_le _⟩) rfl G [0, 1, 2, 3, 4, 5, 6, 7] [] 8 rfl rfl rfl rfl rfl (by decide) (by decide) rfl (fun H locs G => ?_)
              obtain ⟨x11, ex11, hf⟩ := nm_some hf
              refine lv_iinc (v := x11) (lv' := [(1, .int x11), (0, .ref ot)]) hx hb dX10_judges_68 hl (k := 1) rfl (by subst ex11; rfl) (by decide) rfl (fun ls hl => ?_)
              refine lv_goto (tgt := 10) hx hb dX10_judges_71 (by decide) ?_
              cases hf
              exact ih (x11, r10) _ _ _ G (lv_sub hl [1, 0] rfl) hoL3
            · replace hf := if_f hf c8
              refine lv_aload_n hx hb dX10_judges_42 rfl (lv_at hl 0 rfl) ?_
              refine r_get X inw_X10 G 0 rfl rfl 18 (by decide) fl_X10_27 (v := .ref (aMO 4)) rfl dX10_judges_43 ?_
              refine lv_iload_n hx hb dX10_judges_46 rfl (lv_at hl 1 rfl) ?_
              obtain ⟨h12, hf⟩ := ix_some hf
              refine r_iald X G 5 rfl h12 dX10_judges_47 ?_
              refine lv_aload_n hx hb dX10_judges_48 rfl (lv_at hl 0 rfl) ?_
              refine r_get X inw_X10 G 0 rfl rfl 20 (by decide) fl_X10_33 (v := .ref (aMO 6)) rfl dX10_judges_49 ?_
              refine lv_iload_n hx hb dX10_judges_52 rfl (lv_at hl 1 rfl) ?_
              obtain ⟨h13, hf⟩ := ix_some hf
              refine r_iald X G 7 rfl h13 dX10_judges_53 ?_
              refine lv_icmp_ne (tgt := 68) hx hb dX10_judges_54 (by decide) (fun c14 => ?_) (fun c14 => ?_)
              · replace hf := if_f hf c14
                obtain ⟨x15, ex15, hf⟩ := nm_some hf
                refine lv_iinc (v := x15) (lv' := [(1, .int x15), (0, .ref ot)]) hx hb dX10_judges_68 hl (k := 1) rfl (by subst ex15; rfl) (by decide) rfl (fun ls hl => ?_)
                refine lv_goto (tgt := 10) hx hb dX10_judges_71 (by decide) ?_
                cases hf
                exact ih (x15, stL3.2) _ _ _ G (lv_sub hl [1, 0] rfl) hoL3
              · replace hf := if_t hf c14
                refine lv_aload_n hx hb dX10_judges_57 rfl (lv_at hl 0 rfl) ?_
                refine lv_iconst (v := 5) hx hb dX10_judges_58 (by decide) ?_
                refine lv_aload_n hx hb dX10_judges_59 rfl (lv_at hl 0 rfl) ?_
                refine r_get X inw_X10 G 0 rfl rfl 19 (by decide) fl_X10_30 (v := .ref (aMO 5)) rfl dX10_judges_60 ?_
                refine lv_iload_n hx hb dX10_judges_63 rfl (lv_at hl 1 rfl) ?_
                obtain ⟨h16, hf⟩ := ix_some hf
                refine r_iald X G 6 rfl h16 dX10_judges_64 ?_
                obtain ⟨r17, hcr17, hf⟩ := bd_some hf
                refine p_N (st1 := []) (wr := []) (ws' := kMo k ot aMO (r17)) (run_V (rest := []) X (ctX10_also hZ ot aMO hcr17) mk_X10_also ml_X10_240 ⟨(Nat.le_of_ble_eq_true rfl), (Nat.le_of_ble_eq_true rfl)⟩ G [0, 1, 2, 3, 4, 5, 6, 7] rfl rfl 0 rfl rfl rfl hl.1 rfl (Nat.le_of_ble_eq_true rfl) dX10_judges_65 ⟨Nat.zero_le _, Nat.zero_le _⟩) rfl G [0, 1, 2, 3, 4, 5, 6, 7] [] 8 rfl rfl rfl rfl rfl (by decide) (by decide) rfl (fun H locs G => ?_)
                obtain ⟨x18, ex18, hf⟩ := nm_some hf
                refine lv_iinc (v := x18) (lv' := [(1, .int x18), (0, .ref ot)]) hx hb dX10_judges_68 hl (k := 1) rfl (by subst ex18; rfl) (by decide) rfl (fun ls hl => ?_)
                refine lv_goto (tgt := 10) hx hb dX10_judges_71 (by decide) ?_
                cases hf
                exact ih (x18, r17) _ _ _ G (lv_sub hl [1, 0] rfl) hoL3
    exact LL3 nL3 ((0 : Int32), MO) _ _ _ G (lv_sub hl [1, 0] rfl) hitL3
  · replace hf := if_t hf c2
    cases hf
    exact e_mv X G dX10_judges_7
theorem mk_X10_judges : MV yX10_judges cX10_judges 2 none 0 := ⟨co_X10_judges, in_X10, im_X10_judges, se_X10_judges, by decide +kernel, by decide +kernel⟩
noncomputable def FX10_image_32 (x3 : Int32) : (Int32 × MoT) → Option ((Int32 × MoT) ⊕ (MoT)) := fun stL5 =>
  if (800 : Int32) ≤ stL5.1 then (
    some (.inr stL5.2)
  ) else (
    ix stL5.1 800 <|
    ix ((x3 + (474 : Int32)) + stL5.1) 9519 <|
    nm (sMo_all stL5.2 (upd (Mo_all stL5.2) (Int32.toNatClampNeg ((x3 + (474 : Int32)) + stL5.1)) (Mo_tape stL5.2 (Int32.toNatClampNeg stL5.1)))) fun MO9 =>
    nm (stL5.1 + 1) fun x10 =>
    some (.inl (x10, MO9))
  )
noncomputable def FX10_image (MO : MoT) (v1 : Int32) : Option (Bool × MoT) :=
  (FX10_isIn v1 (0 : Int32) (2 : Int32)).bind fun r1 =>
  if (bI r1) = 0 then (
    some (false, MO)
  ) else (
    nm ((5688 : Int32) + ((1277 : Int32) * v1)) fun x3 =>
    (FX10_copies MO (0 : Int32) x3 (474 : Int32)).bind fun r4 =>
    (itr (FX10_image_32 x3) ((0 : Int32), r4)).bind fun uL5 =>
    ix ((x3 + (474 : Int32)) + (800 : Int32)) 9519 <|
    nm (sMo_all uL5 (upd (Mo_all uL5) (Int32.toNatClampNeg ((x3 + (474 : Int32)) + (800 : Int32))) (Mo_taped uL5))) fun MO12 =>
    ix (((x3 + (474 : Int32)) + (800 : Int32)) + (1 : Int32)) 9519 <|
    nm (sMo_all MO12 (upd (Mo_all MO12) (Int32.toNatClampNeg (((x3 + (474 : Int32)) + (800 : Int32)) + (1 : Int32))) (Mo_faultKind MO12))) fun MO14 =>
    ix (((x3 + (474 : Int32)) + (800 : Int32)) + (2 : Int32)) 9519 <|
    nm (sMo_all MO14 (upd (Mo_all MO14) (Int32.toNatClampNeg (((x3 + (474 : Int32)) + (800 : Int32)) + (2 : Int32))) (Mo_faultPlace MO14))) fun MO16 =>
    ix v1 3 <|
    nm (sMo_isImage MO16 (upd (Mo_isImage MO16) (Int32.toNatClampNeg v1) (vp_nar .boolean (1 : Int32)))) fun MO18 =>
    some (true, MO18)
  )
set_option maxHeartbeats 4000000 in
set_option maxRecDepth 100000 in
theorem ctX10_image {l : Launch} {D : va_G} {k : Nat → ClassId} {Z : ZT} (hZ : ZOK Z) (ot : Nat) (aMO : Nat → Nat) {MO : MoT} {v1 : Int32} {q : Bool × MoT} (hf : FX10_image MO v1 = some q) :
    CM l D k Z yX10_image cX10_image 4 (some .boolean) 1 24 [.ref ot, .int v1] (some (.int (bI q.1))) (kMo k ot aMO (MO)) (kMo k ot aMO (q.2)) := by
  refine CM.start hZ (by decide) (Nat.le_of_ble_eq_true rfl) ?_
  intro p e s m below meth c ls X hl G
  have hx := X.1
  have hb := X.2.1
  have hl : lv_has ls 4 [(0, .ref ot), (1, .int v1)] := hl
  unfold FX10_image at hf
  refine lv_iload_n hx hb dX10_image_0 rfl (lv_at hl 1 rfl) ?_
  refine lv_iconst (v := 0) hx hb dX10_image_1 (by decide) ?_
  refine lv_iconst (v := 2) hx hb dX10_image_2 (by decide) ?_
  obtain ⟨r1, hcr1, hf⟩ := bd_some hf
  refine p_R (st1 := [.int (bI r1)]) (run_S (rest := []) X (ctX10_isIn hZ hcr1) mk_X10_isIn ml_X10_47 ⟨(Nat.le_of_ble_eq_true rfl), (Nat.le_of_ble_eq_true rfl)⟩ G [] rfl rfl rfl hl.1 rfl (Nat.le_of_ble_eq_true rfl) dX10_image_3 ⟨Nat.zero_le _, Nat.zero_le _⟩) rfl ?_
  refine lv_if_ne (tgt := 11) hx hb dX10_image_6 (by decide) (fun c2 => ?_) (fun c2 => ?_)
  · replace hf := if_f hf c2
    refine lv_sipush (v := 5688) hx hb dX10_image_11 (by decide) ?_
    refine lv_sipush (v := 1277) hx hb dX10_image_14 (by decide) ?_
    refine lv_iload_n hx hb dX10_image_17 rfl (lv_at hl 1 rfl) ?_
    refine lv_imul hx hb dX10_image_18 ?_
    refine lv_iadd hx hb dX10_image_19 ?_
    obtain ⟨x3, ex3, hf⟩ := nm_some hf
    refine r_top (congrArg Value.int ex3) ?_
    refine lv_istore_n (lv' := [(2, .int x3), (0, .ref ot), (1, .int v1)]) hx hb dX10_image_20 rfl hl (by decide) rfl (fun ls hl => ?_)
    refine lv_aload_n hx hb dX10_image_21 rfl (lv_at hl 1 rfl) ?_
    refine lv_iconst (v := 0) hx hb dX10_image_22 (by decide) ?_
    refine lv_iload_n hx hb dX10_image_23 rfl (lv_at hl 0 rfl) ?_
    refine lv_sipush (v := 474) hx hb dX10_image_24 (by decide) ?_
    obtain ⟨r4, hcr4, hf⟩ := bd_some hf
    refine p_N (st1 := []) (wr := []) (ws' := kMo k ot aMO (r4)) (run_V (rest := []) X (ctX10_copies hZ ot aMO hcr4) mk_X10_copies ml_X10_103 ⟨(Nat.le_of_ble_eq_true rfl), (Nat.le_of_ble_eq_true rfl)⟩ G [0, 1, 2, 3, 4, 5, 6, 7] rfl rfl 0 rfl rfl rfl hl.1 rfl (Nat.le_of_ble_eq_true rfl) dX10_image_27 ⟨Nat.zero_le _, Nat.zero_le _⟩) rfl G [0, 1, 2, 3, 4, 5, 6, 7] [] 8 rfl rfl rfl rfl rfl (by decide) (by decide) rfl (fun H locs G => ?_)
    refine lv_iconst (v := 0) hx hb dX10_image_30 (by decide) ?_
    refine lv_istore_n (lv' := [(3, .int (0 : Int32)), (2, .int x3), (0, .ref ot), (1, .int v1)]) hx hb dX10_image_31 rfl hl (by decide) rfl (fun ls hl => ?_)
    obtain ⟨exL5, hitL5, hfL5⟩ := bd_some hf
    obtain ⟨nL5, hitL5⟩ := itr_ex hitL5
    have KL5_0 : ∀ (u : MoT) (H : Heap) (locs : List Loc) (ls : Array Slot), exL5 = u → Wo D (wA (kMo k ot aMO (MO))) s.heap (kMo k ot aMO (u)) H locs → lv_has ls 4 [(0, .ref ot), (1, .int v1), (2, .int x3)] → W p l e (rmz 1 24) s m [.ref ot, .int v1].toArray below meth c H locs 0 0 (MQ below (Qm D (some (.int (bI q.1))) (kMo k ot aMO (MO)) (kMo k ot aMO (q.2))) [.ref ot, .int v1].toArray s 0 0 (wA (kMo k ot aMO (MO)))) (F0 m 63 ls []) := by
      intro uL5 H locs ls hex G hl
      rw [hex] at hfL5
      have hf := hfL5
      refine lv_aload_n hx hb dX10_image_63 rfl (lv_at hl 0 rfl) ?_
      refine r_get X inw_X10 G 0 rfl rfl 0 (by decide) fl_X10_7 (v := .ref (aMO 0)) rfl dX10_image_64 ?_
      refine lv_iload_n hx hb dX10_image_67 rfl (lv_at hl 2 rfl) ?_
      refine lv_sipush (v := 474) hx hb dX10_image_68 (by decide) ?_
      refine lv_iadd hx hb dX10_image_71 ?_
      refine lv_sipush (v := 800) hx hb dX10_image_72 (by decide) ?_
      refine lv_iadd hx hb dX10_image_75 ?_
      refine lv_aload_n hx hb dX10_image_76 rfl (lv_at hl 0 rfl) ?_
      refine r_get X inw_X10 G 0 rfl rfl 3 (by decide) fl_X10_158 (v := .int (Mo_taped uL5)) rfl dX10_image_77 ?_
      obtain ⟨h11, hf⟩ := ix_some hf
      obtain ⟨MO12, eMO12, hf⟩ := nm_some hf
      refine r_iast X G 1 rfl h11 (ws' := kMo k ot aMO (MO12)) (by subst eMO12; rfl) dX10_image_80 (fun H locs G => ?_)
      refine lv_aload_n hx hb dX10_image_81 rfl (lv_at hl 0 rfl) ?_
      refine r_get X inw_X10 G 0 rfl rfl 0 (by decide) fl_X10_7 (v := .ref (aMO 0)) rfl dX10_image_82 ?_
      refine lv_iload_n hx hb dX10_image_85 rfl (lv_at hl 2 rfl) ?_
      refine lv_sipush (v := 474) hx hb dX10_image_86 (by decide) ?_
      refine lv_iadd hx hb dX10_image_89 ?_
      refine lv_sipush (v := 800) hx hb dX10_image_90 (by decide) ?_
      refine lv_iadd hx hb dX10_image_93 ?_
      refine lv_iconst (v := 1) hx hb dX10_image_94 (by decide) ?_
      refine lv_iadd hx hb dX10_image_95 ?_
      refine lv_aload_n hx hb dX10_image_96 rfl (lv_at hl 0 rfl) ?_
      refine r_get X inw_X10 G 0 rfl rfl 4 (by decide) fl_X10_186 (v := .int (Mo_faultKind MO12)) rfl dX10_image_97 ?_
      obtain ⟨h13, hf⟩ := ix_some hf
      obtain ⟨MO14, eMO14, hf⟩ := nm_some hf
      refine r_iast X G 1 rfl h13 (ws' := kMo k ot aMO (MO14)) (by subst eMO14; rfl) dX10_image_100 (fun H locs G => ?_)
      refine lv_aload_n hx hb dX10_image_101 rfl (lv_at hl 0 rfl) ?_
      refine r_get X inw_X10 G 0 rfl rfl 0 (by decide) fl_X10_7 (v := .ref (aMO 0)) rfl dX10_image_102 ?_
      refine lv_iload_n hx hb dX10_image_105 rfl (lv_at hl 2 rfl) ?_
      refine lv_sipush (v := 474) hx hb dX10_image_106 (by decide) ?_
      refine lv_iadd hx hb dX10_image_109 ?_
      refine lv_sipush (v := 800) hx hb dX10_image_110 (by decide) ?_
      refine lv_iadd hx hb dX10_image_113 ?_
      refine lv_iconst (v := 2) hx hb dX10_image_114 (by decide) ?_
      refine lv_iadd hx hb dX10_image_115 ?_
      refine lv_aload_n hx hb dX10_image_116 rfl (lv_at hl 0 rfl) ?_
      refine r_get X inw_X10 G 0 rfl rfl 5 (by decide) fl_X10_20 (v := .int (Mo_faultPlace MO14)) rfl dX10_image_117 ?_
      obtain ⟨h15, hf⟩ := ix_some hf
      obtain ⟨MO16, eMO16, hf⟩ := nm_some hf
      refine r_iast X G 1 rfl h15 (ws' := kMo k ot aMO (MO16)) (by subst eMO16; rfl) dX10_image_120 (fun H locs G => ?_)
      refine lv_aload_n hx hb dX10_image_121 rfl (lv_at hl 0 rfl) ?_
      refine r_get X inw_X10 G 0 rfl rfl 2 (by decide) fl_X10_16 (v := .ref (aMO 2)) rfl dX10_image_122 ?_
      refine lv_iload_n hx hb dX10_image_125 rfl (lv_at hl 1 rfl) ?_
      refine lv_iconst (v := 1) hx hb dX10_image_126 (by decide) ?_
      obtain ⟨h17, hf⟩ := ix_some hf
      obtain ⟨MO18, eMO18, hf⟩ := nm_some hf
      refine r_zast X G 3 rfl h17 (ws' := kMo k ot aMO (MO18)) (by subst eMO18; rfl) dX10_image_127 (fun H locs G => ?_)
      refine lv_iconst (v := 1) hx hb dX10_image_128 (by decide) ?_
      cases hf
      exact e_mz _ rfl X G dX10_image_129
    have LL5 : ∀ (n : Nat) (stL5 : Int32 × MoT) (H : Heap) (locs : List Loc) (ls : Array Slot), Wo D (wA (kMo k ot aMO (MO))) s.heap (kMo k ot aMO (stL5.2)) H locs → lv_has ls 4 [(0, .ref ot), (1, .int v1), (2, .int x3), (3, .int (stL5.1))] → it (FX10_image_32 x3) n stL5 = some exL5 → W p l e (rmz 1 24) s m [.ref ot, .int v1].toArray below meth c H locs 0 0 (MQ below (Qm D (some (.int (bI q.1))) (kMo k ot aMO (MO)) (kMo k ot aMO (q.2))) [.ref ot, .int v1].toArray s 0 0 (wA (kMo k ot aMO (MO)))) (F0 m 32 ls []) := by
      intro n
      induction n with
      | zero =>
        intro stL5 H locs ls G hl hit
        exact (it_zero hit).elim
      | succ n ih =>
        intro stL5 H locs ls G hl hit
        obtain ⟨oL5, hf, hoL5⟩ := it_bd hit
        unfold FX10_image_32 at hf
        refine lv_iload_n hx hb dX10_image_32 rfl (lv_at hl 3 rfl) ?_
        refine lv_sipush (v := 800) hx hb dX10_image_33 (by decide) ?_
        refine lv_icmp_ge (tgt := 63) hx hb dX10_image_36 (by decide) (fun c6 => ?_) (fun c6 => ?_)
        · replace hf := if_t hf c6
          cases hf
          exact KL5_0 stL5.2 _ _ _ (it_out hoL5) G (lv_sub hl [0, 1, 2] rfl)
        · replace hf := if_f hf c6
          refine lv_aload_n hx hb dX10_image_39 rfl (lv_at hl 0 rfl) ?_
          refine r_get X inw_X10 G 0 rfl rfl 0 (by decide) fl_X10_7 (v := .ref (aMO 0)) rfl dX10_image_40 ?_
          refine lv_iload_n hx hb dX10_image_43 rfl (lv_at hl 2 rfl) ?_
          refine lv_sipush (v := 474) hx hb dX10_image_44 (by decide) ?_
          refine lv_iadd hx hb dX10_image_47 ?_
          refine lv_iload_n hx hb dX10_image_48 rfl (lv_at hl 3 rfl) ?_
          refine lv_iadd hx hb dX10_image_49 ?_
          refine lv_aload_n hx hb dX10_image_50 rfl (lv_at hl 0 rfl) ?_
          refine r_get X inw_X10 G 0 rfl rfl 1 (by decide) fl_X10_13 (v := .ref (aMO 1)) rfl dX10_image_51 ?_
          refine lv_iload_n hx hb dX10_image_54 rfl (lv_at hl 3 rfl) ?_
          obtain ⟨h7, hf⟩ := ix_some hf
          refine r_iald X G 2 rfl h7 dX10_image_55 ?_
          obtain ⟨h8, hf⟩ := ix_some hf
          obtain ⟨MO9, eMO9, hf⟩ := nm_some hf
          refine r_iast X G 1 rfl h8 (ws' := kMo k ot aMO (MO9)) (by subst eMO9; rfl) dX10_image_56 (fun H locs G => ?_)
          obtain ⟨x10, ex10, hf⟩ := nm_some hf
          refine lv_iinc (v := x10) (lv' := [(3, .int x10), (0, .ref ot), (1, .int v1), (2, .int x3)]) hx hb dX10_image_57 hl (k := 3) rfl (by subst ex10; rfl) (by decide) rfl (fun ls hl => ?_)
          refine lv_goto (tgt := 32) hx hb dX10_image_60 (by decide) ?_
          cases hf
          exact ih (x10, MO9) _ _ _ G (lv_sub hl [1, 2, 3, 0] rfl) hoL5
    exact LL5 nL5 ((0 : Int32), r4) _ _ _ G (lv_sub hl [2, 3, 1, 0] rfl) hitL5
  · replace hf := if_t hf c2
    refine lv_iconst (v := 0) hx hb dX10_image_9 (by decide) ?_
    cases hf
    exact e_mz _ rfl X G dX10_image_10
theorem mk_X10_image : MV yX10_image cX10_image 4 (some .boolean) 1 := ⟨co_X10_image, in_X10, im_X10_image, se_X10_image, by decide +kernel, by decide +kernel⟩
noncomputable def FX10_again_41 (x5 : Int32) : (Int32 × MoT) → Option ((Int32 × MoT) ⊕ (MoT)) := fun stL7 =>
  if (800 : Int32) ≤ stL7.1 then (
    some (.inr stL7.2)
  ) else (
    nm ((x5 + (474 : Int32)) + stL7.1) fun x9 =>
    ix x9 9519 <|
    ix stL7.1 800 <|
    nm (sMo_tape stL7.2 (upd (Mo_tape stL7.2) (Int32.toNatClampNeg stL7.1) (Mo_all stL7.2 (Int32.toNatClampNeg x9)))) fun MO12 =>
    nm (stL7.1 + 1) fun x13 =>
    some (.inl (x13, MO12))
  )
noncomputable def FX10_again (MO : MoT) (v1 : Int32) : Option (Bool × MoT) :=
  (FX10_isIn v1 (0 : Int32) (2 : Int32)).bind fun r1 =>
  if (bI r1) = 0 then (
    some (false, MO)
  ) else (
    ix v1 3 <|
    if (Mo_isImage MO (Int32.toNatClampNeg v1)) = 0 then (
      some (false, MO)
    ) else (
      nm ((5688 : Int32) + ((1277 : Int32) * v1)) fun x5 =>
      (FX10_copies MO x5 (0 : Int32) (474 : Int32)).bind fun r6 =>
      (itr (FX10_again_41 x5) ((0 : Int32), r6)).bind fun uL7 =>
      nm ((x5 + (474 : Int32)) + (800 : Int32)) fun x14 =>
      ix x14 9519 <|
      nm (sMo_taped uL7 (Mo_all uL7 (Int32.toNatClampNeg x14))) fun MO16 =>
      nm (((x5 + (474 : Int32)) + (800 : Int32)) + (1 : Int32)) fun x17 =>
      ix x17 9519 <|
      nm (sMo_faultKind MO16 (Mo_all MO16 (Int32.toNatClampNeg x17))) fun MO19 =>
      nm (((x5 + (474 : Int32)) + (800 : Int32)) + (2 : Int32)) fun x20 =>
      ix x20 9519 <|
      nm (sMo_faultPlace MO19 (Mo_all MO19 (Int32.toNatClampNeg x20))) fun MO22 =>
      nm (sMo_undos MO22 (0 : Int32)) fun MO23 =>
      some (true, MO23)
    )
  )
set_option maxHeartbeats 4000000 in
set_option maxRecDepth 100000 in
theorem ctX10_again {l : Launch} {D : va_G} {k : Nat → ClassId} {Z : ZT} (hZ : ZOK Z) (ot : Nat) (aMO : Nat → Nat) {MO : MoT} {v1 : Int32} {q : Bool × MoT} (hf : FX10_again MO v1 = some q) :
    CM l D k Z yX10_again cX10_again 4 (some .boolean) 1 24 [.ref ot, .int v1] (some (.int (bI q.1))) (kMo k ot aMO (MO)) (kMo k ot aMO (q.2)) := by
  refine CM.start hZ (by decide) (Nat.le_of_ble_eq_true rfl) ?_
  intro p e s m below meth c ls X hl G
  have hx := X.1
  have hb := X.2.1
  have hl : lv_has ls 4 [(0, .ref ot), (1, .int v1)] := hl
  unfold FX10_again at hf
  refine lv_iload_n hx hb dX10_again_0 rfl (lv_at hl 1 rfl) ?_
  refine lv_iconst (v := 0) hx hb dX10_again_1 (by decide) ?_
  refine lv_iconst (v := 2) hx hb dX10_again_2 (by decide) ?_
  obtain ⟨r1, hcr1, hf⟩ := bd_some hf
  refine p_R (st1 := [.int (bI r1)]) (run_S (rest := []) X (ctX10_isIn hZ hcr1) mk_X10_isIn ml_X10_47 ⟨(Nat.le_of_ble_eq_true rfl), (Nat.le_of_ble_eq_true rfl)⟩ G [] rfl rfl rfl hl.1 rfl (Nat.le_of_ble_eq_true rfl) dX10_again_3 ⟨Nat.zero_le _, Nat.zero_le _⟩) rfl ?_
  refine lv_if_eq (tgt := 18) hx hb dX10_again_6 (by decide) (fun c2 => ?_) (fun c2 => ?_)
  · replace hf := if_t hf c2
    refine lv_iconst (v := 0) hx hb dX10_again_18 (by decide) ?_
    cases hf
    exact e_mz _ rfl X G dX10_again_19
  · replace hf := if_f hf c2
    refine lv_aload_n hx hb dX10_again_9 rfl (lv_at hl 0 rfl) ?_
    refine r_get X inw_X10 G 0 rfl rfl 2 (by decide) fl_X10_16 (v := .ref (aMO 2)) rfl dX10_again_10 ?_
    refine lv_iload_n hx hb dX10_again_13 rfl (lv_at hl 1 rfl) ?_
    obtain ⟨h3, hf⟩ := ix_some hf
    refine r_zald X G 3 rfl h3 dX10_again_14 ?_
    refine lv_if_ne (tgt := 20) hx hb dX10_again_15 (by decide) (fun c4 => ?_) (fun c4 => ?_)
    · replace hf := if_f hf c4
      refine lv_sipush (v := 5688) hx hb dX10_again_20 (by decide) ?_
      refine lv_sipush (v := 1277) hx hb dX10_again_23 (by decide) ?_
      refine lv_iload_n hx hb dX10_again_26 rfl (lv_at hl 1 rfl) ?_
      refine lv_imul hx hb dX10_again_27 ?_
      refine lv_iadd hx hb dX10_again_28 ?_
      obtain ⟨x5, ex5, hf⟩ := nm_some hf
      refine r_top (congrArg Value.int ex5) ?_
      refine lv_istore_n (lv' := [(2, .int x5), (0, .ref ot), (1, .int v1)]) hx hb dX10_again_29 rfl hl (by decide) rfl (fun ls hl => ?_)
      refine lv_aload_n hx hb dX10_again_30 rfl (lv_at hl 1 rfl) ?_
      refine lv_iload_n hx hb dX10_again_31 rfl (lv_at hl 0 rfl) ?_
      refine lv_iconst (v := 0) hx hb dX10_again_32 (by decide) ?_
      refine lv_sipush (v := 474) hx hb dX10_again_33 (by decide) ?_
      obtain ⟨r6, hcr6, hf⟩ := bd_some hf
      refine p_N (st1 := []) (wr := []) (ws' := kMo k ot aMO (r6)) (run_V (rest := []) X (ctX10_copies hZ ot aMO hcr6) mk_X10_copies ml_X10_103 ⟨(Nat.le_of_ble_eq_true rfl), (Nat.le_of_ble_eq_true rfl)⟩ G [0, 1, 2, 3, 4, 5, 6, 7] rfl rfl 0 rfl rfl rfl hl.1 rfl (Nat.le_of_ble_eq_true rfl) dX10_again_36 ⟨Nat.zero_le _, Nat.zero_le _⟩) rfl G [0, 1, 2, 3, 4, 5, 6, 7] [] 8 rfl rfl rfl rfl rfl (by decide) (by decide) rfl (fun H locs G => ?_)
      refine lv_iconst (v := 0) hx hb dX10_again_39 (by decide) ?_
      refine lv_istore_n (lv' := [(3, .int (0 : Int32)), (2, .int x5), (0, .ref ot), (1, .int v1)]) hx hb dX10_again_40 rfl hl (by decide) rfl (fun ls hl => ?_)
      obtain ⟨exL7, hitL7, hfL7⟩ := bd_some hf
      obtain ⟨nL7, hitL7⟩ := itr_ex hitL7
      have KL7_0 : ∀ (u : MoT) (H : Heap) (locs : List Loc) (ls : Array Slot), exL7 = u → Wo D (wA (kMo k ot aMO (MO))) s.heap (kMo k ot aMO (u)) H locs → lv_has ls 4 [(0, .ref ot), (2, .int x5)] → W p l e (rmz 1 24) s m [.ref ot, .int v1].toArray below meth c H locs 0 0 (MQ below (Qm D (some (.int (bI q.1))) (kMo k ot aMO (MO)) (kMo k ot aMO (q.2))) [.ref ot, .int v1].toArray s 0 0 (wA (kMo k ot aMO (MO)))) (F0 m 72 ls []) := by
        intro uL7 H locs ls hex G hl
        rw [hex] at hfL7
        have hf := hfL7
        refine lv_aload_n hx hb dX10_again_72 rfl (lv_at hl 0 rfl) ?_
        refine lv_aload_n hx hb dX10_again_73 rfl (lv_at hl 0 rfl) ?_
        refine r_get X inw_X10 G 0 rfl rfl 0 (by decide) fl_X10_7 (v := .ref (aMO 0)) rfl dX10_again_74 ?_
        refine lv_iload_n hx hb dX10_again_77 rfl (lv_at hl 1 rfl) ?_
        refine lv_sipush (v := 474) hx hb dX10_again_78 (by decide) ?_
        refine lv_iadd hx hb dX10_again_81 ?_
        refine lv_sipush (v := 800) hx hb dX10_again_82 (by decide) ?_
        refine lv_iadd hx hb dX10_again_85 ?_
        obtain ⟨x14, ex14, hf⟩ := nm_some hf
        refine r_top (congrArg Value.int ex14) ?_
        obtain ⟨h15, hf⟩ := ix_some hf
        refine r_iald X G 1 rfl h15 dX10_again_86 ?_
        obtain ⟨MO16, eMO16, hf⟩ := nm_some hf
        refine r_put X inw_X10 tyX10 tyX10_ok nmX10 G 0 rfl rfl 3 (by decide) fl_X10_158 rfl rfl rfl (Nat.le_of_ble_eq_true rfl) (ws' := kMo k ot aMO (MO16)) (by subst eMO16; rfl) dX10_again_87 (fun H locs G => ?_)
        refine lv_aload_n hx hb dX10_again_90 rfl (lv_at hl 0 rfl) ?_
        refine lv_aload_n hx hb dX10_again_91 rfl (lv_at hl 0 rfl) ?_
        refine r_get X inw_X10 G 0 rfl rfl 0 (by decide) fl_X10_7 (v := .ref (aMO 0)) rfl dX10_again_92 ?_
        refine lv_iload_n hx hb dX10_again_95 rfl (lv_at hl 1 rfl) ?_
        refine lv_sipush (v := 474) hx hb dX10_again_96 (by decide) ?_
        refine lv_iadd hx hb dX10_again_99 ?_
        refine lv_sipush (v := 800) hx hb dX10_again_100 (by decide) ?_
        refine lv_iadd hx hb dX10_again_103 ?_
        refine lv_iconst (v := 1) hx hb dX10_again_104 (by decide) ?_
        refine lv_iadd hx hb dX10_again_105 ?_
        obtain ⟨x17, ex17, hf⟩ := nm_some hf
        refine r_top (congrArg Value.int ex17) ?_
        obtain ⟨h18, hf⟩ := ix_some hf
        refine r_iald X G 1 rfl h18 dX10_again_106 ?_
        obtain ⟨MO19, eMO19, hf⟩ := nm_some hf
        refine r_put X inw_X10 tyX10 tyX10_ok nmX10 G 0 rfl rfl 4 (by decide) fl_X10_186 rfl rfl rfl (Nat.le_of_ble_eq_true rfl) (ws' := kMo k ot aMO (MO19)) (by subst eMO19; rfl) dX10_again_107 (fun H locs G => ?_)
        refine lv_aload_n hx hb dX10_again_110 rfl (lv_at hl 0 rfl) ?_
        refine lv_aload_n hx hb dX10_again_111 rfl (lv_at hl 0 rfl) ?_
        refine r_get X inw_X10 G 0 rfl rfl 0 (by decide) fl_X10_7 (v := .ref (aMO 0)) rfl dX10_again_112 ?_
        refine lv_iload_n hx hb dX10_again_115 rfl (lv_at hl 1 rfl) ?_
        refine lv_sipush (v := 474) hx hb dX10_again_116 (by decide) ?_
        refine lv_iadd hx hb dX10_again_119 ?_
        refine lv_sipush (v := 800) hx hb dX10_again_120 (by decide) ?_
        refine lv_iadd hx hb dX10_again_123 ?_
        refine lv_iconst (v := 2) hx hb dX10_again_124 (by decide) ?_
        refine lv_iadd hx hb dX10_again_125 ?_
        obtain ⟨x20, ex20, hf⟩ := nm_some hf
        refine r_top (congrArg Value.int ex20) ?_
        obtain ⟨h21, hf⟩ := ix_some hf
        refine r_iald X G 1 rfl h21 dX10_again_126 ?_
        obtain ⟨MO22, eMO22, hf⟩ := nm_some hf
        refine r_put X inw_X10 tyX10 tyX10_ok nmX10 G 0 rfl rfl 5 (by decide) fl_X10_20 rfl rfl rfl (Nat.le_of_ble_eq_true rfl) (ws' := kMo k ot aMO (MO22)) (by subst eMO22; rfl) dX10_again_127 (fun H locs G => ?_)
        refine lv_aload_n hx hb dX10_again_130 rfl (lv_at hl 0 rfl) ?_
        refine lv_iconst (v := 0) hx hb dX10_again_131 (by decide) ?_
        obtain ⟨MO23, eMO23, hf⟩ := nm_some hf
        refine r_put X inw_X10 tyX10 tyX10_ok nmX10 G 0 rfl rfl 6 (by decide) fl_X10_143 rfl rfl rfl (Nat.le_of_ble_eq_true rfl) (ws' := kMo k ot aMO (MO23)) (by subst eMO23; rfl) dX10_again_132 (fun H locs G => ?_)
        refine lv_iconst (v := 1) hx hb dX10_again_135 (by decide) ?_
        cases hf
        exact e_mz _ rfl X G dX10_again_136
      have LL7 : ∀ (n : Nat) (stL7 : Int32 × MoT) (H : Heap) (locs : List Loc) (ls : Array Slot), Wo D (wA (kMo k ot aMO (MO))) s.heap (kMo k ot aMO (stL7.2)) H locs → lv_has ls 4 [(0, .ref ot), (2, .int x5), (3, .int (stL7.1))] → it (FX10_again_41 x5) n stL7 = some exL7 → W p l e (rmz 1 24) s m [.ref ot, .int v1].toArray below meth c H locs 0 0 (MQ below (Qm D (some (.int (bI q.1))) (kMo k ot aMO (MO)) (kMo k ot aMO (q.2))) [.ref ot, .int v1].toArray s 0 0 (wA (kMo k ot aMO (MO)))) (F0 m 41 ls []) := by
        intro n
        induction n with
        | zero =>
          intro stL7 H locs ls G hl hit
          exact (it_zero hit).elim
        | succ n ih =>
          intro stL7 H locs ls G hl hit
          obtain ⟨oL7, hf, hoL7⟩ := it_bd hit
          unfold FX10_again_41 at hf
          refine lv_iload_n hx hb dX10_again_41 rfl (lv_at hl 2 rfl) ?_
          refine lv_sipush (v := 800) hx hb dX10_again_42 (by decide) ?_
          refine lv_icmp_ge (tgt := 72) hx hb dX10_again_45 (by decide) (fun c8 => ?_) (fun c8 => ?_)
          · replace hf := if_t hf c8
            cases hf
            exact KL7_0 stL7.2 _ _ _ (it_out hoL7) G (lv_sub hl [0, 1] rfl)
          · replace hf := if_f hf c8
            refine lv_aload_n hx hb dX10_again_48 rfl (lv_at hl 0 rfl) ?_
            refine r_get X inw_X10 G 0 rfl rfl 1 (by decide) fl_X10_13 (v := .ref (aMO 1)) rfl dX10_again_49 ?_
            refine lv_iload_n hx hb dX10_again_52 rfl (lv_at hl 2 rfl) ?_
            refine lv_aload_n hx hb dX10_again_53 rfl (lv_at hl 0 rfl) ?_
            refine r_get X inw_X10 G 0 rfl rfl 0 (by decide) fl_X10_7 (v := .ref (aMO 0)) rfl dX10_again_54 ?_
            refine lv_iload_n hx hb dX10_again_57 rfl (lv_at hl 1 rfl) ?_
            refine lv_sipush (v := 474) hx hb dX10_again_58 (by decide) ?_
            refine lv_iadd hx hb dX10_again_61 ?_
            refine lv_iload_n hx hb dX10_again_62 rfl (lv_at hl 2 rfl) ?_
            refine lv_iadd hx hb dX10_again_63 ?_
            obtain ⟨x9, ex9, hf⟩ := nm_some hf
            refine r_top (congrArg Value.int ex9) ?_
            obtain ⟨h10, hf⟩ := ix_some hf
            refine r_iald X G 1 rfl h10 dX10_again_64 ?_
            obtain ⟨h11, hf⟩ := ix_some hf
            obtain ⟨MO12, eMO12, hf⟩ := nm_some hf
            refine r_iast X G 2 rfl h11 (ws' := kMo k ot aMO (MO12)) (by subst eMO12; rfl) dX10_again_65 (fun H locs G => ?_)
            obtain ⟨x13, ex13, hf⟩ := nm_some hf
            refine lv_iinc (v := x13) (lv' := [(3, .int x13), (0, .ref ot), (2, .int x5)]) hx hb dX10_again_66 hl (k := 2) rfl (by subst ex13; rfl) (by decide) rfl (fun ls hl => ?_)
            refine lv_goto (tgt := 41) hx hb dX10_again_69 (by decide) ?_
            cases hf
            exact ih (x13, MO12) _ _ _ G (lv_sub hl [1, 2, 0] rfl) hoL7
      exact LL7 nL7 ((0 : Int32), r6) _ _ _ G (lv_sub hl [2, 1, 0] rfl) hitL7
    · replace hf := if_t hf c4
      refine lv_iconst (v := 0) hx hb dX10_again_18 (by decide) ?_
      cases hf
      exact e_mz _ rfl X G dX10_again_19
theorem mk_X10_again : MV yX10_again cX10_again 4 (some .boolean) 1 := ⟨co_X10_again, in_X10, im_X10_again, se_X10_again, by decide +kernel, by decide +kernel⟩
