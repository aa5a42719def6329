noncomputable def FX10_firsts_2 (v1 : Int32) : (Int32 × MoT) → Option ((Int32 × MoT) ⊕ (MoT)) := fun stL1 =>
  if (474 : Int32) ≤ stL1.1 then (
    some (.inr stL1.2)
  ) else (
    ix (v1 + stL1.1) 9519 <|
    nm (sMo_all stL1.2 (upd (Mo_all stL1.2) (Int32.toNatClampNeg (v1 + stL1.1)) (0 : Int32))) fun MO4 =>
    nm (stL1.1 + 1) fun x5 =>
    some (.inl (x5, MO4))
  )
noncomputable def FX10_firsts_45 (v1 : Int32) : (Int32 × MoT) → Option ((Int32 × MoT) ⊕ (MoT)) := fun stL10 =>
  if (4 : Int32) ≤ stL10.1 then (
    some (.inr stL10.2)
  ) else (
    ix ((v1 + (3 : Int32)) + stL10.1) 9519 <|
    nm (sMo_all stL10.2 (upd (Mo_all stL10.2) (Int32.toNatClampNeg ((v1 + (3 : Int32)) + stL10.1)) (1 : Int32))) fun MO13 =>
    nm (stL10.1 + 1) fun x14 =>
    some (.inl (x14, MO13))
  )
noncomputable def FX10_firsts_69 (v1 : Int32) : (Int32 × MoT) → Option ((Int32 × MoT) ⊕ (MoT)) := fun stL15 =>
  if (6 : Int32) ≤ stL15.1 then (
    some (.inr stL15.2)
  ) else (
    ix ((v1 + (240 : Int32)) + stL15.1) 9519 <|
    nm (sMo_all stL15.2 (upd (Mo_all stL15.2) (Int32.toNatClampNeg ((v1 + (240 : Int32)) + stL15.1)) (-1 : Int32))) fun MO18 =>
    nm (stL15.1 + 1) fun x19 =>
    some (.inl (x19, MO18))
  )
noncomputable def FX10_firsts (MO : MoT) (v1 : Int32) : Option (MoT) :=
  (itr (FX10_firsts_2 v1) ((0 : Int32), MO)).bind fun uL1 =>
  ix (v1 + (1 : Int32)) 9519 <|
  nm (sMo_all uL1 (upd (Mo_all uL1) (Int32.toNatClampNeg (v1 + (1 : Int32))) (4 : Int32))) fun MO7 =>
  ix (v1 + (2 : Int32)) 9519 <|
  nm (sMo_all MO7 (upd (Mo_all MO7) (Int32.toNatClampNeg (v1 + (2 : Int32))) (6 : Int32))) fun MO9 =>
  (itr (FX10_firsts_45 v1) ((0 : Int32), MO9)).bind fun uL10 =>
  (itr (FX10_firsts_69 v1) ((0 : Int32), uL10)).bind fun uL15 =>
  some uL15
set_option maxHeartbeats 4000000 in
set_option maxRecDepth 100000 in
theorem ctX10_firsts {l : Launch} {D : va_G} {k : Nat → ClassId} {Z : ZT} (hZ : ZOK Z) (ot : Nat) (aMO : Nat → Nat) {MO : MoT} {v1 : Int32} {q : MoT} (hf : FX10_firsts MO v1 = some q) :
    CM l D k Z yX10_firsts cX10_firsts 3 none 0 0 [.ref ot, .int v1] none (kMo k ot aMO (MO)) (kMo k ot aMO (q)) := by
  refine CM.start hZ (by decide) (Nat.le_of_ble_eq_true rfl) ?_
  intro p e s m below meth c ls X hl G
  have hx := X.1
  have hb := X.2.1
  have hl : lv_has ls 3 [(0, .ref ot), (1, .int v1)] := hl
  unfold FX10_firsts at hf
  refine lv_iconst (v := 0) hx hb dX10_firsts_0 (by decide) ?_
  refine lv_istore_n (lv' := [(2, .int (0 : Int32)), (0, .ref ot), (1, .int v1)]) hx hb dX10_firsts_1 rfl hl (by decide) rfl (fun ls hl => ?_)
  obtain ⟨exL1, hitL1, hfL1⟩ := bd_some hf
  obtain ⟨nL1, hitL1⟩ := itr_ex hitL1
  have KL1_0 : ∀ (u : MoT) (H : Heap) (locs : List Loc) (ls : Array Slot), exL1 = u → Wo D (wA (kMo k ot aMO (MO))) s.heap (kMo k ot aMO (u)) H locs → lv_has ls 3 [(0, .ref ot), (1, .int v1)] → W p l e (rmz 0 0) s m [.ref ot, .int v1].toArray below meth c H locs 0 0 (MQ below (Qm D none (kMo k ot aMO (MO)) (kMo k ot aMO (q))) [.ref ot, .int v1].toArray s 0 0 (wA (kMo k ot aMO (MO)))) (F0 m 24 ls []) := by
    intro uL1 H locs ls hex G hl
    rw [hex] at hfL1
    have hf := hfL1
    refine lv_aload_n hx hb dX10_firsts_24 rfl (lv_at hl 0 rfl) ?_
    refine r_get X inw_X10 G 0 rfl rfl 0 (by decide) fl_X10_7 (v := .ref (aMO 0)) rfl dX10_firsts_25 ?_
    refine lv_iload_n hx hb dX10_firsts_28 rfl (lv_at hl 1 rfl) ?_
    refine lv_iconst (v := 1) hx hb dX10_firsts_29 (by decide) ?_
    refine lv_iadd hx hb dX10_firsts_30 ?_
    refine lv_iconst (v := 4) hx hb dX10_firsts_31 (by decide) ?_
    obtain ⟨h6, hf⟩ := ix_some hf
    obtain ⟨MO7, eMO7, hf⟩ := nm_some hf
    refine r_iast X G 1 rfl h6 (ws' := kMo k ot aMO (MO7)) (by subst eMO7; rfl) dX10_firsts_32 (fun H locs G => ?_)
    refine lv_aload_n hx hb dX10_firsts_33 rfl (lv_at hl 0 rfl) ?_
    refine r_get X inw_X10 G 0 rfl rfl 0 (by decide) fl_X10_7 (v := .ref (aMO 0)) rfl dX10_firsts_34 ?_
    refine lv_iload_n hx hb dX10_firsts_37 rfl (lv_at hl 1 rfl) ?_
    refine lv_iconst (v := 2) hx hb dX10_firsts_38 (by decide) ?_
    refine lv_iadd hx hb dX10_firsts_39 ?_
    refine lv_bipush (v := 6) hx hb dX10_firsts_40 (by decide) ?_
    obtain ⟨h8, hf⟩ := ix_some hf
    obtain ⟨MO9, eMO9, hf⟩ := nm_some hf
    refine r_iast X G 1 rfl h8 (ws' := kMo k ot aMO (MO9)) (by subst eMO9; rfl) dX10_firsts_42 (fun H locs G => ?_)
    refine lv_iconst (v := 0) hx hb dX10_firsts_43 (by decide) ?_
    refine lv_istore_n (lv' := [(2, .int (0 : Int32)), (0, .ref ot), (1, .int v1)]) hx hb dX10_firsts_44 rfl hl (by decide) rfl (fun ls hl => ?_)
    obtain ⟨exL10, hitL10, hfL10⟩ := bd_some hf
    obtain ⟨nL10, hitL10⟩ := itr_ex hitL10
    have KL10_0 : ∀ (u : MoT) (H : Heap) (locs : List Loc) (ls : Array Slot), exL10 = u → Wo D (wA (kMo k ot aMO (MO))) s.heap (kMo k ot aMO (u)) H locs → lv_has ls 3 [(0, .ref ot), (1, .int v1)] → W p l e (rmz 0 0) s m [.ref ot, .int v1].toArray below meth c H locs 0 0 (MQ below (Qm D none (kMo k ot aMO (MO)) (kMo k ot aMO (q))) [.ref ot, .int v1].toArray s 0 0 (wA (kMo k ot aMO (MO)))) (F0 m 67 ls []) := by
      intro uL10 H locs ls hex G hl
      rw [hex] at hfL10
      have hf := hfL10
      refine lv_iconst (v := 0) hx hb dX10_firsts_67 (by decide) ?_
      refine lv_istore_n (lv' := [(2, .int (0 : Int32)), (0, .ref ot), (1, .int v1)]) hx hb dX10_firsts_68 rfl hl (by decide) rfl (fun ls hl => ?_)
      obtain ⟨exL15, hitL15, hfL15⟩ := bd_some hf
      obtain ⟨nL15, hitL15⟩ := itr_ex hitL15
      have KL15_0 : ∀ (u : MoT) (H : Heap) (locs : List Loc) (ls : Array Slot), exL15 = u → Wo D (wA (kMo k ot aMO (MO))) s.heap (kMo k ot aMO (u)) H locs → lv_has ls 3 [] → W p l e (rmz 0 0) s m [.ref ot, .int v1].toArray below meth c H locs 0 0 (MQ below (Qm D none (kMo k ot aMO (MO)) (kMo k ot aMO (q))) [.ref ot, .int v1].toArray s 0 0 (wA (kMo k ot aMO (MO)))) (F0 m 94 ls []) := by
        intro uL15 H locs ls hex G hl
        rw [hex] at hfL15
        have hf := hfL15
        cases hf
        exact e_mv X G dX10_firsts_94
      have LL15 : ∀ (n : Nat) (stL15 : Int32 × MoT) (H : Heap) (locs : List Loc) (ls : Array Slot), Wo D (wA (kMo k ot aMO (MO))) s.heap (kMo k ot aMO (stL15.2)) H locs → lv_has ls 3 [(0, .ref ot), (1, .int v1), (2, .int (stL15.1))] → it (FX10_firsts_69 v1) n stL15 = some exL15 → W p l e (rmz 0 0) s m [.ref ot, .int v1].toArray below meth c H locs 0 0 (MQ below (Qm D none (kMo k ot aMO (MO)) (kMo k ot aMO (q))) [.ref ot, .int v1].toArray s 0 0 (wA (kMo k ot aMO (MO)))) (F0 m 69 ls []) := by
        intro n
        induction n with
        | zero =>
          intro stL15 H locs ls G hl hit
          exact (it_zero hit).elim
        | succ n ih =>
          intro stL15 H locs ls G hl hit
          obtain ⟨oL15, hf, hoL15⟩ := it_bd hit
          unfold FX10_firsts_69 at hf
          refine lv_iload_n hx hb dX10_firsts_69 rfl (lv_at hl 2 rfl) ?_
          refine lv_bipush (v := 6) hx hb dX10_firsts_70 (by decide) ?_
          refine lv_icmp_ge (tgt := 94) hx hb dX10_firsts_72 (by decide) (fun c16 => ?_) (fun c16 => ?_)
          · replace hf := if_t hf c16
            cases hf
            exact KL15_0 stL15.2 _ _ _ (it_out hoL15) G (lv_sub hl [] rfl)
          · replace hf := if_f hf c16
            refine lv_aload_n hx hb dX10_firsts_75 rfl (lv_at hl 0 rfl) ?_
            refine r_get X inw_X10 G 0 rfl rfl 0 (by decide) fl_X10_7 (v := .ref (aMO 0)) rfl dX10_firsts_76 ?_
            refine lv_iload_n hx hb dX10_firsts_79 rfl (lv_at hl 1 rfl) ?_
            refine lv_sipush (v := 240) hx hb dX10_firsts_80 (by decide) ?_
            refine lv_iadd hx hb dX10_firsts_83 ?_
            refine lv_iload_n hx hb dX10_firsts_84 rfl (lv_at hl 2 rfl) ?_
            refine lv_iadd hx hb dX10_firsts_85 ?_
            refine lv_iconst (v := -1) hx hb dX10_firsts_86 (by decide) ?_
            obtain ⟨h17, hf⟩ := ix_some hf
            obtain ⟨MO18, eMO18, hf⟩ := nm_some hf
            refine r_iast X G 1 rfl h17 (ws' := kMo k ot aMO (MO18)) (by subst eMO18; rfl) dX10_firsts_87 (fun H locs G => ?_)
            obtain ⟨x19, ex19, hf⟩ := nm_some hf
            refine lv_iinc (v := x19) (lv' := [(2, .int x19), (0, .ref ot), (1, .int v1)]) hx hb dX10_firsts_88 hl (k := 2) rfl (by subst ex19; rfl) (by decide) rfl (fun ls hl => ?_)
            refine lv_goto (tgt := 69) hx hb dX10_firsts_91 (by decide) ?_
            cases hf
            exact ih (x19, MO18) _ _ _ G (lv_sub hl [1, 2, 0] rfl) hoL15
      exact LL15 nL15 ((0 : Int32), uL10) _ _ _ G (lv_sub hl [1, 2, 0] rfl) hitL15
    have LL10 : ∀ (n : Nat) (stL10 : Int32 × MoT) (H : Heap) (locs : List Loc) (ls : Array Slot), Wo D (wA (kMo k ot aMO (MO))) s.heap (kMo k ot aMO (stL10.2)) H locs → lv_has ls 3 [(0, .ref ot), (1, .int v1), (2, .int (stL10.1))] → it (FX10_firsts_45 v1) n stL10 = some exL10 → W p l e (rmz 0 0) s m [.ref ot, .int v1].toArray below meth c H locs 0 0 (MQ below (Qm D none (kMo k ot aMO (MO)) (kMo k ot aMO (q))) [.ref ot, .int v1].toArray s 0 0 (wA (kMo k ot aMO (MO)))) (F0 m 45 ls []) := by
      intro n
      induction n with
      | zero =>
        intro stL10 H locs ls G hl hit
        exact (it_zero hit).elim
      | succ n ih =>
        intro stL10 H locs ls G hl hit
        obtain ⟨oL10, hf, hoL10⟩ := it_bd hit
        unfold FX10_firsts_45 at hf
        refine lv_iload_n hx hb dX10_firsts_45 rfl (lv_at hl 2 rfl) ?_
        refine lv_iconst (v := 4) hx hb dX10_firsts_46 (by decide) ?_
        refine lv_icmp_ge (tgt := 67) hx hb dX10_firsts_47 (by decide) (fun c11 => ?_) (fun c11 => ?_)
        · replace hf := if_t hf c11
          cases hf
          exact KL10_0 stL10.2 _ _ _ (it_out hoL10) G (lv_sub hl [0, 1] rfl)
        · replace hf := if_f hf c11
          refine lv_aload_n hx hb dX10_firsts_50 rfl (lv_at hl 0 rfl) ?_
          refine r_get X inw_X10 G 0 rfl rfl 0 (by decide) fl_X10_7 (v := .ref (aMO 0)) rfl dX10_firsts_51 ?_
          refine lv_iload_n hx hb dX10_firsts_54 rfl (lv_at hl 1 rfl) ?_
          refine lv_iconst (v := 3) hx hb dX10_firsts_55 (by decide) ?_
          refine lv_iadd hx hb dX10_firsts_56 ?_
          refine lv_iload_n hx hb dX10_firsts_57 rfl (lv_at hl 2 rfl) ?_
          refine lv_iadd hx hb dX10_firsts_58 ?_
          refine lv_iconst (v := 1) hx hb dX10_firsts_59 (by decide) ?_
          obtain ⟨h12, hf⟩ := ix_some hf
          obtain ⟨MO13, eMO13, hf⟩ := nm_some hf
          refine r_iast X G 1 rfl h12 (ws' := kMo k ot aMO (MO13)) (by subst eMO13; rfl) dX10_firsts_60 (fun H locs G => ?_)
          obtain ⟨x14, ex14, hf⟩ := nm_some hf
          refine lv_iinc (v := x14) (lv' := [(2, .int x14), (0, .ref ot), (1, .int v1)]) hx hb dX10_firsts_61 hl (k := 2) rfl (by subst ex14; rfl) (by decide) rfl (fun ls hl => ?_)
          refine lv_goto (tgt := 45) hx hb dX10_firsts_64 (by decide) ?_
          cases hf
          exact ih (x14, MO13) _ _ _ G (lv_sub hl [1, 2, 0] rfl) hoL10
    exact LL10 nL10 ((0 : Int32), MO9) _ _ _ G (lv_sub hl [1, 2, 0] rfl) hitL10
  have LL1 : ∀ (n : Nat) (stL1 : Int32 × MoT) (H : Heap) (locs : List Loc) (ls : Array Slot), Wo D (wA (kMo k ot aMO (MO))) s.heap (kMo k ot aMO (stL1.2)) H locs → lv_has ls 3 [(0, .ref ot), (1, .int v1), (2, .int (stL1.1))] → it (FX10_firsts_2 v1) n stL1 = some exL1 → W p l e (rmz 0 0) s m [.ref ot, .int v1].toArray below meth c H locs 0 0 (MQ below (Qm D none (kMo k ot aMO (MO)) (kMo k ot aMO (q))) [.ref ot, .int v1].toArray s 0 0 (wA (kMo k ot aMO (MO)))) (F0 m 2 ls []) := by
    intro n
    induction n with
    | zero =>
      intro stL1 H locs ls G hl hit
      exact (it_zero hit).elim
    | succ n ih =>
      intro stL1 H locs ls G hl hit
      obtain ⟨oL1, hf, hoL1⟩ := it_bd hit
      unfold FX10_firsts_2 at hf
      refine lv_iload_n hx hb dX10_firsts_2 rfl (lv_at hl 2 rfl) ?_
      refine lv_sipush (v := 474) hx hb dX10_firsts_3 (by decide) ?_
      refine lv_icmp_ge (tgt := 24) hx hb dX10_firsts_6 (by decide) (fun c2 => ?_) (fun c2 => ?_)
      · replace hf := if_t hf c2
        cases hf
        exact KL1_0 stL1.2 _ _ _ (it_out hoL1) G (lv_sub hl [0, 1] rfl)
      · replace hf := if_f hf c2
        refine lv_aload_n hx hb dX10_firsts_9 rfl (lv_at hl 0 rfl) ?_
        refine r_get X inw_X10 G 0 rfl rfl 0 (by decide) fl_X10_7 (v := .ref (aMO 0)) rfl dX10_firsts_10 ?_
        refine lv_iload_n hx hb dX10_firsts_13 rfl (lv_at hl 1 rfl) ?_
        refine lv_iload_n hx hb dX10_firsts_14 rfl (lv_at hl 2 rfl) ?_
        refine lv_iadd hx hb dX10_firsts_15 ?_
        refine lv_iconst (v := 0) hx hb dX10_firsts_16 (by decide) ?_
        obtain ⟨h3, hf⟩ := ix_some hf
        obtain ⟨MO4, eMO4, hf⟩ := nm_some hf
        refine r_iast X G 1 rfl h3 (ws' := kMo k ot aMO (MO4)) (by subst eMO4; rfl) dX10_firsts_17 (fun H locs G => ?_)
        obtain ⟨x5, ex5, hf⟩ := nm_some hf
        refine lv_iinc (v := x5) (lv' := [(2, .int x5), (0, .ref ot), (1, .int v1)]) hx hb dX10_firsts_18 hl (k := 2) rfl (by subst ex5; rfl) (by decide) rfl (fun ls hl => ?_)
        refine lv_goto (tgt := 2) hx hb dX10_firsts_21 (by decide) ?_
        cases hf
        exact ih (x5, MO4) _ _ _ G (lv_sub hl [1, 2, 0] rfl) hoL1
  exact LL1 nL1 ((0 : Int32), MO) _ _ _ G (lv_sub hl [1, 2, 0] rfl) hitL1
theorem mk_X10_firsts : MV yX10_firsts cX10_firsts 3 none 1 := ⟨co_X10_firsts, in_X10, im_X10_firsts, se_X10_firsts, by decide +kernel, by decide +kernel⟩
noncomputable def FX10_isIn (v1 : Int32) (v2 : Int32) (v3 : Int32) : Option (Bool) :=
  if v1 < v2 then (
    some false
  ) else (
    if v3 < v1 then (
      some false
    ) else (
      some true
    )
  )
set_option maxHeartbeats 4000000 in
set_option maxRecDepth 100000 in
theorem ctX10_isIn {l : Launch} {D : va_G} {k : Nat → ClassId} {Z : ZT} (hZ : ZOK Z)  {v1 : Int32} {v2 : Int32} {v3 : Int32} {q : Bool} (hf : FX10_isIn v1 v2 v3 = some q) :
    CR l D k Z yX10_isIn cX10_isIn 3 (some .boolean) 0 0 [.int v1, .int v2, .int v3] (some (.int (bI q))) ([]) := by
  refine CR.start hZ (by decide) (Nat.le_of_ble_eq_true rfl) ?_
  intro p e s m below meth c ls X hl G
  have hx := X.1
  have hb := X.2.1
  have hl : lv_has ls 3 [(0, .int v1), (1, .int v2), (2, .int v3)] := hl
  unfold FX10_isIn at hf
  refine lv_iload_n hx hb dX10_isIn_0 rfl (lv_at hl 0 rfl) ?_
  refine lv_iload_n hx hb dX10_isIn_1 rfl (lv_at hl 1 rfl) ?_
  refine lv_icmp_lt (tgt := 14) hx hb dX10_isIn_2 (by decide) (fun c1 => ?_) (fun c1 => ?_)
  · replace hf := if_t hf c1
    refine lv_iconst (v := 0) hx hb dX10_isIn_14 (by decide) ?_
    cases hf
    exact e_rz _ rfl X dX10_isIn_15
  · replace hf := if_f hf c1
    refine lv_iload_n hx hb dX10_isIn_5 rfl (lv_at hl 0 rfl) ?_
    refine lv_iload_n hx hb dX10_isIn_6 rfl (lv_at hl 2 rfl) ?_
    refine lv_icmp_gt (tgt := 14) hx hb dX10_isIn_7 (by decide) (fun c2 => ?_) (fun c2 => ?_)
    · replace hf := if_t hf c2
      refine lv_iconst (v := 0) hx hb dX10_isIn_14 (by decide) ?_
      cases hf
      exact e_rz _ rfl X dX10_isIn_15
    · replace hf := if_f hf c2
      refine lv_iconst (v := 1) hx hb dX10_isIn_10 (by decide) ?_
      refine lv_goto (tgt := 15) hx hb dX10_isIn_11 (by decide) ?_
      cases hf
      exact e_rz _ rfl X dX10_isIn_15
theorem mk_X10_isIn : MS yX10_isIn cX10_isIn 3 (some .boolean) 3 := ⟨co_X10_isIn, in_X10, st_X10_isIn, trivial, by decide +kernel, by decide +kernel⟩
noncomputable def FX10_has (v1 : Int32) (v2 : Int32) : Option (Bool) :=
  if ((v1 >>> (v2 &&& 31)) &&& (1 : Int32)) = (1 : Int32) then (
    some true
  ) else (
    some false
  )
set_option maxHeartbeats 4000000 in
set_option maxRecDepth 100000 in
theorem ctX10_has {l : Launch} {D : va_G} {k : Nat → ClassId} {Z : ZT} (hZ : ZOK Z)  {v1 : Int32} {v2 : Int32} {q : Bool} (hf : FX10_has v1 v2 = some q) :
    CR l D k Z yX10_has cX10_has 2 (some .boolean) 0 0 [.int v1, .int v2] (some (.int (bI q))) ([]) := by
  refine CR.start hZ (by decide) (Nat.le_of_ble_eq_true rfl) ?_
  intro p e s m below meth c ls X hl G
  have hx := X.1
  have hb := X.2.1
  have hl : lv_has ls 2 [(0, .int v1), (1, .int v2)] := hl
  unfold FX10_has at hf
  refine lv_iload_n hx hb dX10_has_0 rfl (lv_at hl 0 rfl) ?_
  refine lv_iload_n hx hb dX10_has_1 rfl (lv_at hl 1 rfl) ?_
  refine lv_ishr hx hb dX10_has_2 ?_
  refine lv_iconst (v := 1) hx hb dX10_has_3 (by decide) ?_
  refine lv_iand hx hb dX10_has_4 ?_
  refine lv_iconst (v := 1) hx hb dX10_has_5 (by decide) ?_
  refine lv_icmp_ne (tgt := 13) hx hb dX10_has_6 (by decide) (fun c1 => ?_) (fun c1 => ?_)
  · replace hf := if_f hf c1
    refine lv_iconst (v := 0) hx hb dX10_has_13 (by decide) ?_
    cases hf
    exact e_rz _ rfl X dX10_has_14
  · replace hf := if_t hf c1
    refine lv_iconst (v := 1) hx hb dX10_has_9 (by decide) ?_
    refine lv_goto (tgt := 14) hx hb dX10_has_10 (by decide) ?_
    cases hf
    exact e_rz _ rfl X dX10_has_14
theorem mk_X10_has : MS yX10_has cX10_has 2 (some .boolean) 2 := ⟨co_X10_has, in_X10, st_X10_has, trivial, by decide +kernel, by decide +kernel⟩
noncomputable def FX10_copies_3 (v1 : Int32) (v2 : Int32) (v3 : Int32) : (Int32 × MoT) → Option ((Int32 × MoT) ⊕ (MoT)) := fun stL1 =>
  if v3 ≤ stL1.1 then (
    some (.inr stL1.2)
  ) else (
    nm (v1 + stL1.1) fun x3 =>
    ix x3 9519 <|
    ix (v2 + stL1.1) 9519 <|
    nm (sMo_all stL1.2 (upd (Mo_all stL1.2) (Int32.toNatClampNeg (v2 + stL1.1)) (Mo_all stL1.2 (Int32.toNatClampNeg x3)))) fun MO6 =>
    nm (stL1.1 + 1) fun x7 =>
    some (.inl (x7, MO6))
  )
noncomputable def FX10_copies (MO : MoT) (v1 : Int32) (v2 : Int32) (v3 : Int32) : Option (MoT) :=
  (itr (FX10_copies_3 v1 v2 v3) ((0 : Int32), MO)).bind fun uL1 =>
  some uL1
set_option maxHeartbeats 4000000 in
set_option maxRecDepth 100000 in
theorem ctX10_copies {l : Launch} {D : va_G} {k : Nat → ClassId} {Z : ZT} (hZ : ZOK Z) (ot : Nat) (aMO : Nat → Nat) {MO : MoT} {v1 : Int32} {v2 : Int32} {v3 : Int32} {q : MoT} (hf : FX10_copies MO v1 v2 v3 = some q) :
    CM l D k Z yX10_copies cX10_copies 5 none 0 0 [.ref ot, .int v1, .int v2, .int v3] none (kMo k ot aMO (MO)) (kMo k ot aMO (q)) := by
  refine CM.start hZ (by decide) (Nat.le_of_ble_eq_true rfl) ?_
  intro p e s m below meth c ls X hl G
  have hx := X.1
  have hb := X.2.1
  have hl : lv_has ls 5 [(0, .ref ot), (1, .int v1), (2, .int v2), (3, .int v3)] := hl
  unfold FX10_copies at hf
  refine lv_iconst (v := 0) hx hb dX10_copies_0 (by decide) ?_
  refine lv_istore (lv' := [(4, .int (0 : Int32)), (0, .ref ot), (1, .int v1), (2, .int v2), (3, .int v3)]) hx hb dX10_copies_1 hl (by decide) rfl (fun ls hl => ?_)
  obtain ⟨exL1, hitL1, hfL1⟩ := bd_some hf
  obtain ⟨nL1, hitL1⟩ := itr_ex hitL1
  have KL1_0 : ∀ (u : MoT) (H : Heap) (locs : List Loc) (ls : Array Slot), exL1 = u → Wo D (wA (kMo k ot aMO (MO))) s.heap (kMo k ot aMO (u)) H locs → lv_has ls 5 [] → W p l e (rmz 0 0) s m [.ref ot, .int v1, .int v2, .int v3].toArray below meth c H locs 0 0 (MQ below (Qm D none (kMo k ot aMO (MO)) (kMo k ot aMO (q))) [.ref ot, .int v1, .int v2, .int v3].toArray s 0 0 (wA (kMo k ot aMO (MO)))) (F0 m 33 ls []) := by
    intro uL1 H locs ls hex G hl
    rw [hex] at hfL1
    have hf := hfL1
    cases hf
    exact e_mv X G dX10_copies_33
  have LL1 : ∀ (n : Nat) (stL1 : Int32 × MoT) (H : Heap) (locs : List Loc) (ls : Array Slot), Wo D (wA (kMo k ot aMO (MO))) s.heap (kMo k ot aMO (stL1.2)) H locs → lv_has ls 5 [(0, .ref ot), (1, .int v1), (2, .int v2), (3, .int v3), (4, .int (stL1.1))] → it (FX10_copies_3 v1 v2 v3) n stL1 = some exL1 → W p l e (rmz 0 0) s m [.ref ot, .int v1, .int v2, .int v3].toArray below meth c H locs 0 0 (MQ below (Qm D none (kMo k ot aMO (MO)) (kMo k ot aMO (q))) [.ref ot, .int v1, .int v2, .int v3].toArray s 0 0 (wA (kMo k ot aMO (MO)))) (F0 m 3 ls []) := by
    intro n
    induction n with
    | zero =>
      intro stL1 H locs ls G hl hit
      exact (it_zero hit).elim
    | succ n ih =>
      intro stL1 H locs ls G hl hit
      obtain ⟨oL1, hf, hoL1⟩ := it_bd hit
      unfold FX10_copies_3 at hf
      refine lv_iload hx hb dX10_copies_3 (lv_at hl 4 rfl) ?_
      refine lv_iload_n hx hb dX10_copies_5 rfl (lv_at hl 3 rfl) ?_
      refine lv_icmp_ge (tgt := 33) hx hb dX10_copies_6 (by decide) (fun c2 => ?_) (fun c2 => ?_)
      · replace hf := if_t hf c2
        cases hf
        exact KL1_0 stL1.2 _ _ _ (it_out hoL1) G (lv_sub hl [] rfl)
      · replace hf := if_f hf c2
        refine lv_aload_n hx hb dX10_copies_9 rfl (lv_at hl 0 rfl) ?_
        refine r_get X inw_X10 G 0 rfl rfl 0 (by decide) fl_X10_7 (v := .ref (aMO 0)) rfl dX10_copies_10 ?_
        refine lv_iload_n hx hb dX10_copies_13 rfl (lv_at hl 2 rfl) ?_
        refine lv_iload hx hb dX10_copies_14 (lv_at hl 4 rfl) ?_
        refine lv_iadd hx hb dX10_copies_16 ?_
        refine lv_aload_n hx hb dX10_copies_17 rfl (lv_at hl 0 rfl) ?_
        refine r_get X inw_X10 G 0 rfl rfl 0 (by decide) fl_X10_7 (v := .ref (aMO 0)) rfl dX10_copies_18 ?_
        refine lv_iload_n hx hb dX10_copies_21 rfl (lv_at hl 1 rfl) ?_
        refine lv_iload hx hb dX10_copies_22 (lv_at hl 4 rfl) ?_
        refine lv_iadd hx hb dX10_copies_24 ?_
        obtain ⟨x3, ex3, hf⟩ := nm_some hf
        refine r_top (congrArg Value.int ex3) ?_
        obtain ⟨h4, hf⟩ := ix_some hf
        refine r_iald X G 1 rfl h4 dX10_copies_25 ?_
        obtain ⟨h5, hf⟩ := ix_some hf
        obtain ⟨MO6, eMO6, hf⟩ := nm_some hf
        refine r_iast X G 1 rfl h5 (ws' := kMo k ot aMO (MO6)) (by subst eMO6; rfl) dX10_copies_26 (fun H locs G => ?_)
        obtain ⟨x7, ex7, hf⟩ := nm_some hf
        refine lv_iinc (v := x7) (lv' := [(4, .int x7), (0, .ref ot), (1, .int v1), (2, .int v2), (3, .int v3)]) hx hb dX10_copies_27 hl (k := 4) rfl (by subst ex7; rfl) (by decide) rfl (fun ls hl => ?_)
        refine lv_goto (tgt := 3) hx hb dX10_copies_30 (by decide) ?_
        cases hf
        exact ih (x7, MO6) _ _ _ G (lv_sub hl [1, 2, 3, 4, 0] rfl) hoL1
  exact LL1 nL1 ((0 : Int32), MO) _ _ _ G (lv_sub hl [1, 2, 3, 4, 0] rfl) hitL1
theorem mk_X10_copies : MV yX10_copies cX10_copies 5 none 3 := ⟨co_X10_copies, in_X10, im_X10_copies, se_X10_copies, by decide +kernel, by decide +kernel⟩
noncomputable def FX10_workers (MO : MoT) : Option (Int32) :=
  nm ((Mo_b MO) + (0 : Int32)) fun x1 =>
  ix x1 9519 <|
  some (Mo_all MO (Int32.toNatClampNeg x1))
set_option maxHeartbeats 4000000 in
set_option maxRecDepth 100000 in
theorem ctX10_workers {l : Launch} {D : va_G} {k : Nat → ClassId} {Z : ZT} (hZ : ZOK Z) (ot : Nat) (aMO : Nat → Nat) {MO : MoT} {q : Int32} (hf : FX10_workers MO = some q) :
    CR l D k Z yX10_workers cX10_workers 1 (some .int) 0 0 [.ref ot] (some (.int q)) (kMo k ot aMO (MO)) := by
  refine CR.start hZ (by decide) (Nat.le_of_ble_eq_true rfl) ?_
  intro p e s m below meth c ls X hl G
  have hx := X.1
  have hb := X.2.1
  have hl : lv_has ls 1 [(0, .ref ot)] := hl
  unfold FX10_workers at hf
  refine lv_aload_n hx hb dX10_workers_0 rfl (lv_at hl 0 rfl) ?_
  refine r_get X inw_X10 G 0 rfl rfl 0 (by decide) fl_X10_7 (v := .ref (aMO 0)) rfl dX10_workers_1 ?_
  refine lv_aload_n hx hb dX10_workers_4 rfl (lv_at hl 0 rfl) ?_
  refine r_get X inw_X10 G 0 rfl rfl 7 (by decide) fl_X10_40 (v := .int (Mo_b MO)) rfl dX10_workers_5 ?_
  refine lv_iconst (v := 0) hx hb dX10_workers_8 (by decide) ?_
  refine lv_iadd hx hb dX10_workers_9 ?_
  obtain ⟨x1, ex1, hf⟩ := nm_some hf
  refine r_top (congrArg Value.int ex1) ?_
  obtain ⟨h2, hf⟩ := ix_some hf
  refine r_iald X G 1 rfl h2 dX10_workers_10 ?_
  cases hf
  exact e_ri X dX10_workers_11
theorem mk_X10_workers : MV yX10_workers cX10_workers 1 (some .int) 0 := ⟨co_X10_workers, in_X10, im_X10_workers, se_X10_workers, by decide +kernel, by decide +kernel⟩
noncomputable def FX10_isWorker (MO : MoT) (v1 : Int32) : Option (Bool) :=
  (FX10_workers MO).bind fun r1 =>
  (FX10_isIn v1 (0 : Int32) (r1 - (1 : Int32))).bind fun r2 =>
  some r2
set_option maxHeartbeats 4000000 in
set_option maxRecDepth 100000 in
theorem ctX10_isWorker {l : Launch} {D : va_G} {k : Nat → ClassId} {Z : ZT} (hZ : ZOK Z) (ot : Nat) (aMO : Nat → Nat) {MO : MoT} {v1 : Int32} {q : Bool} (hf : FX10_isWorker MO v1 = some q) :
    CR l D k Z yX10_isWorker cX10_isWorker 2 (some .boolean) 1 22 [.ref ot, .int v1] (some (.int (bI q))) (kMo k ot aMO (MO)) := by
  refine CR.start hZ (by decide) (Nat.le_of_ble_eq_true rfl) ?_
  intro p e s m below meth c ls X hl G
  have hx := X.1
  have hb := X.2.1
  have hl : lv_has ls 2 [(0, .ref ot), (1, .int v1)] := hl
  unfold FX10_isWorker at hf
  refine lv_iload_n hx hb dX10_isWorker_0 rfl (lv_at hl 1 rfl) ?_
  refine lv_iconst (v := 0) hx hb dX10_isWorker_1 (by decide) ?_
  refine lv_aload_n hx hb dX10_isWorker_2 rfl (lv_at hl 0 rfl) ?_
  obtain ⟨r1, hcr1, hf⟩ := bd_some hf
  refine p_R (st1 := [.int r1, .int (0 : Int32), .int v1]) (run_V (rest := [.int (0 : Int32), .int v1]) X (ctX10_workers hZ ot aMO hcr1) mk_X10_workers ml_X10_43 ⟨(Nat.le_of_ble_eq_true rfl), (Nat.le_of_ble_eq_true rfl)⟩ G [0, 1, 2, 3, 4, 5, 6, 7] rfl rfl 0 rfl rfl rfl hl.1 rfl (Nat.le_of_ble_eq_true rfl) dX10_isWorker_3 ⟨Nat.zero_le _, Nat.zero_le _⟩) rfl ?_
  refine lv_iconst (v := 1) hx hb dX10_isWorker_6 (by decide) ?_
  refine lv_isub hx hb dX10_isWorker_7 ?_
  obtain ⟨r2, hcr2, hf⟩ := bd_some hf
  refine p_R (st1 := [.int (bI r2)]) (run_S (rest := []) X (ctX10_isIn hZ hcr2) mk_X10_isIn ml_X10_47 ⟨(Nat.le_of_ble_eq_true rfl), (Nat.le_of_ble_eq_true rfl)⟩ G [] rfl rfl rfl hl.1 rfl (Nat.le_of_ble_eq_true rfl) dX10_isWorker_8 ⟨Nat.zero_le _, Nat.zero_le _⟩) rfl ?_
  cases hf
  exact e_rz _ rfl X dX10_isWorker_11
theorem mk_X10_isWorker : MV yX10_isWorker cX10_isWorker 2 (some .boolean) 1 := ⟨co_X10_isWorker, in_X10, im_X10_isWorker, se_X10_isWorker, by decide +kernel, by decide +kernel⟩
noncomputable def FX10_place (MO : MoT) (v1 : Int32) : Option (Int32) :=
  nm (((Mo_b MO) + (208 : Int32)) + v1) fun x1 =>
  ix x1 9519 <|
  some (Mo_all MO (Int32.toNatClampNeg x1))
set_option maxHeartbeats 4000000 in
set_option maxRecDepth 100000 in
theorem ctX10_place {l : Launch} {D : va_G} {k : Nat → ClassId} {Z : ZT} (hZ : ZOK Z) (ot : Nat) (aMO : Nat → Nat) {MO : MoT} {v1 : Int32} {q : Int32} (hf : FX10_place MO v1 = some q) :
    CR l D k Z yX10_place cX10_place 2 (some .int) 0 0 [.ref ot, .int v1] (some (.int q)) (kMo k ot aMO (MO)) := by
  refine CR.start hZ (by decide) (Nat.le_of_ble_eq_true rfl) ?_
  intro p e s m below meth c ls X hl G
  have hx := X.1
  have hb := X.2.1
  have hl : lv_has ls 2 [(0, .ref ot), (1, .int v1)] := hl
  unfold FX10_place at hf
  refine lv_aload_n hx hb dX10_place_0 rfl (lv_at hl 0 rfl) ?_
  refine r_get X inw_X10 G 0 rfl rfl 0 (by decide) fl_X10_7 (v := .ref (aMO 0)) rfl dX10_place_1 ?_
  refine lv_aload_n hx hb dX10_place_4 rfl (lv_at hl 0 rfl) ?_
  refine r_get X inw_X10 G 0 rfl rfl 7 (by decide) fl_X10_40 (v := .int (Mo_b MO)) rfl dX10_place_5 ?_
  refine lv_sipush (v := 208) hx hb dX10_place_8 (by decide) ?_
  refine lv_iadd hx hb dX10_place_11 ?_
  refine lv_iload_n hx hb dX10_place_12 rfl (lv_at hl 1 rfl) ?_
  refine lv_iadd hx hb dX10_place_13 ?_
  obtain ⟨x1, ex1, hf⟩ := nm_some hf
  refine r_top (congrArg Value.int ex1) ?_
  obtain ⟨h2, hf⟩ := ix_some hf
  refine r_iald X G 1 rfl h2 dX10_place_14 ?_
  cases hf
  exact e_ri X dX10_place_15
theorem mk_X10_place : MV yX10_place cX10_place 2 (some .int) 1 := ⟨co_X10_place, in_X10, im_X10_place, se_X10_place, by decide +kernel, by decide +kernel⟩
noncomputable def FX10_isEnded (MO : MoT) (v1 : Int32) : Option (Bool) :=
  (FX10_place MO v1).bind fun r1 =>
  if r1 = (-1 : Int32) then (
    some true
  ) else (
    some false
  )
set_option maxHeartbeats 4000000 in
set_option maxRecDepth 100000 in
theorem ctX10_isEnded {l : Launch} {D : va_G} {k : Nat → ClassId} {Z : ZT} (hZ : ZOK Z) (ot : Nat) (aMO : Nat → Nat) {MO : MoT} {v1 : Int32} {q : Bool} (hf : FX10_isEnded MO v1 = some q) :
    CR l D k Z yX10_isEnded cX10_isEnded 2 (some .boolean) 1 21 [.ref ot, .int v1] (some (.int (bI q))) (kMo k ot aMO (MO)) := by
  refine CR.start hZ (by decide) (Nat.le_of_ble_eq_true rfl) ?_
  intro p e s m below meth c ls X hl G
  have hx := X.1
  have hb := X.2.1
  have hl : lv_has ls 2 [(0, .ref ot), (1, .int v1)] := hl
  unfold FX10_isEnded at hf
  refine lv_aload_n hx hb dX10_isEnded_0 rfl (lv_at hl 0 rfl) ?_
  refine lv_iload_n hx hb dX10_isEnded_1 rfl (lv_at hl 1 rfl) ?_
  obtain ⟨r1, hcr1, hf⟩ := bd_some hf
  refine p_R (st1 := [.int r1]) (run_V (rest := []) X (ctX10_place hZ ot aMO hcr1) mk_X10_place ml_X10_51 ⟨(Nat.le_of_ble_eq_true rfl), (Nat.le_of_ble_eq_true rfl)⟩ G [0, 1, 2, 3, 4, 5, 6, 7] rfl rfl 0 rfl rfl rfl hl.1 rfl (Nat.le_of_ble_eq_true rfl) dX10_isEnded_2 ⟨Nat.zero_le _, Nat.zero_le _⟩) rfl ?_
  refine lv_iconst (v := -1) hx hb dX10_isEnded_5 (by decide) ?_
  refine lv_icmp_ne (tgt := 13) hx hb dX10_isEnded_6 (by decide) (fun c2 => ?_) (fun c2 => ?_)
  · replace hf := if_f hf c2
    refine lv_iconst (v := 0) hx hb dX10_isEnded_13 (by decide) ?_
    cases hf
    exact e_rz _ rfl X dX10_isEnded_14
  · replace hf := if_t hf c2
    refine lv_iconst (v := 1) hx hb dX10_isEnded_9 (by decide) ?_
    refine lv_goto (tgt := 14) hx hb dX10_isEnded_10 (by decide) ?_
    cases hf
    exact e_rz _ rfl X dX10_isEnded_14
theorem mk_X10_isEnded : MV yX10_isEnded cX10_isEnded 2 (some .boolean) 1 := ⟨co_X10_isEnded, in_X10, im_X10_isEnded, se_X10_isEnded, by decide +kernel, by decide +kernel⟩
noncomputable def FX10_sort (MO : MoT) (v1 : Int32) (v2 : Int32) : Option (Int32) :=
  nm ((((Mo_b MO) + (15 : Int32)) + ((12 : Int32) * v1)) + v2) fun x1 =>
  ix x1 9519 <|
  some (Mo_all MO (Int32.toNatClampNeg x1))
set_option maxHeartbeats 4000000 in
set_option maxRecDepth 100000 in
theorem ctX10_sort {l : Launch} {D : va_G} {k : Nat → ClassId} {Z : ZT} (hZ : ZOK Z) (ot : Nat) (aMO : Nat → Nat) {MO : MoT} {v1 : Int32} {v2 : Int32} {q : Int32} (hf : FX10_sort MO v1 v2 = some q) :
    CR l D k Z yX10_sort cX10_sort 3 (some .int) 0 0 [.ref ot, .int v1, .int v2] (some (.int q)) (kMo k ot aMO (MO)) := by
  refine CR.start hZ (by decide) (Nat.le_of_ble_eq_true rfl) ?_
  intro p e s m below meth c ls X hl G
  have hx := X.1
  have hb := X.2.1
  have hl : lv_has ls 3 [(0, .ref ot), (1, .int v1), (2, .int v2)] := hl
  unfold FX10_sort at hf
  refine lv_aload_n hx hb dX10_sort_0 rfl (lv_at hl 0 rfl) ?_
  refine r_get X inw_X10 G 0 rfl rfl 0 (by decide) fl_X10_7 (v := .ref (aMO 0)) rfl dX10_sort_1 ?_
  refine lv_aload_n hx hb dX10_sort_4 rfl (lv_at hl 0 rfl) ?_
  refine r_get X inw_X10 G 0 rfl rfl 7 (by decide) fl_X10_40 (v := .int (Mo_b MO)) rfl dX10_sort_5 ?_
  refine lv_bipush (v := 15) hx hb dX10_sort_8 (by decide) ?_
  refine lv_iadd hx hb dX10_sort_10 ?_
  refine lv_bipush (v := 12) hx hb dX10_sort_11 (by decide) ?_
  refine lv_iload_n hx hb dX10_sort_13 rfl (lv_at hl 1 rfl) ?_
  refine lv_imul hx hb dX10_sort_14 ?_
  refine lv_iadd hx hb dX10_sort_15 ?_
  refine lv_iload_n hx hb dX10_sort_16 rfl (lv_at hl 2 rfl) ?_
  refine lv_iadd hx hb dX10_sort_17 ?_
  obtain ⟨x1, ex1, hf⟩ := nm_some hf
  refine r_top (congrArg Value.int ex1) ?_
  obtain ⟨h2, hf⟩ := ix_some hf
  refine r_iald X G 1 rfl h2 dX10_sort_18 ?_
  cases hf
  exact e_ri X dX10_sort_19
theorem mk_X10_sort : MV yX10_sort cX10_sort 3 (some .int) 2 := ⟨co_X10_sort, in_X10, im_X10_sort, se_X10_sort, by decide +kernel, by decide +kernel⟩
noncomputable def FX10_number (MO : MoT) (v1 : Int32) (v2 : Int32) : Option (Int32) :=
  nm ((((Mo_b MO) + (111 : Int32)) + ((12 : Int32) * v1)) + v2) fun x1 =>
  ix x1 9519 <|
  some (Mo_all MO (Int32.toNatClampNeg x1))
set_option maxHeartbeats 4000000 in
set_option maxRecDepth 100000 in
theorem ctX10_number {l : Launch} {D : va_G} {k : Nat → ClassId} {Z : ZT} (hZ : ZOK Z) (ot : Nat) (aMO : Nat → Nat) {MO : MoT} {v1 : Int32} {v2 : Int32} {q : Int32} (hf : FX10_number MO v1 v2 = some q) :
    CR l D k Z yX10_number cX10_number 3 (some .int) 0 0 [.ref ot, .int v1, .int v2] (some (.int q)) (kMo k ot aMO (MO)) := by
  refine CR.start hZ (by decide) (Nat.le_of_ble_eq_true rfl) ?_
  intro p e s m below meth c ls X hl G
  have hx := X.1
  have hb := X.2.1
  have hl : lv_has ls 3 [(0, .ref ot), (1, .int v1), (2, .int v2)] := hl
  unfold FX10_number at hf
  refine lv_aload_n hx hb dX10_number_0 rfl (lv_at hl 0 rfl) ?_
  refine r_get X inw_X10 G 0 rfl rfl 0 (by decide) fl_X10_7 (v := .ref (aMO 0)) rfl dX10_number_1 ?_
  refine lv_aload_n hx hb dX10_number_4 rfl (lv_at hl 0 rfl) ?_
  refine r_get X inw_X10 G 0 rfl rfl 7 (by decide) fl_X10_40 (v := .int (Mo_b MO)) rfl dX10_number_5 ?_
  refine lv_bipush (v := 111) hx hb dX10_number_8 (by decide) ?_
  refine lv_iadd hx hb dX10_number_10 ?_
  refine lv_bipush (v := 12) hx hb dX10_number_11 (by decide) ?_
  refine lv_iload_n hx hb dX10_number_13 rfl (lv_at hl 1 rfl) ?_
  refine lv_imul hx hb dX10_number_14 ?_
  refine lv_iadd hx hb dX10_number_15 ?_
  refine lv_iload_n hx hb dX10_number_16 rfl (lv_at hl 2 rfl) ?_
  refine lv_iadd hx hb dX10_number_17 ?_
  obtain ⟨x1, ex1, hf⟩ := nm_some hf
  refine r_top (congrArg Value.int ex1) ?_
  obtain ⟨h2, hf⟩ := ix_some hf
  refine r_iald X G 1 rfl h2 dX10_number_18 ?_
  cases hf
  exact e_ri X dX10_number_19
theorem mk_X10_number : MV yX10_number cX10_number 3 (some .int) 2 := ⟨co_X10_number, in_X10, im_X10_number, se_X10_number, by decide +kernel, by decide +kernel⟩
noncomputable def FX10_sortNow (MO : MoT) (v1 : Int32) : Option (Int32) :=
  (FX10_place MO v1).bind fun r1 =>
  (FX10_sort MO v1 r1).bind fun r2 =>
  some r2
set_option maxHeartbeats 4000000 in
set_option maxRecDepth 100000 in
theorem ctX10_sortNow {l : Launch} {D : va_G} {k : Nat → ClassId} {Z : ZT} (hZ : ZOK Z) (ot : Nat) (aMO : Nat → Nat) {MO : MoT} {v1 : Int32} {q : Int32} (hf : FX10_sortNow MO v1 = some q) :
    CR l D k Z yX10_sortNow cX10_sortNow 2 (some .int) 1 22 [.ref ot, .int v1] (some (.int q)) (kMo k ot aMO (MO)) := by
  refine CR.start hZ (by decide) (Nat.le_of_ble_eq_true rfl) ?_
  intro p e s m below meth c ls X hl G
  have hx := X.1
  have hb := X.2.1
  have hl : lv_has ls 2 [(0, .ref ot), (1, .int v1)] := hl
  unfold FX10_sortNow at hf
  refine lv_aload_n hx hb dX10_sortNow_0 rfl (lv_at hl 0 rfl) ?_
  refine lv_iload_n hx hb dX10_sortNow_1 rfl (lv_at hl 1 rfl) ?_
  refine lv_aload_n hx hb dX10_sortNow_2 rfl (lv_at hl 0 rfl) ?_
  refine lv_iload_n hx hb dX10_sortNow_3 rfl (lv_at hl 1 rfl) ?_
  obtain ⟨r1, hcr1, hf⟩ := bd_some hf
  refine p_R (st1 := [.int r1, .int v1, .ref ot]) (run_V (rest := [.int v1, .ref ot]) X (ctX10_place hZ ot aMO hcr1) mk_X10_place ml_X10_51 ⟨(Nat.le_of_ble_eq_true rfl), (Nat.le_of_ble_eq_true rfl)⟩ G [0, 1, 2, 3, 4, 5, 6, 7] rfl rfl 0 rfl rfl rfl hl.1 rfl (Nat.le_of_ble_eq_true rfl) dX10_sortNow_4 ⟨Nat.zero_le _, Nat.zero_le _⟩) rfl ?_
  obtain ⟨r2, hcr2, hf⟩ := bd_some hf
  refine p_R (st1 := [.int r2]) (run_V (rest := []) X (ctX10_sort hZ ot aMO hcr2) mk_X10_sort ml_X10_55 ⟨(Nat.le_of_ble_eq_true rfl), (Nat.le_of_ble_eq_true rfl)⟩ G [0, 1, 2, 3, 4, 5, 6, 7] rfl rfl 0 rfl rfl rfl hl.1 rfl (Nat.le_of_ble_eq_true rfl) dX10_sortNow_7 ⟨Nat.zero_le _, Nat.zero_le _⟩) rfl ?_
  cases hf
  exact e_ri X dX10_sortNow_10
theorem mk_X10_sortNow : MV yX10_sortNow cX10_sortNow 2 (some .int) 1 := ⟨co_X10_sortNow, in_X10, im_X10_sortNow, se_X10_sortNow, by decide +kernel, by decide +kernel⟩
noncomputable def FX10_numberNow (MO : MoT) (v1 : Int32) : Option (Int32) :=
  (FX10_place MO v1).bind fun r1 =>
  (FX10_number MO v1 r1).bind fun r2 =>
  some r2
set_option maxHeartbeats 4000000 in
set_option maxRecDepth 100000 in
theorem ctX10_numberNow {l : Launch} {D : va_G} {k : Nat → ClassId} {Z : ZT} (hZ : ZOK Z) (ot : Nat) (aMO : Nat → Nat) {MO : MoT} {v1 : Int32} {q : Int32} (hf : FX10_numberNow MO v1 = some q) :
    CR l D k Z yX10_numberNow cX10_numberNow 2 (some .int) 1 22 [.ref ot, .int v1] (some (.int q)) (kMo k ot aMO (MO)) := by
  refine CR.start hZ (by decide) (Nat.le_of_ble_eq_true rfl) ?_
  intro p e s m below meth c ls X hl G
  have hx := X.1
  have hb := X.2.1
  have hl : lv_has ls 2 [(0, .ref ot), (1, .int v1)] := hl
  unfold FX10_numberNow at hf
  refine lv_aload_n hx hb dX10_numberNow_0 rfl (lv_at hl 0 rfl) ?_
  refine lv_iload_n hx hb dX10_numberNow_1 rfl (lv_at hl 1 rfl) ?_
  refine lv_aload_n hx hb dX10_numberNow_2 rfl (lv_at hl 0 rfl) ?_
  refine lv_iload_n hx hb dX10_numberNow_3 rfl (lv_at hl 1 rfl) ?_
  obtain ⟨r1, hcr1, hf⟩ := bd_some hf
  refine p_R (st1 := [.int r1, .int v1, .ref ot]) (run_V (rest := [.int v1, .ref ot]) X (ctX10_place hZ ot aMO hcr1) mk_X10_place ml_X10_51 ⟨(Nat.le_of_ble_eq_true rfl), (Nat.le_of_ble_eq_true rfl)⟩ G [0, 1, 2, 3, 4, 5, 6, 7] rfl rfl 0 rfl rfl rfl hl.1 rfl (Nat.le_of_ble_eq_true rfl) dX10_numberNow_4 ⟨Nat.zero_le _, Nat.zero_le _⟩) rfl ?_
  obtain ⟨r2, hcr2, hf⟩ := bd_some hf
  refine p_R (st1 := [.int r2]) (run_V (rest := []) X (ctX10_number hZ ot aMO hcr2) mk_X10_number ml_X10_59 ⟨(Nat.le_of_ble_eq_true rfl), (Nat.le_of_ble_eq_true rfl)⟩ G [0, 1, 2, 3, 4, 5, 6, 7] rfl rfl 0 rfl rfl rfl hl.1 rfl (Nat.le_of_ble_eq_true rfl) dX10_numberNow_7 ⟨Nat.zero_le _, Nat.zero_le _⟩) rfl ?_
  cases hf
  exact e_ri X dX10_numberNow_10
theorem mk_X10_numberNow : MV yX10_numberNow cX10_numberNow 2 (some .int) 1 := ⟨co_X10_numberNow, in_X10, im_X10_numberNow, se_X10_numberNow, by decide +kernel, by decide +kernel⟩
noncomputable def FX10_quiet (MO : MoT) (v1 : Int32) : Option (Int32) :=
  nm ((Mo_b MO) + (207 : Int32)) fun x1 =>
  ix x1 9519 <|
  nm (((Mo_b MO) + (224 : Int32)) + v1) fun x3 =>
  ix x3 9519 <|
  some ((Mo_all MO (Int32.toNatClampNeg x1)) - (Mo_all MO (Int32.toNatClampNeg x3)))
set_option maxHeartbeats 4000000 in
set_option maxRecDepth 100000 in
theorem ctX10_quiet {l : Launch} {D : va_G} {k : Nat → ClassId} {Z : ZT} (hZ : ZOK Z) (ot : Nat) (aMO : Nat → Nat) {MO : MoT} {v1 : Int32} {q : Int32} (hf : FX10_quiet MO v1 = some q) :
    CR l D k Z yX10_quiet cX10_quiet 2 (some .int) 0 0 [.ref ot, .int v1] (some (.int q)) (kMo k ot aMO (MO)) := by
  refine CR.start hZ (by decide) (Nat.le_of_ble_eq_true rfl) ?_
  intro p e s m below meth c ls X hl G
  have hx := X.1
  have hb := X.2.1
  have hl : lv_has ls 2 [(0, .ref ot), (1, .int v1)] := hl
  unfold FX10_quiet at hf
  refine lv_aload_n hx hb dX10_quiet_0 rfl (lv_at hl 0 rfl) ?_
  refine r_get X inw_X10 G 0 rfl rfl 0 (by decide) fl_X10_7 (v := .ref (aMO 0)) rfl dX10_quiet_1 ?_
  refine lv_aload_n hx hb dX10_quiet_4 rfl (lv_at hl 0 rfl) ?_
  refine r_get X inw_X10 G 0 rfl rfl 7 (by decide) fl_X10_40 (v := .int (Mo_b MO)) rfl dX10_quiet_5 ?_
  refine lv_sipush (v := 207) hx hb dX10_quiet_8 (by decide) ?_
  refine lv_iadd hx hb dX10_quiet_11 ?_
  obtain ⟨x1, ex1, hf⟩ := nm_some hf
  refine r_top (congrArg Value.int ex1) ?_
  obtain ⟨h2, hf⟩ := ix_some hf
  refine r_iald X G 1 rfl h2 dX10_quiet_12 ?_
  refine lv_aload_n hx hb dX10_quiet_13 rfl (lv_at hl 0 rfl) ?_
  refine r_get X inw_X10 G 0 rfl rfl 0 (by decide) fl_X10_7 (v := .ref (aMO 0)) rfl dX10_quiet_14 ?_
  refine lv_aload_n hx hb dX10_quiet_17 rfl (lv_at hl 0 rfl) ?_
  refine r_get X inw_X10 G 0 rfl rfl 7 (by decide) fl_X10_40 (v := .int (Mo_b MO)) rfl dX10_quiet_18 ?_
  refine lv_sipush (v := 224) hx hb dX10_quiet_21 (by decide) ?_
  refine lv_iadd hx hb dX10_quiet_24 ?_
  refine lv_iload_n hx hb dX10_quiet_25 rfl (lv_at hl 1 rfl) ?_
  refine lv_iadd hx hb dX10_quiet_26 ?_
  obtain ⟨x3, ex3, hf⟩ := nm_some hf
  refine r_top (congrArg Value.int ex3) ?_
  obtain ⟨h4, hf⟩ := ix_some hf
  refine r_iald X G 1 rfl h4 dX10_quiet_27 ?_
  refine lv_isub hx hb dX10_quiet_28 ?_
  cases hf
  exact e_ri X dX10_quiet_29
theorem mk_X10_quiet : MV yX10_quiet cX10_quiet 2 (some .int) 1 := ⟨co_X10_quiet, in_X10, im_X10_quiet, se_X10_quiet, by decide +kernel, by decide +kernel⟩
noncomputable def FX10_beats (MO : MoT) (v1 : Int32) : Option (MoT) :=
  nm ((Mo_b MO) + (207 : Int32)) fun x1 =>
  ix x1 9519 <|
  ix (((Mo_b MO) + (224 : Int32)) + v1) 9519 <|
  nm (sMo_all MO (upd (Mo_all MO) (Int32.toNatClampNeg (((Mo_b MO) + (224 : Int32)) + v1)) (Mo_all MO (Int32.toNatClampNeg x1)))) fun MO4 =>
  ix (((Mo_b MO4) + (314 : Int32)) + v1) 9519 <|
  nm (sMo_all MO4 (upd (Mo_all MO4) (Int32.toNatClampNeg (((Mo_b MO4) + (314 : Int32)) + v1)) (0 : Int32))) fun MO6 =>
  some MO6
set_option maxHeartbeats 4000000 in
set_option maxRecDepth 100000 in
theorem ctX10_beats {l : Launch} {D : va_G} {k : Nat → ClassId} {Z : ZT} (hZ : ZOK Z) (ot : Nat) (aMO : Nat → Nat) {MO : MoT} {v1 : Int32} {q : MoT} (hf : FX10_beats MO v1 = some q) :
    CM l D k Z yX10_beats cX10_beats 2 none 0 0 [.ref ot, .int v1] none (kMo k ot aMO (MO)) (kMo k ot aMO (q)) := by
  refine CM.start hZ (by decide) (Nat.le_of_ble_eq_true rfl) ?_
  intro p e s m below meth c ls X hl G
  have hx := X.1
  have hb := X.2.1
  have hl : lv_has ls 2 [(0, .ref ot), (1, .int v1)] := hl
  unfold FX10_beats at hf
  refine lv_aload_n hx hb dX10_beats_0 rfl (lv_at hl 0 rfl) ?_
  refine r_get X inw_X10 G 0 rfl rfl 0 (by decide) fl_X10_7 (v := .ref (aMO 0)) rfl dX10_beats_1 ?_
  refine lv_aload_n hx hb dX10_beats_4 rfl (lv_at hl 0 rfl) ?_
  refine r_get X inw_X10 G 0 rfl rfl 7 (by decide) fl_X10_40 (v := .int (Mo_b MO)) rfl dX10_beats_5 ?_
  refine lv_sipush (v := 224) hx hb dX10_beats_8 (by decide) ?_
  refine lv_iadd hx hb dX10_beats_11 ?_
  refine lv_iload_n hx hb dX10_beats_12 rfl (lv_at hl 1 rfl) ?_
  refine lv_iadd hx hb dX10_beats_13 ?_
  refine lv_aload_n hx hb dX10_beats_14 rfl (lv_at hl 0 rfl) ?_
  refine r_get X inw_X10 G 0 rfl rfl 0 (by decide) fl_X10_7 (v := .ref (aMO 0)) rfl dX10_beats_15 ?_
  refine lv_aload_n hx hb dX10_beats_18 rfl (lv_at hl 0 rfl) ?_
  refine r_get X inw_X10 G 0 rfl rfl 7 (by decide) fl_X10_40 (v := .int (Mo_b MO)) rfl dX10_beats_19 ?_
  refine lv_sipush (v := 207) hx hb dX10_beats_22 (by decide) ?_
  refine lv_iadd hx hb dX10_beats_25 ?_
  obtain ⟨x1, ex1, hf⟩ := nm_some hf
  refine r_top (congrArg Value.int ex1) ?_
  obtain ⟨h2, hf⟩ := ix_some hf
  refine r_iald X G 1 rfl h2 dX10_beats_26 ?_
  obtain ⟨h3, hf⟩ := ix_some hf
  obtain ⟨MO4, eMO4, hf⟩ := nm_some hf
  refine r_iast X G 1 rfl h3 (ws' := kMo k ot aMO (MO4)) (by subst eMO4; rfl) dX10_beats_27 (fun H locs G => ?_)
  refine lv_aload_n hx hb dX10_beats_28 rfl (lv_at hl 0 rfl) ?_
  refine r_get X inw_X10 G 0 rfl rfl 0 (by decide) fl_X10_7 (v := .ref (aMO 0)) rfl dX10_beats_29 ?_
  refine lv_aload_n hx hb dX10_beats_32 rfl (lv_at hl 0 rfl) ?_
  refine r_get X inw_X10 G 0 rfl rfl 7 (by decide) fl_X10_40 (v := .int (Mo_b MO4)) rfl dX10_beats_33 ?_
  refine lv_sipush (v := 314) hx hb dX10_beats_36 (by decide) ?_
  refine lv_iadd hx hb dX10_beats_39 ?_
  refine lv_iload_n hx hb dX10_beats_40 rfl (lv_at hl 1 rfl) ?_
  refine lv_iadd hx hb dX10_beats_41 ?_
  refine lv_iconst (v := 0) hx hb dX10_beats_42 (by decide) ?_
  obtain ⟨h5, hf⟩ := ix_some hf
  obtain ⟨MO6, eMO6, hf⟩ := nm_some hf
  refine r_iast X G 1 rfl h5 (ws' := kMo k ot aMO (MO6)) (by subst eMO6; rfl) dX10_beats_43 (fun H locs G => ?_)
  cases hf
  exact e_mv X G dX10_beats_44
theorem mk_X10_beats : MV yX10_beats cX10_beats 2 none 1 := ⟨co_X10_beats, in_X10, im_X10_beats, se_X10_beats, by decide +kernel, by decide +kernel⟩
noncomputable def FX10_goesOn_j71 (MO : MoT) (v1 : Int32) (vJ2 : Int32) : Option (MoT) :=
  ix (((Mo_b MO) + (208 : Int32)) + v1) 9519 <|
  nm (sMo_all MO (upd (Mo_all MO) (Int32.toNatClampNeg (((Mo_b MO) + (208 : Int32)) + v1)) vJ2)) fun MO4 =>
  ix (((Mo_b MO4) + (216 : Int32)) + v1) 9519 <|
  nm (sMo_all MO4 (upd (Mo_all MO4) (Int32.toNatClampNeg (((Mo_b MO4) + (216 : Int32)) + v1)) (0 : Int32))) fun MO6 =>
  nm (((Mo_b MO6) + (232 : Int32)) + v1) fun x7 =>
  ix x7 9519 <|
  ix (((Mo_b MO6) + (232 : Int32)) + v1) 9519 <|
  nm (sMo_all MO6 (upd (Mo_all MO6) (Int32.toNatClampNeg (((Mo_b MO6) + (232 : Int32)) + v1)) ((Mo_all MO6 (Int32.toNatClampNeg x7)) + (1 : Int32)))) fun MO10 =>
  (FX10_beats MO10 v1).bind fun r11 =>
  some r11
noncomputable def FX10_goesOn (MO : MoT) (v1 : Int32) : Option (MoT) :=
  (FX10_sortNow MO v1).bind fun r1 =>
  if r1 = (8 : Int32) then (
    FX10_goesOn_j71 MO v1 (0 : Int32)
  ) else (
    if r1 = (9 : Int32) then (
      FX10_goesOn_j71 MO v1 (-1 : Int32)
    ) else (
      (FX10_place MO v1).bind fun r14 =>
      nm (((Mo_b MO) + (7 : Int32)) + v1) fun x15 =>
      ix x15 9519 <|
      if (r14 + (1 : Int32)) = (Mo_all MO (Int32.toNatClampNeg x15)) then (
        FX10_goesOn_j71 MO v1 (-1 : Int32)
      ) else (
        (FX10_place MO v1).bind fun r18 =>
        FX10_goesOn_j71 MO v1 (r18 + (1 : Int32))
      )
    )
  )
set_option maxHeartbeats 4000000 in
set_option maxRecDepth 100000 in
theorem ctX10_goesOn {l : Launch} {D : va_G} {k : Nat → ClassId} {Z : ZT} (hZ : ZOK Z) (ot : Nat) (aMO : Nat → Nat) {MO : MoT} {v1 : Int32} {q : MoT} (hf : FX10_goesOn MO v1 = some q) :
    CM l D k Z yX10_goesOn cX10_goesOn 3 none 2 43 [.ref ot, .int v1] none (kMo k ot aMO (MO)) (kMo k ot aMO (q)) := by
  refine CM.start hZ (by decide) (Nat.le_of_ble_eq_true rfl) ?_
  intro p e s m below meth c ls X hl G
  have hx := X.1
  have hb := X.2.1
  have hl : lv_has ls 3 [(0, .ref ot), (1, .int v1)] := hl
  unfold FX10_goesOn at hf
  refine lv_aload_n hx hb dX10_goesOn_0 rfl (lv_at hl 0 rfl) ?_
  refine lv_iload_n hx hb dX10_goesOn_1 rfl (lv_at hl 1 rfl) ?_
  obtain ⟨r1, hcr1, hf⟩ := bd_some hf
  refine p_R (st1 := [.int r1]) (run_V (rest := []) X (ctX10_sortNow hZ ot aMO hcr1) mk_X10_sortNow ml_X10_62 ⟨(Nat.le_of_ble_eq_true rfl), (Nat.le_of_ble_eq_true rfl)⟩ G [0, 1, 2, 3, 4, 5, 6, 7] rfl rfl 0 rfl rfl rfl hl.1 rfl (Nat.le_of_ble_eq_true rfl) dX10_goesOn_2 ⟨Nat.zero_le _, Nat.zero_le _⟩) rfl ?_
  refine lv_istore_n (lv' := [(2, .int r1), (0, .ref ot), (1, .int v1)]) hx hb dX10_goesOn_5 rfl hl (by decide) rfl (fun ls hl => ?_)
  refine lv_aload_n hx hb dX10_goesOn_6 rfl (lv_at hl 1 rfl) ?_
  refine r_get X inw_X10 G 0 rfl rfl 0 (by decide) fl_X10_7 (v := .ref (aMO 0)) rfl dX10_goesOn_7 ?_
  refine lv_aload_n hx hb dX10_goesOn_10 rfl (lv_at hl 1 rfl) ?_
  refine r_get X inw_X10 G 0 rfl rfl 7 (by decide) fl_X10_40 (v := .int (Mo_b MO)) rfl dX10_goesOn_11 ?_
  refine lv_sipush (v := 208) hx hb dX10_goesOn_14 (by decide) ?_
  refine lv_iadd hx hb dX10_goesOn_17 ?_
  refine lv_iload_n hx hb dX10_goesOn_18 rfl (lv_at hl 2 rfl) ?_
  refine lv_iadd hx hb dX10_goesOn_19 ?_
  refine lv_iload_n hx hb dX10_goesOn_20 rfl (lv_at hl 0 rfl) ?_
  refine lv_bipush (v := 8) hx hb dX10_goesOn_21 (by decide) ?_
  have JJ2 : ∀ (vJ2 : Int32) (H : Heap) (locs : List Loc) (ls : Array Slot), Wo D (wA (kMo k ot aMO (MO))) s.heap (kMo k ot aMO (MO)) H locs → lv_has ls 3 [(0, .ref ot), (1, .int v1)] → FX10_goesOn_j71 MO v1 vJ2 = some q → W p l e (rmz 2 43) s m [.ref ot, .int v1].toArray below meth c H locs 0 0 (MQ below (Qm D none (kMo k ot aMO (MO)) (kMo k ot aMO (q))) [.ref ot, .int v1].toArray s 0 0 (wA (kMo k ot aMO (MO)))) (F0 m 71 ls [.int vJ2, .int (((Mo_b MO) + (208 : Int32)) + v1), .ref (aMO 0)]) := by
    intro vJ2 H locs ls G hl hf
    unfold FX10_goesOn_j71 at hf
    obtain ⟨h3, hf⟩ := ix_some hf
    obtain ⟨MO4, eMO4, hf⟩ := nm_some hf
    refine r_iast X G 1 rfl h3 (ws' := kMo k ot aMO (MO4)) (by subst eMO4; rfl) dX10_goesOn_71 (fun H locs G => ?_)
    refine lv_aload_n hx hb dX10_goesOn_72 rfl (lv_at hl 0 rfl) ?_
    refine r_get X inw_X10 G 0 rfl rfl 0 (by decide) fl_X10_7 (v := .ref (aMO 0)) rfl dX10_goesOn_73 ?_
    refine lv_aload_n hx hb dX10_goesOn_76 rfl (lv_at hl 0 rfl) ?_
    refine r_get X inw_X10 G 0 rfl rfl 7 (by decide) fl_X10_40 (v := .int (Mo_b MO4)) rfl dX10_goesOn_77 ?_
    refine lv_sipush (v := 216) hx hb dX10_goesOn_80 (by decide) ?_
    refine lv_iadd hx hb dX10_goesOn_83 ?_
    refine lv_iload_n hx hb dX10_goesOn_84 rfl (lv_at hl 1 rfl) ?_
    refine lv_iadd hx hb dX10_goesOn_85 ?_
    refine lv_iconst (v := 0) hx hb dX10_goesOn_86 (by decide) ?_
    obtain ⟨h5, hf⟩ := ix_some hf
    obtain ⟨MO6, eMO6, hf⟩ := nm_some hf
    refine r_iast X G 1 rfl h5 (ws' := kMo k ot aMO (MO6)) (by subst eMO6; rfl) dX10_goesOn_87 (fun H locs G => ?_)
    refine lv_aload_n hx hb dX10_goesOn_88 rfl (lv_at hl 0 rfl) ?_
    refine r_get X inw_X10 G 0 rfl rfl 0 (by decide) fl_X10_7 (v := .ref (aMO 0)) rfl dX10_goesOn_89 ?_
    refine lv_aload_n hx hb dX10_goesOn_92 rfl (lv_at hl 0 rfl) ?_
    refine r_get X inw_X10 G 0 rfl rfl 7 (by decide) fl_X10_40 (v := .int (Mo_b MO6)) rfl dX10_goesOn_93 ?_
    refine lv_sipush (v := 232) hx hb dX10_goesOn_96 (by decide) ?_
    refine lv_iadd hx hb dX10_goesOn_99 ?_
    refine lv_iload_n hx hb dX10_goesOn_100 rfl (lv_at hl 1 rfl) ?_
    refine lv_iadd hx hb dX10_goesOn_101 ?_
    refine lv_dup2_11 hx hb dX10_goesOn_102 rfl rfl ?_
    obtain ⟨x7, ex7, hf⟩ := nm_some hf
    refine r_top (congrArg Value.int ex7) ?_
    obtain ⟨h8, hf⟩ := ix_some hf
    refine r_iald X G 1 rfl h8 dX10_goesOn_103 ?_
    refine lv_iconst (v := 1) hx hb dX10_goesOn_104 (by decide) ?_
    refine lv_iadd hx hb dX10_goesOn_105 ?_
    obtain ⟨h9, hf⟩ := ix_some hf
    obtain ⟨MO10, eMO10, hf⟩ := nm_some hf
    refine r_iast X G 1 rfl h9 (ws' := kMo k ot aMO (MO10)) (by subst eMO10; rfl) dX10_goesOn_106 (fun H locs G => ?_)
    refine lv_aload_n hx hb dX10_goesOn_107 rfl (lv_at hl 0 rfl) ?_
    refine lv_iload_n hx hb dX10_goesOn_108 rfl (lv_at hl 1 rfl) ?_
    obtain ⟨r11, hcr11, hf⟩ := bd_some hf
    refine p_N (st1 := []) (wr := []) (ws' := kMo k ot aMO (r11)) (run_V (rest := []) X (ctX10_beats hZ ot aMO hcr11) mk_X10_beats ml_X10_65 ⟨(Nat.le_of_ble_eq_true rfl), (Nat.le_of_ble_eq_true rfl)⟩ G [0, 1, 2, 3, 4, 5, 6, 7] rfl rfl 0 rfl rfl rfl hl.1 rfl (Nat.le_of_ble_eq_true rfl) dX10_goesOn_109 ⟨Nat.zero_le _, Nat.zero_le _⟩) rfl G [0, 1, 2, 3, 4, 5, 6, 7] [] 8 rfl rfl rfl rfl rfl (by decide) (by decide) rfl (fun H locs G => ?_)
    cases hf
    exact e_mv X G dX10_goesOn_112
  refine lv_icmp_ne (tgt := 30) hx hb dX10_goesOn_23 (by decide) (fun c12 => ?_) (fun c12 => ?_)
  · replace hf := if_f hf c12
    refine lv_iload_n hx hb dX10_goesOn_30 rfl (lv_at hl 0 rfl) ?_
    refine lv_bipush (v := 9) hx hb dX10_goesOn_31 (by decide) ?_
    refine lv_icmp_eq (tgt := 60) hx hb dX10_goesOn_33 (by decide) (fun c13 => ?_) (fun c13 => ?_)
    · replace hf := if_t hf c13
      refine lv_iconst (v := -1) hx hb dX10_goesOn_60 (by decide) ?_
      refine lv_goto (tgt := 71) hx hb dX10_goesOn_61 (by decide) ?_
      exact JJ2 (-1 : Int32) _ _ _ G (lv_sub hl [1, 2] rfl) hf
    · replace hf := if_f hf c13
      refine lv_aload_n hx hb dX10_goesOn_36 rfl (lv_at hl 1 rfl) ?_
      refine lv_iload_n hx hb dX10_goesOn_37 rfl (lv_at hl 2 rfl) ?_
      obtain ⟨r14, hcr14, hf⟩ := bd_some hf
      refine p_R (st1 := [.int r14, .int (((Mo_b MO) + (208 : Int32)) + v1), .ref (aMO 0)]) (run_V (rest := [.int (((Mo_b MO) + (208 : Int32)) + v1), .ref (aMO 0)]) X (ctX10_place hZ ot aMO hcr14) mk_X10_place ml_X10_51 ⟨(Nat.le_of_ble_eq_true rfl), (Nat.le_of_ble_eq_true rfl)⟩ G [0, 1, 2, 3, 4, 5, 6, 7] rfl rfl 0 rfl rfl rfl hl.1 rfl (Nat.le_of_ble_eq_true rfl) dX10_goesOn_38 ⟨Nat.zero_le _, Nat.zero_le _⟩) rfl ?_
      refine lv_iconst (v := 1) hx hb dX10_goesOn_41 (by decide) ?_
      refine lv_iadd hx hb dX10_goesOn_42 ?_
      refine lv_aload_n hx hb dX10_goesOn_43 rfl (lv_at hl 1 rfl) ?_
      refine r_get X inw_X10 G 0 rfl rfl 0 (by decide) fl_X10_7 (v := .ref (aMO 0)) rfl dX10_goesOn_44 ?_
      refine lv_aload_n hx hb dX10_goesOn_47 rfl (lv_at hl 1 rfl) ?_
      refine r_get X inw_X10 G 0 rfl rfl 7 (by decide) fl_X10_40 (v := .int (Mo_b MO)) rfl dX10_goesOn_48 ?_
      refine lv_bipush (v := 7) hx hb dX10_goesOn_51 (by decide) ?_
      refine lv_iadd hx hb dX10_goesOn_53 ?_
      refine lv_iload_n hx hb dX10_goesOn_54 rfl (lv_at hl 2 rfl) ?_
      refine lv_iadd hx hb dX10_goesOn_55 ?_
      obtain ⟨x15, ex15, hf⟩ := nm_some hf
      refine r_top (congrArg Value.int ex15) ?_
      obtain ⟨h16, hf⟩ := ix_some hf
      refine r_iald X G 1 rfl h16 dX10_goesOn_56 ?_
      refine lv_icmp_ne (tgt := 64) hx hb dX10_goesOn_57 (by decide) (fun c17 => ?_) (fun c17 => ?_)
      · replace hf := if_f hf c17
        refine lv_aload_n hx hb dX10_goesOn_64 rfl (lv_at hl 1 rfl) ?_
        refine lv_iload_n hx hb dX10_goesOn_65 rfl (lv_at hl 2 rfl) ?_
        obtain ⟨r18, hcr18, hf⟩ := bd_some hf
        refine p_R (st1 := [.int r18, .int (((Mo_b MO) + (208 : Int32)) + v1), .ref (aMO 0)]) (run_V (rest := [.int (((Mo_b MO) + (208 : Int32)) + v1), .ref (aMO 0)]) X (ctX10_place hZ ot aMO hcr18) mk_X10_place ml_X10_51 ⟨(Nat.le_of_ble_eq_true rfl), (Nat.le_of_ble_eq_true rfl)⟩ G [0, 1, 2, 3, 4, 5, 6, 7] rfl rfl 0 rfl rfl rfl hl.1 rfl (Nat.le_of_ble_eq_true rfl) dX10_goesOn_66 ⟨Nat.zero_le _, Nat.zero_le _⟩) rfl ?_
        refine lv_iconst (v := 1) hx hb dX10_goesOn_69 (by decide) ?_
        refine lv_iadd hx hb dX10_goesOn_70 ?_
        exact JJ2 (r18 + (1 : Int32)) _ _ _ G (lv_sub hl [1, 2] rfl) hf
      · replace hf := if_t hf c17
        refine lv_iconst (v := -1) hx hb dX10_goesOn_60 (by decide) ?_
        refine lv_goto (tgt := 71) hx hb dX10_goesOn_61 (by decide) ?_
        exact JJ2 (-1 : Int32) _ _ _ G (lv_sub hl [1, 2] rfl) hf
  · replace hf := if_t hf c12
    refine lv_iconst (v := 0) hx hb dX10_goesOn_26 (by decide) ?_
    refine lv_goto (tgt := 71) hx hb dX10_goesOn_27 (by decide) ?_
    exact JJ2 (0 : Int32) _ _ _ G (lv_sub hl [1, 2] rfl) hf
theorem mk_X10_goesOn : MV yX10_goesOn cX10_goesOn 3 none 1 := ⟨co_X10_goesOn, in_X10, im_X10_goesOn, se_X10_goesOn, by decide +kernel, by decide +kernel⟩
noncomputable def FX10_messageAt (MO : MoT) (v1 : Int32) (v2 : Int32) : Option (Int32) :=
  some ((((Mo_b MO) + (250 : Int32)) + ((8 : Int32) * v1)) + v2)
set_option maxHeartbeats 4000000 in
set_option maxRecDepth 100000 in
theorem ctX10_messageAt {l : Launch} {D : va_G} {k : Nat → ClassId} {Z : ZT} (hZ : ZOK Z) (ot : Nat) (aMO : Nat → Nat) {MO : MoT} {v1 : Int32} {v2 : Int32} {q : Int32} (hf : FX10_messageAt MO v1 v2 = some q) :
    CR l D k Z yX10_messageAt cX10_messageAt 3 (some .int) 0 0 [.ref ot, .int v1, .int v2] (some (.int q)) (kMo k ot aMO (MO)) := by
  refine CR.start hZ (by decide) (Nat.le_of_ble_eq_true rfl) ?_
  intro p e s m below meth c ls X hl G
  have hx := X.1
  have hb := X.2.1
  have hl : lv_has ls 3 [(0, .ref ot), (1, .int v1), (2, .int v2)] := hl
  unfold FX10_messageAt at hf
  refine lv_aload_n hx hb dX10_messageAt_0 rfl (lv_at hl 0 rfl) ?_
  refine r_get X inw_X10 G 0 rfl rfl 7 (by decide) fl_X10_40 (v := .int (Mo_b MO)) rfl dX10_messageAt_1 ?_
  refine lv_sipush (v := 250) hx hb dX10_messageAt_4 (by decide) ?_
  refine lv_iadd hx hb dX10_messageAt_7 ?_
  refine lv_bipush (v := 8) hx hb dX10_messageAt_8 (by decide) ?_
  refine lv_iload_n hx hb dX10_messageAt_10 rfl (lv_at hl 1 rfl) ?_
  refine lv_imul hx hb dX10_messageAt_11 ?_
  refine lv_iadd hx hb dX10_messageAt_12 ?_
  refine lv_iload_n hx hb dX10_messageAt_13 rfl (lv_at hl 2 rfl) ?_
  refine lv_iadd hx hb dX10_messageAt_14 ?_
  cases hf
  exact e_ri X dX10_messageAt_15
theorem mk_X10_messageAt : MV yX10_messageAt cX10_messageAt 3 (some .int) 2 := ⟨co_X10_messageAt, in_X10, im_X10_messageAt, se_X10_messageAt, by decide +kernel, by decide +kernel⟩
noncomputable def FX10_canBe (MO : MoT) (v1 : Int32) : Option (Bool) :=
  (FX10_numberNow MO v1).bind fun r1 =>
  (FX10_sortNow MO v1).bind fun r2 =>
  if r2 = (1 : Int32) then (
    nm (((Mo_b MO) + (240 : Int32)) + r1) fun x4 =>
    ix x4 9519 <|
    if (Mo_all MO (Int32.toNatClampNeg x4)) = (-1 : Int32) then (
      some true
    ) else (
      some false
    )
  ) else (
  if r2 = (3 : Int32) then (
    nm (((Mo_b MO) + (246 : Int32)) + r1) fun x8 =>
    ix x8 9519 <|
    nm (((Mo_b MO) + (3 : Int32)) + r1) fun x10 =>
    ix x10 9519 <|
    if (Mo_all MO (Int32.toNatClampNeg x10)) ≤ (Mo_all MO (Int32.toNatClampNeg x8)) then (
      some false
    ) else (
      some true
    )
  ) else (
  if r2 = (4 : Int32) then (
    nm (((Mo_b MO) + (246 : Int32)) + r1) fun x14 =>
    ix x14 9519 <|
    if (Mo_all MO (Int32.toNatClampNeg x14)) ≤ 0 then (
      some false
    ) else (
      some true
    )
  ) else (
  if r2 = (6 : Int32) then (
    (FX10_messageAt MO v1 r1).bind fun r18 =>
    ix r18 9519 <|
    if (Mo_all MO (Int32.toNatClampNeg r18)) ≤ 0 then (
      some false
    ) else (
      some true
    )
  ) else (
    some true
  ))))
set_option maxHeartbeats 4000000 in
set_option maxRecDepth 100000 in
theorem ctX10_canBe {l : Launch} {D : va_G} {k : Nat → ClassId} {Z : ZT} (hZ : ZOK Z) (ot : Nat) (aMO : Nat → Nat) {MO : MoT} {v1 : Int32} {q : Bool} (hf : FX10_canBe MO v1 = some q) :
    CR l D k Z yX10_canBe cX10_canBe 3 (some .boolean) 2 43 [.ref ot, .int v1] (some (.int (bI q))) (kMo k ot aMO (MO)) := by
  refine CR.start hZ (by decide) (Nat.le_of_ble_eq_true rfl) ?_
  intro p e s m below meth c ls X hl G
  have hx := X.1
  have hb := X.2.1
  have hl : lv_has ls 3 [(0, .ref ot), (1, .int v1)] := hl
  unfold FX10_canBe at hf
  refine lv_aload_n hx hb dX10_canBe_0 rfl (lv_at hl 0 rfl) ?_
  refine lv_iload_n hx hb dX10_canBe_1 rfl (lv_at hl 1 rfl) ?_
  obtain ⟨r1, hcr1, hf⟩ := bd_some hf
  refine p_R (st1 := [.int r1]) (run_V (rest := []) X (ctX10_numberNow hZ ot aMO hcr1) mk_X10_numberNow ml_X10_68 ⟨(Nat.le_of_ble_eq_true rfl), (Nat.le_of_ble_eq_true rfl)⟩ G [0, 1, 2, 3, 4, 5, 6, 7] rfl rfl 0 rfl rfl rfl hl.1 rfl (Nat.le_of_ble_eq_true rfl) dX10_canBe_2 ⟨Nat.zero_le _, Nat.zero_le _⟩) rfl ?_
  refine lv_istore_n (lv' := [(2, .int r1), (0, .ref ot), (1, .int v1)]) hx hb dX10_canBe_5 rfl hl (by decide) rfl (fun ls hl => ?_)
  refine lv_aload_n hx hb dX10_canBe_6 rfl (lv_at hl 1 rfl) ?_
  refine lv_iload_n hx hb dX10_canBe_7 rfl (lv_at hl 2 rfl) ?_
  obtain ⟨r2, hcr2, hf⟩ := bd_some hf
  refine p_R (st1 := [.int r2]) (run_V (rest := []) X (ctX10_sortNow hZ ot aMO hcr2) mk_X10_sortNow ml_X10_62 ⟨(Nat.le_of_ble_eq_true rfl), (Nat.le_of_ble_eq_true rfl)⟩ G [0, 1, 2, 3, 4, 5, 6, 7] rfl rfl 0 rfl rfl rfl hl.1 rfl (Nat.le_of_ble_eq_true rfl) dX10_canBe_8 ⟨Nat.zero_le _, Nat.zero_le _⟩) rfl ?_
  by_cases c3 : r2 = (1 : Int32)
  · replace hf := if_t hf c3
    refine r_tsw X (tgt := 48) dX10_canBe_11 (by rw [c3]; decide +kernel) (by rw [c3]; decide +kernel) ?_
    refine lv_aload_n hx hb dX10_canBe_48 rfl (lv_at hl 1 rfl) ?_
    refine r_get X inw_X10 G 0 rfl rfl 0 (by decide) fl_X10_7 (v := .ref (aMO 0)) rfl dX10_canBe_49 ?_
    refine lv_aload_n hx hb dX10_canBe_52 rfl (lv_at hl 1 rfl) ?_
    refine r_get X inw_X10 G 0 rfl rfl 7 (by decide) fl_X10_40 (v := .int (Mo_b MO)) rfl dX10_canBe_53 ?_
    refine lv_sipush (v := 240) hx hb dX10_canBe_56 (by decide) ?_
    refine lv_iadd hx hb dX10_canBe_59 ?_
    refine lv_iload_n hx hb dX10_canBe_60 rfl (lv_at hl 0 rfl) ?_
    refine lv_iadd hx hb dX10_canBe_61 ?_
    obtain ⟨x4, ex4, hf⟩ := nm_some hf
    refine r_top (congrArg Value.int ex4) ?_
    obtain ⟨h5, hf⟩ := ix_some hf
    refine r_iald X G 1 rfl h5 dX10_canBe_62 ?_
    refine lv_iconst (v := -1) hx hb dX10_canBe_63 (by decide) ?_
    refine lv_icmp_ne (tgt := 71) hx hb dX10_canBe_64 (by decide) (fun c6 => ?_) (fun c6 => ?_)
    · replace hf := if_f hf c6
      refine lv_iconst (v := 0) hx hb dX10_canBe_71 (by decide) ?_
      cases hf
      exact e_rz _ rfl X dX10_canBe_72
    · replace hf := if_t hf c6
      refine lv_iconst (v := 1) hx hb dX10_canBe_67 (by decide) ?_
      refine lv_goto (tgt := 72) hx hb dX10_canBe_68 (by decide) ?_
      cases hf
      exact e_rz _ rfl X dX10_canBe_72
  replace hf := if_f hf c3
  by_cases c7 : r2 = (3 : Int32)
  · replace hf := if_t hf c7
    refine r_tsw X (tgt := 73) dX10_canBe_11 (by rw [c7]; decide +kernel) (by rw [c7]; decide +kernel) ?_
    refine lv_aload_n hx hb dX10_canBe_73 rfl (lv_at hl 1 rfl) ?_
    refine r_get X inw_X10 G 0 rfl rfl 0 (by decide) fl_X10_7 (v := .ref (aMO 0)) rfl dX10_canBe_74 ?_
    refine lv_aload_n hx hb dX10_canBe_77 rfl (lv_at hl 1 rfl) ?_
    refine r_get X inw_X10 G 0 rfl rfl 7 (by decide) fl_X10_40 (v := .int (Mo_b MO)) rfl dX10_canBe_78 ?_
    refine lv_sipush (v := 246) hx hb dX10_canBe_81 (by decide) ?_
    refine lv_iadd hx hb dX10_canBe_84 ?_
    refine lv_iload_n hx hb dX10_canBe_85 rfl (lv_at hl 0 rfl) ?_
    refine lv_iadd hx hb dX10_canBe_86 ?_
    obtain ⟨x8, ex8, hf⟩ := nm_some hf
    refine r_top (congrArg Value.int ex8) ?_
    obtain ⟨h9, hf⟩ := ix_some hf
    refine r_iald X G 1 rfl h9 dX10_canBe_87 ?_
    refine lv_aload_n hx hb dX10_canBe_88 rfl (lv_at hl 1 rfl) ?_
    refine r_get X inw_X10 G 0 rfl rfl 0 (by decide) fl_X10_7 (v := .ref (aMO 0)) rfl dX10_canBe_89 ?_
    refine lv_aload_n hx hb dX10_canBe_92 rfl (lv_at hl 1 rfl) ?_
    refine r_get X inw_X10 G 0 rfl rfl 7 (by decide) fl_X10_40 (v := .int (Mo_b MO)) rfl dX10_canBe_93 ?_
    refine lv_iconst (v := 3) hx hb dX10_canBe_96 (by decide) ?_
    refine lv_iadd hx hb dX10_canBe_97 ?_
    refine lv_iload_n hx hb dX10_canBe_98 rfl (lv_at hl 0 rfl) ?_
    refine lv_iadd hx hb dX10_canBe_99 ?_
    obtain ⟨x10, ex10, hf⟩ := nm_some hf
    refine r_top (congrArg Value.int ex10) ?_
    obtain ⟨h11, hf⟩ := ix_some hf
    refine r_iald X G 1 rfl h11 dX10_canBe_100 ?_
    refine lv_icmp_ge (tgt := 108) hx hb dX10_canBe_101 (by decide) (fun c12 => ?_) (fun c12 => ?_)
    · replace hf := if_t hf c12
      refine lv_iconst (v := 0) hx hb dX10_canBe_108 (by decide) ?_
      cases hf
      exact e_rz _ rfl X dX10_canBe_109
    · replace hf := if_f hf c12
      refine lv_iconst (v := 1) hx hb dX10_canBe_104 (by decide) ?_
      refine lv_goto (tgt := 109) hx hb dX10_canBe_105 (by decide) ?_
      cases hf
      exact e_rz _ rfl X dX10_canBe_109
  replace hf := if_f hf c7
  by_cases c13 : r2 = (4 : Int32)
  · replace hf := if_t hf c13
    refine r_tsw X (tgt := 110) dX10_canBe_11 (by rw [c13]; decide +kernel) (by rw [c13]; decide +kernel) ?_
    refine lv_aload_n hx hb dX10_canBe_110 rfl (lv_at hl 1 rfl) ?_
    refine r_get X inw_X10 G 0 rfl rfl 0 (by decide) fl_X10_7 (v := .ref (aMO 0)) rfl dX10_canBe_111 ?_
    refine lv_aload_n hx hb dX10_canBe_114 rfl (lv_at hl 1 rfl) ?_
    refine r_get X inw_X10 G 0 rfl rfl 7 (by decide) fl_X10_40 (v := .int (Mo_b MO)) rfl dX10_canBe_115 ?_
    refine lv_sipush (v := 246) hx hb dX10_canBe_118 (by decide) ?_
    refine lv_iadd hx hb dX10_canBe_121 ?_
    refine lv_iload_n hx hb dX10_canBe_122 rfl (lv_at hl 0 rfl) ?_
    refine lv_iadd hx hb dX10_canBe_123 ?_
    obtain ⟨x14, ex14, hf⟩ := nm_some hf
    refine r_top (congrArg Value.int ex14) ?_
    obtain ⟨h15, hf⟩ := ix_some hf
    refine r_iald X G 1 rfl h15 dX10_canBe_124 ?_
    refine lv_if_le (tgt := 132) hx hb dX10_canBe_125 (by decide) (fun c16 => ?_) (fun c16 => ?_)
    · replace hf := if_t hf c16
      refine lv_iconst (v := 0) hx hb dX10_canBe_132 (by decide) ?_
      cases hf
      exact e_rz _ rfl X dX10_canBe_133
    · replace hf := if_f hf c16
      refine lv_iconst (v := 1) hx hb dX10_canBe_128 (by decide) ?_
      refine lv_goto (tgt := 133) hx hb dX10_canBe_129 (by decide) ?_
      cases hf
      exact e_rz _ rfl X dX10_canBe_133
  replace hf := if_f hf c13
  by_cases c17 : r2 = (6 : Int32)
  · replace hf := if_t hf c17
    refine r_tsw X (tgt := 134) dX10_canBe_11 (by rw [c17]; decide +kernel) (by rw [c17]; decide +kernel) ?_
    refine lv_aload_n hx hb dX10_canBe_134 rfl (lv_at hl 1 rfl) ?_
    refine r_get X inw_X10 G 0 rfl rfl 0 (by decide) fl_X10_7 (v := .ref (aMO 0)) rfl dX10_canBe_135 ?_
    refine lv_aload_n hx hb dX10_canBe_138 rfl (lv_at hl 1 rfl) ?_
    refine lv_iload_n hx hb dX10_canBe_139 rfl (lv_at hl 2 rfl) ?_
    refine lv_iload_n hx hb dX10_canBe_140 rfl (lv_at hl 0 rfl) ?_
    obtain ⟨r18, hcr18, hf⟩ := bd_some hf
    refine p_R (st1 := [.int r18, .ref (aMO 0)]) (run_V (rest := [.ref (aMO 0)]) X (ctX10_messageAt hZ ot aMO hcr18) mk_X10_messageAt ml_X10_71 ⟨(Nat.le_of_ble_eq_true rfl), (Nat.le_of_ble_eq_true rfl)⟩ G [0, 1, 2, 3, 4, 5, 6, 7] rfl rfl 0 rfl rfl rfl hl.1 rfl (Nat.le_of_ble_eq_true rfl) dX10_canBe_141 ⟨Nat.zero_le _, Nat.zero_le _⟩) rfl ?_
    obtain ⟨h19, hf⟩ := ix_some hf
    refine r_iald X G 1 rfl h19 dX10_canBe_144 ?_
    refine lv_if_le (tgt := 152) hx hb dX10_canBe_145 (by decide) (fun c20 => ?_) (fun c20 => ?_)
    · replace hf := if_t hf c20
      refine lv_iconst (v := 0) hx hb dX10_canBe_152 (by decide) ?_
      cases hf
      exact e_rz _ rfl X dX10_canBe_153
    · replace hf := if_f hf c20
      refine lv_iconst (v := 1) hx hb dX10_canBe_148 (by decide) ?_
      refine lv_goto (tgt := 153) hx hb dX10_canBe_149 (by decide) ?_
      cases hf
      exact e_rz _ rfl X dX10_canBe_153
  replace hf := if_f hf c17
  have hd := tsw_d (x := r2) (lo' := 1) (hi' := 6) (dflt := 143) (offs := #[37, 143, 62, 99, 143, 123]) [(1 : Int32), (3 : Int32), (4 : Int32), (6 : Int32)] (by
      intro k hk
      simp only [List.mem_cons, List.not_mem_nil, or_false] at hk
      rcases hk with rfl | rfl | rfl | rfl
      · exact c3
      · exact c7
      · exact c13
      · exact c17
      ) 5 (by decide) (by decide +kernel)
  refine r_tsw X (tgt := 154) dX10_canBe_11 (by rw [hd.1]; rfl) hd.2 ?_
  refine lv_iconst (v := 1) hx hb dX10_canBe_154 (by decide) ?_
  cases hf
  exact e_rz _ rfl X dX10_canBe_155
theorem mk_X10_canBe : MV yX10_canBe cX10_canBe 3 (some .boolean) 1 := ⟨co_X10_canBe, in_X10, im_X10_canBe, se_X10_canBe, by decide +kernel, by decide +kernel⟩
